theorem rel_norm {D : DD} {U : State} {u : Mem} {H : Heap} {q n : Nat} {f g : RW} (hs : mSh u q = some (.inr (0, n))) (h : ∀ j : Nat, j < n → wr (f j) = wr (g j)) (hr : Rel D U (sA u q f) H) : Rel D U (sA u q g) H := by
  obtain ⟨_, hn, hle, hH⟩ := hr.arr (a := q) (ty := 0) (n := n) hs (by decide)
  refine hr.put (a := q) hle rfl (fun _ _ => rfl) rfl rfl ?_ (fun _ _ _ => rfl) (fun _ _ _ => rfl) ?_
  · intro b hb k
    unfold sA up1
    simp only [if_neg hb]
  · refine arr_at (n := n) (by decide) (by decide) hn hle hs ?_
    rw [hH, aX_0, aX_0]
    simp only [vp_cell]
    unfold arrV
    have e : (fun j : Fin n => Value.int ((sA u q f).2.1 q (j : Nat))) = (fun j : Fin n => Value.int ((sA u q g).2.1 q (j : Nat))) := by
      funext j
      congr 1
      rw [← Int32.toInt_inj]
      show mI (sA u q f) q (j : Nat) = mI (sA u q g) q (j : Nat)
      rw [mI_sA, mI_sA]
      exact h j j.isLt
    simp only [e]
theorem vw_norm {C : Cx} {pc : Nat} {lv : LV} {st : List SV} {u : Mem} {c z : Nat} {q n : Nat} {f g : RW} (hs : mSh u q = some (.inr (0, n))) (h : ∀ j : Nat, j < n → wr (f j) = wr (g j)) (k : VW C pc lv st (sA u q g) c z) : VW C pc lv st (sA u q f) c z := by
  obtain ⟨p, l, e, R, s, m, args, below, meth, cd, Q, D⟩ := C
  intro H locs ls hu
  exact k H locs ls (rel_norm hs h hu)

def q_recv (c w : Int) : Int := if ¬ (0 ≤ c ∧ c ≤ 2) then 1 else if ¬ (0 ≤ w ∧ w ≤ 13) then 2 else 0
def m_recvV (f : RW) (c w : Int) : Int := if w ≤ 9 then m_of f c w else if w = 10 then m_rows f c else if w = 11 then m_of f c 12 else if w = 12 then m_should f c else m_onway f c
abbrev rmX8_receiver : Room := { frames := 4, cells := 0, slots := 0, locals := 89 }
set_option maxRecDepth 100000 in
theorem k_receiver {l : Launch} {D : DD} (hfl : l.stackTraces = false) {u : Mem} {m : Nat} (hM : MO u m) {f : RW} (hf : RF f) (h2 : 0 ≤ f 2 ∧ f 2 ≤ 200) (h9 : 0 ≤ f 9 ∧ f 9 ≤ 100) {x w : Int} (hx : rg x) (hw : rg w) : CT l D yX8_receiver cX8_receiver 3 (some .int) rmX8_receiver [xA m, xI x, xI w] (sA u (m + 1) f) (m_pub u m f (q_recv x w) (m_recvV f x w) (sA (sI u m 11 0) (m + 1) f)) := by
  refine CT.of hfl (by decide) (le_b rfl) ?_
  intro C hC hR hL hDD hN
  have hfC : (cxL C).stackTraces = false := by rw [hL]; exact hfl
  show VW C 0 [some (xA m), some (xI x), some (xI w)] [] (sA u (m + 1) f) 0 0
  refine r_aload_n hC dX8_receiver_0 rfl ?_
  refine r_iconst hC dX8_receiver_1 ?_
  refine rM_putI (j := 11) hC hM dX8_receiver_2 fl_X8_35 rfl (by rintro _ ⟨⟩; rfl) (Or.inl rfl) ?_
  obtain ⟨u0, hu0⟩ : ∃ z, z = sI u m 11 0 := ⟨_, rfl⟩
  rw [← hu0]
  have hM : MO u0 m := by rw [hu0]; exact hM.sI _ _ _
  have e4 : mI u0 m 4 = mI u m 4 := by rw [hu0]; exact mI_sI_k u m 0 m (by decide)
  refine r_iload_n hC dX8_receiver_5 rfl ?_
  refine r_iconst hC dX8_receiver_6 ?_
  refine r_iconst hC dX8_receiver_7 ?_
  refine r_S0 hC dX8_receiver_8 mi_X8_in ss_X8_in ml_X8_39 (rm := rmX8_in) rfl rfl rfl ⟨le_b rfl, le_b rfl⟩ (k_in hfC hx ⟨by omega, by omega⟩ ⟨by omega, by omega⟩) ?_ rfl
  refine r_bne (t := 20) hC dX8_receiver_11 (by rfl) (fun h_11 => ?_) (fun h_11 => ?_)
  · skip
    refine r_iload_n hC dX8_receiver_20 rfl ?_
    refine r_tb14 (td := 125) (t0 := 92) (t1 := 92) (t2 := 92) (t3 := 92) (t4 := 92) (t5 := 92) (t6 := 92) (t7 := 92) (t8 := 92) (t9 := 92) (t10 := 99) (t11 := 105) (t12 := 113) (t13 := 119) hC dX8_receiver_21 (by rfl) hw (by rfl) (by rfl) (by rfl) (by rfl) (by rfl) (by rfl) (by rfl) (by rfl) (by rfl) (by rfl) (by rfl) (by rfl) (by rfl) (by rfl) (by rfl) ?_ ?_ ?_ ?_ ?_ ?_ ?_ ?_ ?_ ?_ ?_ ?_ ?_ ?_ ?_
    · intro s_21
      refine r_aload_n hC dX8_receiver_92 rfl ?_
      refine r_iload_n hC dX8_receiver_93 rfl ?_
      refine r_iload_n hC dX8_receiver_94 rfl ?_
      refine rM_V0 hC hM dX8_receiver_95 mi_X8_of se_X8_of ml_X8_58 (rm := rmX8_of) rfl rfl rfl rfl ⟨le_b rfl, le_b rfl⟩ (k_of hfC hM hf ⟨by omega, by omega⟩) ?_ rfl
      refine r_iret hC hR dX8_receiver_98 (le_b rfl) (le_b rfl) ?_
      have ht : (q_recv x w) = 0 := by
        unfold q_recv
        rw [if_neg (fun q => q h_11), if_neg (by omega)]
      unfold m_pub
      rw [ht, if_neg (by decide), ← hu0]
      refine ⟨congrArg (fun i => some (xI i)) ?_, rfl⟩
      unfold m_recvV
      rw [if_pos (by omega)]
    · intro s_21
      refine r_aload_n hC dX8_receiver_92 rfl ?_
      refine r_iload_n hC dX8_receiver_93 rfl ?_
      refine r_iload_n hC dX8_receiver_94 rfl ?_
      refine rM_V0 hC hM dX8_receiver_95 mi_X8_of se_X8_of ml_X8_58 (rm := rmX8_of) rfl rfl rfl rfl ⟨le_b rfl, le_b rfl⟩ (k_of hfC hM hf ⟨by omega, by omega⟩) ?_ rfl
      refine r_iret hC hR dX8_receiver_98 (le_b rfl) (le_b rfl) ?_
      have ht : (q_recv x w) = 0 := by
        unfold q_recv
        rw [if_neg (fun q => q h_11), if_neg (by omega)]
      unfold m_pub
      rw [ht, if_neg (by decide), ← hu0]
      refine ⟨congrArg (fun i => some (xI i)) ?_, rfl⟩
      unfold m_recvV
      rw [if_pos (by omega)]
    · intro s_21
      refine r_aload_n hC dX8_receiver_92 rfl ?_
      refine r_iload_n hC dX8_receiver_93 rfl ?_
      refine r_iload_n hC dX8_receiver_94 rfl ?_
      refine rM_V0 hC hM dX8_receiver_95 mi_X8_of se_X8_of ml_X8_58 (rm := rmX8_of) rfl rfl rfl rfl ⟨le_b rfl, le_b rfl⟩ (k_of hfC hM hf ⟨by omega, by omega⟩) ?_ rfl
      refine r_iret hC hR dX8_receiver_98 (le_b rfl) (le_b rfl) ?_
      have ht : (q_recv x w) = 0 := by
        unfold q_recv
        rw [if_neg (fun q => q h_11), if_neg (by omega)]
      unfold m_pub
      rw [ht, if_neg (by decide), ← hu0]
      refine ⟨congrArg (fun i => some (xI i)) ?_, rfl⟩
      unfold m_recvV
      rw [if_pos (by omega)]
    · intro s_21
      refine r_aload_n hC dX8_receiver_92 rfl ?_
      refine r_iload_n hC dX8_receiver_93 rfl ?_
      refine r_iload_n hC dX8_receiver_94 rfl ?_
      refine rM_V0 hC hM dX8_receiver_95 mi_X8_of se_X8_of ml_X8_58 (rm := rmX8_of) rfl rfl rfl rfl ⟨le_b rfl, le_b rfl⟩ (k_of hfC hM hf ⟨by omega, by omega⟩) ?_ rfl
      refine r_iret hC hR dX8_receiver_98 (le_b rfl) (le_b rfl) ?_
      have ht : (q_recv x w) = 0 := by
        unfold q_recv
        rw [if_neg (fun q => q h_11), if_neg (by omega)]
      unfold m_pub
      rw [ht, if_neg (by decide), ← hu0]
      refine ⟨congrArg (fun i => some (xI i)) ?_, rfl⟩
      unfold m_recvV
      rw [if_pos (by omega)]
    · intro s_21
      refine r_aload_n hC dX8_receiver_92 rfl ?_
      refine r_iload_n hC dX8_receiver_93 rfl ?_
      refine r_iload_n hC dX8_receiver_94 rfl ?_
      refine rM_V0 hC hM dX8_receiver_95 mi_X8_of se_X8_of ml_X8_58 (rm := rmX8_of) rfl rfl rfl rfl ⟨le_b rfl, le_b rfl⟩ (k_of hfC hM hf ⟨by omega, by omega⟩) ?_ rfl
      refine r_iret hC hR dX8_receiver_98 (le_b rfl) (le_b rfl) ?_
      have ht : (q_recv x w) = 0 := by
        unfold q_recv
        rw [if_neg (fun q => q h_11), if_neg (by omega)]
      unfold m_pub
      rw [ht, if_neg (by decide), ← hu0]
      refine ⟨congrArg (fun i => some (xI i)) ?_, rfl⟩
      unfold m_recvV
      rw [if_pos (by omega)]
    · intro s_21
      refine r_aload_n hC dX8_receiver_92 rfl ?_
      refine r_iload_n hC dX8_receiver_93 rfl ?_
      refine r_iload_n hC dX8_receiver_94 rfl ?_
      refine rM_V0 hC hM dX8_receiver_95 mi_X8_of se_X8_of ml_X8_58 (rm := rmX8_of) rfl rfl rfl rfl ⟨le_b rfl, le_b rfl⟩ (k_of hfC hM hf ⟨by omega, by omega⟩) ?_ rfl
      refine r_iret hC hR dX8_receiver_98 (le_b rfl) (le_b rfl) ?_
      have ht : (q_recv x w) = 0 := by
        unfold q_recv
        rw [if_neg (fun q => q h_11), if_neg (by omega)]
      unfold m_pub
      rw [ht, if_neg (by decide), ← hu0]
      refine ⟨congrArg (fun i => some (xI i)) ?_, rfl⟩
      unfold m_recvV
      rw [if_pos (by omega)]
    · intro s_21
      refine r_aload_n hC dX8_receiver_92 rfl ?_
      refine r_iload_n hC dX8_receiver_93 rfl ?_
      refine r_iload_n hC dX8_receiver_94 rfl ?_
      refine rM_V0 hC hM dX8_receiver_95 mi_X8_of se_X8_of ml_X8_58 (rm := rmX8_of) rfl rfl rfl rfl ⟨le_b rfl, le_b rfl⟩ (k_of hfC hM hf ⟨by omega, by omega⟩) ?_ rfl
      refine r_iret hC hR dX8_receiver_98 (le_b rfl) (le_b rfl) ?_
      have ht : (q_recv x w) = 0 := by
        unfold q_recv
        rw [if_neg (fun q => q h_11), if_neg (by omega)]
      unfold m_pub
      rw [ht, if_neg (by decide), ← hu0]
      refine ⟨congrArg (fun i => some (xI i)) ?_, rfl⟩
      unfold m_recvV
      rw [if_pos (by omega)]
    · intro s_21
      refine r_aload_n hC dX8_receiver_92 rfl ?_
      refine r_iload_n hC dX8_receiver_93 rfl ?_
      refine r_iload_n hC dX8_receiver_94 rfl ?_
      refine rM_V0 hC hM dX8_receiver_95 mi_X8_of se_X8_of ml_X8_58 (rm := rmX8_of) rfl rfl rfl rfl ⟨le_b rfl, le_b rfl⟩ (k_of hfC hM hf ⟨by omega, by omega⟩) ?_ rfl
      refine r_iret hC hR dX8_receiver_98 (le_b rfl) (le_b rfl) ?_
      have ht : (q_recv x w) = 0 := by
        unfold q_recv
        rw [if_neg (fun q => q h_11), if_neg (by omega)]
      unfold m_pub
      rw [ht, if_neg (by decide), ← hu0]
      refine ⟨congrArg (fun i => some (xI i)) ?_, rfl⟩
      unfold m_recvV
      rw [if_pos (by omega)]
    · intro s_21
      refine r_aload_n hC dX8_receiver_92 rfl ?_
      refine r_iload_n hC dX8_receiver_93 rfl ?_
      refine r_iload_n hC dX8_receiver_94 rfl ?_
      refine rM_V0 hC hM dX8_receiver_95 mi_X8_of se_X8_of ml_X8_58 (rm := rmX8_of) rfl rfl rfl rfl ⟨le_b rfl, le_b rfl⟩ (k_of hfC hM hf ⟨by omega, by omega⟩) ?_ rfl
      refine r_iret hC hR dX8_receiver_98 (le_b rfl) (le_b rfl) ?_
      have ht : (q_recv x w) = 0 := by
        unfold q_recv
        rw [if_neg (fun q => q h_11), if_neg (by omega)]
      unfold m_pub
      rw [ht, if_neg (by decide), ← hu0]
      refine ⟨congrArg (fun i => some (xI i)) ?_, rfl⟩
      unfold m_recvV
      rw [if_pos (by omega)]
    · intro s_21
      refine r_aload_n hC dX8_receiver_92 rfl ?_
      refine r_iload_n hC dX8_receiver_93 rfl ?_
      refine r_iload_n hC dX8_receiver_94 rfl ?_
      refine rM_V0 hC hM dX8_receiver_95 mi_X8_of se_X8_of ml_X8_58 (rm := rmX8_of) rfl rfl rfl rfl ⟨le_b rfl, le_b rfl⟩ (k_of hfC hM hf ⟨by omega, by omega⟩) ?_ rfl
      refine r_iret hC hR dX8_receiver_98 (le_b rfl) (le_b rfl) ?_
      have ht : (q_recv x w) = 0 := by
        unfold q_recv
        rw [if_neg (fun q => q h_11), if_neg (by omega)]
      unfold m_pub
      rw [ht, if_neg (by decide), ← hu0]
      refine ⟨congrArg (fun i => some (xI i)) ?_, rfl⟩
      unfold m_recvV
      rw [if_pos (by omega)]
    · intro s_21
      refine r_aload_n hC dX8_receiver_99 rfl ?_
      refine r_iload_n hC dX8_receiver_100 rfl ?_
      refine rM_V0 hC hM dX8_receiver_101 mi_X8_rowsFor se_X8_rowsFor ml_X8_219 (rm := rmX8_rowsFor) rfl rfl rfl rfl ⟨le_b rfl, le_b rfl⟩ (k_rowsFor hfC hM hf h2 ⟨by omega, by omega⟩) ?_ rfl
      refine r_iret hC hR dX8_receiver_104 (le_b rfl) (le_b rfl) ?_
      have ht : (q_recv x w) = 0 := by
        unfold q_recv
        rw [if_neg (fun q => q h_11), if_neg (by omega)]
      unfold m_pub
      rw [ht, if_neg (by decide), ← hu0]
      refine ⟨congrArg (fun i => some (xI i)) ?_, rfl⟩
      unfold m_recvV
      rw [if_neg (by omega), if_pos (by omega)]
    · intro s_21
      refine r_aload_n hC dX8_receiver_105 rfl ?_
      refine r_iload_n hC dX8_receiver_106 rfl ?_
      refine r_bipush hC dX8_receiver_107 (by rfl) ?_
      refine rM_V0 hC hM dX8_receiver_109 mi_X8_of se_X8_of ml_X8_58 (rm := rmX8_of) rfl rfl rfl rfl ⟨le_b rfl, le_b rfl⟩ (k_of hfC hM hf ⟨by omega, by omega⟩) ?_ rfl
      refine r_iret hC hR dX8_receiver_112 (le_b rfl) (le_b rfl) ?_
      have ht : (q_recv x w) = 0 := by
        unfold q_recv
        rw [if_neg (fun q => q h_11), if_neg (by omega)]
      unfold m_pub
      rw [ht, if_neg (by decide), ← hu0]
      refine ⟨congrArg (fun i => some (xI i)) ?_, rfl⟩
      unfold m_recvV
      rw [if_neg (by omega), if_neg (by omega), if_pos (by omega)]
    · intro s_21
      refine r_aload_n hC dX8_receiver_113 rfl ?_
      refine r_iload_n hC dX8_receiver_114 rfl ?_
      refine rM_V0 hC hM dX8_receiver_115 mi_X8_shouldHave se_X8_shouldHave ml_X8_222 (rm := rmX8_shouldHave) rfl rfl rfl rfl ⟨le_b rfl, le_b rfl⟩ (k_shouldHave hfC hM hf h2 ⟨by omega, by omega⟩) ?_ rfl
      refine r_iret hC hR dX8_receiver_118 (le_b rfl) (le_b rfl) ?_
      have ht : (q_recv x w) = 0 := by
        unfold q_recv
        rw [if_neg (fun q => q h_11), if_neg (by omega)]
      unfold m_pub
      rw [ht, if_neg (by decide), ← hu0]
      refine ⟨congrArg (fun i => some (xI i)) ?_, rfl⟩
      unfold m_recvV
      rw [if_neg (by omega), if_neg (by omega), if_neg (by omega), if_pos (by omega)]
    · intro s_21
      refine r_aload_n hC dX8_receiver_119 rfl ?_
      refine r_iload_n hC dX8_receiver_120 rfl ?_
      refine rM_V0 hC hM dX8_receiver_121 mi_X8_onWay se_X8_onWay ml_X8_225 (rm := rmX8_onWay) rfl rfl rfl rfl ⟨le_b rfl, le_b rfl⟩ (k_onWay hfC hM hf h9 hx) ?_ rfl
      refine r_iret hC hR dX8_receiver_124 (le_b rfl) (le_b rfl) ?_
      have ht : (q_recv x w) = 0 := by
        unfold q_recv
        rw [if_neg (fun q => q h_11), if_neg (by omega)]
      unfold m_pub
      rw [ht, if_neg (by decide), ← hu0]
      refine ⟨congrArg (fun i => some (xI i)) ?_, rfl⟩
      unfold m_recvV
      rw [if_neg (by omega), if_neg (by omega), if_neg (by omega), if_neg (by omega)]
    · intro n_21
      refine r_aload_n hC dX8_receiver_125 rfl ?_
      refine r_iconst hC dX8_receiver_126 ?_
      refine rM_V0 hC hM dX8_receiver_127 mi_X8_fails se_X8_fails ml_X8_73 (rm := rmX8_fails) rfl rfl rfl rfl ⟨le_b rfl, le_b rfl⟩ (k_fails hfC hM hf) ?_ rfl
      refine r_iret hC hR dX8_receiver_130 (le_b rfl) (le_b rfl) ?_
      have ht : (q_recv x w) = 2 := by
        unfold q_recv
        rw [if_neg (fun q => q h_11), if_pos (by omega)]
      unfold m_pub
      rw [ht, if_pos (by decide), hu0, sI_sI]; exact ⟨rfl, rfl⟩
  · skip
    refine r_aload_n hC dX8_receiver_14 rfl ?_
    refine r_iconst hC dX8_receiver_15 ?_
    refine rM_V0 hC hM dX8_receiver_16 mi_X8_fails se_X8_fails ml_X8_73 (rm := rmX8_fails) rfl rfl rfl rfl ⟨le_b rfl, le_b rfl⟩ (k_fails hfC hM hf) ?_ rfl
    refine r_iret hC hR dX8_receiver_19 (le_b rfl) (le_b rfl) ?_
    have ht : (q_recv x w) = 1 := by
      unfold q_recv
      rw [if_pos h_11]
    unfold m_pub
    rw [ht, if_pos (by decide), hu0, sI_sI]; exact ⟨rfl, rfl⟩

def q_msg (f : RW) (i w : Int) : Int := if ¬ (0 ≤ i ∧ i ≤ f 9 - 1) then 1 else if ¬ (0 ≤ w ∧ w ≤ 4) then 2 else 0
def m_msgV (f : RW) (k w : Int) : Int := if w = 0 then m_way f k 0 else if w = 1 then m_way f k 1 else if w = 2 then m_way f k 2 - f 0 else if w = 3 then m_way f k 3 else m_way f k 4
abbrev rmX8_message : Room := { frames := 2, cells := 0, slots := 0, locals := 46 }
set_option maxRecDepth 100000 in
theorem k_message {l : Launch} {D : DD} (hfl : l.stackTraces = false) {u : Mem} {m : Nat} (hM : MO u m) {f : RW} (hf : RF f) (h9 : 0 ≤ f 9 ∧ f 9 ≤ 100) {i w : Int} (hi : rg i) (hw : rg w) (hr : 0 ≤ i → i < f 9 → 0 ≤ m_ranked f i ∧ m_ranked f i < f 9) : CT l D yX8_message cX8_message 4 (some .int) rmX8_message [xA m, xI i, xI w] (sA u (m + 1) f) (m_pub u m f (q_msg f i w) (m_msgV f (m_ranked f i) w) (sA (sI u m 11 0) (m + 1) f)) := by
  refine CT.of hfl (by decide) (le_b rfl) ?_
  intro C hC hR hL hDD hN
  have hfC : (cxL C).stackTraces = false := by rw [hL]; exact hfl
  show VW C 0 [some (xA m), some (xI i), some (xI w), none] [] (sA u (m + 1) f) 0 0
  refine r_aload_n hC dX8_message_0 rfl ?_
  refine r_iconst hC dX8_message_1 ?_
  refine rM_putI (j := 11) hC hM dX8_message_2 fl_X8_35 rfl (by rintro _ ⟨⟩; rfl) (Or.inl rfl) ?_
  obtain ⟨u0, hu0⟩ : ∃ z, z = sI u m 11 0 := ⟨_, rfl⟩
  rw [← hu0]
  have hM : MO u0 m := by rw [hu0]; exact hM.sI _ _ _
  have e4 : mI u0 m 4 = mI u m 4 := by rw [hu0]; exact mI_sI_k u m 0 m (by decide)
  refine r_iload_n hC dX8_message_5 rfl ?_
  refine r_iconst hC dX8_message_6 ?_
  refine r_aload_n hC dX8_message_7 rfl ?_
  refine r_getR (j := 0) hC dX8_message_8 fl_X8_7 rfl rfl hM.o hM.p_row ?_
  refine r_bipush hC dX8_message_11 (by rfl) ?_
  refine rM_ald hC hM (by (repeat (first | assumption | with_reducible apply rf_up | with_reducible apply rf_setm | with_reducible apply rf_mI | with_reducible apply rf_begins | with_reducible apply rf_writes | with_reducible apply rf_drops | with_reducible apply rf_commitL | with_reducible apply rf_commits | with_reducible apply rf_lost | with_reducible apply rf_sweepL | with_reducible apply rf_sweep1 | with_reducible apply rf_sweeps | with_reducible apply rf_sends0 | with_reducible apply rf_sendsA | with_reducible apply rf_pack | with_reducible apply rf_sends | with_reducible apply rf_works4 | with_reducible apply rf_works7 | with_reducible apply rf_shift | with_reducible apply rf_works | with_reducible apply rf_answerComes | with_reducible apply rf_bcL | with_reducible apply rf_bc1 | with_reducible apply rf_markL | with_reducible apply rf_rel0 | with_reducible apply rf_relays | with_reducible apply rf_cp | with_reducible apply rf_put | with_reducible apply rf_shf | with_reducible apply rf_saved))) dX8_message_13 ⟨by omega, by omega⟩ ?_
  refine r_iconst hC dX8_message_14 ?_
  refine r_isub hC dX8_message_15 ?_
  refine r_S0 hC dX8_message_16 mi_X8_in ss_X8_in ml_X8_39 (rm := rmX8_in) rfl rfl rfl ⟨le_b rfl, le_b rfl⟩ (k_in hfC hi rg_0 ⟨by omega, by omega⟩) ?_ rfl
  refine r_bne (t := 28) hC dX8_message_19 (by rfl) (fun h_19 => ?_) (fun h_19 => ?_)
  · skip
    refine r_aload_n hC dX8_message_28 rfl ?_
    refine r_iload_n hC dX8_message_29 rfl ?_
    refine rM_V0 hC hM dX8_message_30 mi_X8_ranked se_X8_ranked ml_X8_164 (rm := rmX8_ranked) rfl rfl rfl rfl ⟨le_b rfl, le_b rfl⟩ (k_ranked hfC hM hf h9 hi) ?_ rfl
    refine r_istore_n (lv' := [_, _, _, _]) hC dX8_message_33 (lt_b rfl) rfl (lt_b rfl) rfl ?_
    refine r_iload_n hC dX8_message_34 rfl ?_
    refine r_tb5 (td := 110) (t0 := 68) (t1 := 75) (t2 := 82) (t3 := 96) (t4 := 103) hC dX8_message_35 (by rfl) hw (by rfl) (by rfl) (by rfl) (by rfl) (by rfl) (by rfl) ?_ ?_ ?_ ?_ ?_ ?_
    · intro s_35
      refine r_aload_n hC dX8_message_68 rfl ?_
      refine r_iload_n hC dX8_message_69 rfl ?_
      refine r_iconst hC dX8_message_70 ?_
      refine rM_V0 hC hM dX8_message_71 mi_X8_way se_X8_way ml_X8_101 (rm := rmX8_way) rfl rfl rfl rfl ⟨le_b rfl, le_b rfl⟩ (k_way hfC hM hf (by have := hr (by omega) (by omega); omega)) ?_ rfl
      refine r_iret hC hR dX8_message_74 (le_b rfl) (le_b rfl) ?_
      have ht : (q_msg f i w) = 0 := by
        unfold q_msg
        rw [if_neg (fun q => q h_19), if_neg (by omega)]
      unfold m_pub
      rw [ht, if_neg (by decide), ← hu0]
      refine ⟨congrArg (fun i => some (xI i)) ?_, rfl⟩
      unfold m_msgV
      rw [if_pos (by omega)]
    · intro s_35
      refine r_aload_n hC dX8_message_75 rfl ?_
      refine r_iload_n hC dX8_message_76 rfl ?_
      refine r_iconst hC dX8_message_77 ?_
      refine rM_V0 hC hM dX8_message_78 mi_X8_way se_X8_way ml_X8_101 (rm := rmX8_way) rfl rfl rfl rfl ⟨le_b rfl, le_b rfl⟩ (k_way hfC hM hf (by have := hr (by omega) (by omega); omega)) ?_ rfl
      refine r_iret hC hR dX8_message_81 (le_b rfl) (le_b rfl) ?_
      have ht : (q_msg f i w) = 0 := by
        unfold q_msg
        rw [if_neg (fun q => q h_19), if_neg (by omega)]
      unfold m_pub
      rw [ht, if_neg (by decide), ← hu0]
      refine ⟨congrArg (fun i => some (xI i)) ?_, rfl⟩
      unfold m_msgV
      rw [if_neg (by omega), if_pos (by omega)]
    · intro s_35
      refine r_aload_n hC dX8_message_82 rfl ?_
      refine r_iload_n hC dX8_message_83 rfl ?_
      refine r_iconst hC dX8_message_84 ?_
      refine rM_V0 hC hM dX8_message_85 mi_X8_way se_X8_way ml_X8_101 (rm := rmX8_way) rfl rfl rfl rfl ⟨le_b rfl, le_b rfl⟩ (k_way hfC hM hf (by have := hr (by omega) (by omega); omega)) ?_ rfl
      refine r_aload_n hC dX8_message_88 rfl ?_
      refine r_getR (j := 0) hC dX8_message_89 fl_X8_7 rfl rfl hM.o hM.p_row ?_
      refine r_iconst hC dX8_message_92 ?_
      refine rM_ald hC hM (by (repeat (first | assumption | with_reducible apply rf_up | with_reducible apply rf_setm | with_reducible apply rf_mI | with_reducible apply rf_begins | with_reducible apply rf_writes | with_reducible apply rf_drops | with_reducible apply rf_commitL | with_reducible apply rf_commits | with_reducible apply rf_lost | with_reducible apply rf_sweepL | with_reducible apply rf_sweep1 | with_reducible apply rf_sweeps | with_reducible apply rf_sends0 | with_reducible apply rf_sendsA | with_reducible apply rf_pack | with_reducible apply rf_sends | with_reducible apply rf_works4 | with_reducible apply rf_works7 | with_reducible apply rf_shift | with_reducible apply rf_works | with_reducible apply rf_answerComes | with_reducible apply rf_bcL | with_reducible apply rf_bc1 | with_reducible apply rf_markL | with_reducible apply rf_rel0 | with_reducible apply rf_relays | with_reducible apply rf_cp | with_reducible apply rf_put | with_reducible apply rf_shf | with_reducible apply rf_saved))) dX8_message_93 ⟨by omega, by omega⟩ ?_
      refine r_isub hC dX8_message_94 ?_
      refine r_iret hC hR dX8_message_95 (le_b rfl) (le_b rfl) ?_
      have ht : (q_msg f i w) = 0 := by
        unfold q_msg
        rw [if_neg (fun q => q h_19), if_neg (by omega)]
      unfold m_pub
      rw [ht, if_neg (by decide), ← hu0]
      refine ⟨congrArg (fun i => some (xI i)) ?_, rfl⟩
      unfold m_msgV
      rw [if_neg (by omega), if_neg (by omega), if_pos (by omega)]
    · intro s_35
      refine r_aload_n hC dX8_message_96 rfl ?_
      refine r_iload_n hC dX8_message_97 rfl ?_
      refine r_iconst hC dX8_message_98 ?_
      refine rM_V0 hC hM dX8_message_99 mi_X8_way se_X8_way ml_X8_101 (rm := rmX8_way) rfl rfl rfl rfl ⟨le_b rfl, le_b rfl⟩ (k_way hfC hM hf (by have := hr (by omega) (by omega); omega)) ?_ rfl
      refine r_iret hC hR dX8_message_102 (le_b rfl) (le_b rfl) ?_
      have ht : (q_msg f i w) = 0 := by
        unfold q_msg
        rw [if_neg (fun q => q h_19), if_neg (by omega)]
      unfold m_pub
      rw [ht, if_neg (by decide), ← hu0]
      refine ⟨congrArg (fun i => some (xI i)) ?_, rfl⟩
      unfold m_msgV
      rw [if_neg (by omega), if_neg (by omega), if_neg (by omega), if_pos (by omega)]
    · intro s_35
      refine r_aload_n hC dX8_message_103 rfl ?_
      refine r_iload_n hC dX8_message_104 rfl ?_
      refine r_iconst hC dX8_message_105 ?_
      refine rM_V0 hC hM dX8_message_106 mi_X8_way se_X8_way ml_X8_101 (rm := rmX8_way) rfl rfl rfl rfl ⟨le_b rfl, le_b rfl⟩ (k_way hfC hM hf (by have := hr (by omega) (by omega); omega)) ?_ rfl
      refine r_iret hC hR dX8_message_109 (le_b rfl) (le_b rfl) ?_
      have ht : (q_msg f i w) = 0 := by
        unfold q_msg
        rw [if_neg (fun q => q h_19), if_neg (by omega)]
      unfold m_pub
      rw [ht, if_neg (by decide), ← hu0]
      refine ⟨congrArg (fun i => some (xI i)) ?_, rfl⟩
      unfold m_msgV
      rw [if_neg (by omega), if_neg (by omega), if_neg (by omega), if_neg (by omega)]
    · intro n_35
      refine r_aload_n hC dX8_message_110 rfl ?_
      refine r_iconst hC dX8_message_111 ?_
      refine rM_V0 hC hM dX8_message_112 mi_X8_fails se_X8_fails ml_X8_73 (rm := rmX8_fails) rfl rfl rfl rfl ⟨le_b rfl, le_b rfl⟩ (k_fails hfC hM hf) ?_ rfl
      refine r_iret hC hR dX8_message_115 (le_b rfl) (le_b rfl) ?_
      have ht : (q_msg f i w) = 2 := by
        unfold q_msg
        rw [if_neg (fun q => q h_19), if_pos (by omega)]
      unfold m_pub
      rw [ht, if_pos (by decide), hu0, sI_sI]; exact ⟨rfl, rfl⟩
  · skip
    refine r_aload_n hC dX8_message_22 rfl ?_
    refine r_iconst hC dX8_message_23 ?_
    refine rM_V0 hC hM dX8_message_24 mi_X8_fails se_X8_fails ml_X8_73 (rm := rmX8_fails) rfl rfl rfl rfl ⟨le_b rfl, le_b rfl⟩ (k_fails hfC hM hf) ?_ rfl
    refine r_iret hC hR dX8_message_27 (le_b rfl) (le_b rfl) ?_
    have ht : (q_msg f i w) = 1 := by
      unfold q_msg
      rw [if_pos h_19]
    unfold m_pub
    rw [ht, if_pos (by decide), hu0, sI_sI]; exact ⟨rfl, rfl⟩

def m_openOnes (f : RW) : Int := m_its f 0 0 + m_its f 1 0 + m_its f 2 0 + m_its f 3 0
def q_count (w : Int) : Int := if ¬ (0 ≤ w ∧ w ≤ 11) then 1 else 0
def m_countV (f : RW) (s w : Int) : Int := if w ≤ 2 then f w else if w = 3 then m_kept f else if w = 4 then f 3 else if w = 5 then f 4 else if w = 6 then f 5 else if w = 7 then f 9 else if w = 8 then f 6 else if w = 9 then f 7 else if w = 10 then m_openOnes f else s
def q_sett (s : Int) : Int := if ¬ (0 ≤ s ∧ s ≤ 6) then 1 else 0
abbrev rmX8_openOnes : Room := { frames := 1, cells := 0, slots := 0, locals := 22 }
set_option maxRecDepth 100000 in
theorem k_openOnes {l : Launch} {D : DD} (hfl : l.stackTraces = false) {u : Mem} {m : Nat} (hM : MO u m) {f : RW} (hf : RF f)  : CT l D yX8_openOnes cX8_openOnes 1 (some .int) rmX8_openOnes [xA m] (sA u (m + 1) f) (RT (xI (m_openOnes f)) (sA u (m + 1) f)) := by
  refine CT.of hfl (by decide) (le_b rfl) ?_
  intro C hC hR hL hDD hN
  have hfC : (cxL C).stackTraces = false := by rw [hL]; exact hfl
  show VW C 0 [some (xA m)] [] (sA u (m + 1) f) 0 0
  refine r_aload_n hC dX8_openOnes_0 rfl ?_
  refine r_iconst hC dX8_openOnes_1 ?_
  refine r_iconst hC dX8_openOnes_2 ?_
  refine rM_V0 hC hM dX8_openOnes_3 mi_X8_its se_X8_its ml_X8_43 (rm := rmX8_its) rfl rfl rfl rfl ⟨le_b rfl, le_b rfl⟩ (k_its hfC hM hf ⟨by omega, by omega⟩) ?_ rfl
  refine r_aload_n hC dX8_openOnes_6 rfl ?_
  refine r_iconst hC dX8_openOnes_7 ?_
  refine r_iconst hC dX8_openOnes_8 ?_
  refine rM_V0 hC hM dX8_openOnes_9 mi_X8_its se_X8_its ml_X8_43 (rm := rmX8_its) rfl rfl rfl rfl ⟨le_b rfl, le_b rfl⟩ (k_its hfC hM hf ⟨by omega, by omega⟩) ?_ rfl
  refine r_iadd hC dX8_openOnes_12 ?_
  refine r_aload_n hC dX8_openOnes_13 rfl ?_
  refine r_iconst hC dX8_openOnes_14 ?_
  refine r_iconst hC dX8_openOnes_15 ?_
  refine rM_V0 hC hM dX8_openOnes_16 mi_X8_its se_X8_its ml_X8_43 (rm := rmX8_its) rfl rfl rfl rfl ⟨le_b rfl, le_b rfl⟩ (k_its hfC hM hf ⟨by omega, by omega⟩) ?_ rfl
  refine r_iadd hC dX8_openOnes_19 ?_
  refine r_aload_n hC dX8_openOnes_20 rfl ?_
  refine r_iconst hC dX8_openOnes_21 ?_
  refine r_iconst hC dX8_openOnes_22 ?_
  refine rM_V0 hC hM dX8_openOnes_23 mi_X8_its se_X8_its ml_X8_43 (rm := rmX8_its) rfl rfl rfl rfl ⟨le_b rfl, le_b rfl⟩ (k_its hfC hM hf ⟨by omega, by omega⟩) ?_ rfl
  refine r_iadd hC dX8_openOnes_26 ?_
  refine r_iret hC hR dX8_openOnes_27 (le_b rfl) (le_b rfl) ?_
  exact ⟨rfl, rfl⟩

abbrev rmX8_count : Room := { frames := 2, cells := 0, slots := 0, locals := 42 }
set_option maxRecDepth 100000 in
theorem k_count {l : Launch} {D : DD} (hfl : l.stackTraces = false) {u : Mem} {m : Nat} (hM : MO u m) {f : RW} (hf : RF f) {w : Int} (hw : rg w) : CT l D yX8_count cX8_count 2 (some .int) rmX8_count [xA m, xI w] (sA u (m + 1) f) (m_pub u m f (q_count w) (m_countV f (mI u m 4) w) (sA (sI u m 11 0) (m + 1) f)) := by
  refine CT.of hfl (by decide) (le_b rfl) ?_
  intro C hC hR hL hDD hN
  have hfC : (cxL C).stackTraces = false := by rw [hL]; exact hfl
  show VW C 0 [some (xA m), some (xI w)] [] (sA u (m + 1) f) 0 0
  refine r_aload_n hC dX8_count_0 rfl ?_
  refine r_iconst hC dX8_count_1 ?_
  refine rM_putI (j := 11) hC hM dX8_count_2 fl_X8_35 rfl (by rintro _ ⟨⟩; rfl) (Or.inl rfl) ?_
  obtain ⟨u0, hu0⟩ : ∃ z, z = sI u m 11 0 := ⟨_, rfl⟩
  rw [← hu0]
  have hM : MO u0 m := by rw [hu0]; exact hM.sI _ _ _
  have e4 : mI u0 m 4 = mI u m 4 := by rw [hu0]; exact mI_sI_k u m 0 m (by decide)
  refine r_iload_n hC dX8_count_5 rfl ?_
  refine r_tb12 (td := 135) (t0 := 68) (t1 := 68) (t2 := 68) (t3 := 75) (t4 := 80) (t5 := 87) (t6 := 94) (t7 := 101) (t8 := 109) (t9 := 117) (t10 := 125) (t11 := 130) hC dX8_count_6 (by rfl) hw (by rfl) (by rfl) (by rfl) (by rfl) (by rfl) (by rfl) (by rfl) (by rfl) (by rfl) (by rfl) (by rfl) (by rfl) (by rfl) ?_ ?_ ?_ ?_ ?_ ?_ ?_ ?_ ?_ ?_ ?_ ?_ ?_
  · intro s_6
    refine r_aload_n hC dX8_count_68 rfl ?_
    refine r_getR (j := 0) hC dX8_count_69 fl_X8_7 rfl rfl hM.o hM.p_row ?_
    refine r_iload_n hC dX8_count_72 rfl ?_
    refine rM_ald hC hM (by (repeat (first | assumption | with_reducible apply rf_up | with_reducible apply rf_setm | with_reducible apply rf_mI | with_reducible apply rf_begins | with_reducible apply rf_writes | with_reducible apply rf_drops | with_reducible apply rf_commitL | with_reducible apply rf_commits | with_reducible apply rf_lost | with_reducible apply rf_sweepL | with_reducible apply rf_sweep1 | with_reducible apply rf_sweeps | with_reducible apply rf_sends0 | with_reducible apply rf_sendsA | with_reducible apply rf_pack | with_reducible apply rf_sends | with_reducible apply rf_works4 | with_reducible apply rf_works7 | with_reducible apply rf_shift | with_reducible apply rf_works | with_reducible apply rf_answerComes | with_reducible apply rf_bcL | with_reducible apply rf_bc1 | with_reducible apply rf_markL | with_reducible apply rf_rel0 | with_reducible apply rf_relays | with_reducible apply rf_cp | with_reducible apply rf_put | with_reducible apply rf_shf | with_reducible apply rf_saved))) dX8_count_73 ⟨by omega, by omega⟩ ?_
    refine r_iret hC hR dX8_count_74 (le_b rfl) (le_b rfl) ?_
    have ht : (q_count w) = 0 := by
      unfold q_count
      rw [if_neg (by omega)]
    unfold m_pub
    rw [ht, if_neg (by decide), ← hu0]
    refine ⟨congrArg (fun i => some (xI i)) ?_, rfl⟩
    unfold m_countV
    rw [if_pos (by omega)]
  · intro s_6
    refine r_aload_n hC dX8_count_68 rfl ?_
    refine r_getR (j := 0) hC dX8_count_69 fl_X8_7 rfl rfl hM.o hM.p_row ?_
    refine r_iload_n hC dX8_count_72 rfl ?_
    refine rM_ald hC hM (by (repeat (first | assumption | with_reducible apply rf_up | with_reducible apply rf_setm | with_reducible apply rf_mI | with_reducible apply rf_begins | with_reducible apply rf_writes | with_reducible apply rf_drops | with_reducible apply rf_commitL | with_reducible apply rf_commits | with_reducible apply rf_lost | with_reducible apply rf_sweepL | with_reducible apply rf_sweep1 | with_reducible apply rf_sweeps | with_reducible apply rf_sends0 | with_reducible apply rf_sendsA | with_reducible apply rf_pack | with_reducible apply rf_sends | with_reducible apply rf_works4 | with_reducible apply rf_works7 | with_reducible apply rf_shift | with_reducible apply rf_works | with_reducible apply rf_answerComes | with_reducible apply rf_bcL | with_reducible apply rf_bc1 | with_reducible apply rf_markL | with_reducible apply rf_rel0 | with_reducible apply rf_relays | with_reducible apply rf_cp | with_reducible apply rf_put | with_reducible apply rf_shf | with_reducible apply rf_saved))) dX8_count_73 ⟨by omega, by omega⟩ ?_
    refine r_iret hC hR dX8_count_74 (le_b rfl) (le_b rfl) ?_
    have ht : (q_count w) = 0 := by
      unfold q_count
      rw [if_neg (by omega)]
    unfold m_pub
    rw [ht, if_neg (by decide), ← hu0]
    refine ⟨congrArg (fun i => some (xI i)) ?_, rfl⟩
    unfold m_countV
    rw [if_pos (by omega)]
  · intro s_6
    refine r_aload_n hC dX8_count_68 rfl ?_
    refine r_getR (j := 0) hC dX8_count_69 fl_X8_7 rfl rfl hM.o hM.p_row ?_
    refine r_iload_n hC dX8_count_72 rfl ?_
    refine rM_ald hC hM (by (repeat (first | assumption | with_reducible apply rf_up | with_reducible apply rf_setm | with_reducible apply rf_mI | with_reducible apply rf_begins | with_reducible apply rf_writes | with_reducible apply rf_drops | with_reducible apply rf_commitL | with_reducible apply rf_commits | with_reducible apply rf_lost | with_reducible apply rf_sweepL | with_reducible apply rf_sweep1 | with_reducible apply rf_sweeps | with_reducible apply rf_sends0 | with_reducible apply rf_sendsA | with_reducible apply rf_pack | with_reducible apply rf_sends | with_reducible apply rf_works4 | with_reducible apply rf_works7 | with_reducible apply rf_shift | with_reducible apply rf_works | with_reducible apply rf_answerComes | with_reducible apply rf_bcL | with_reducible apply rf_bc1 | with_reducible apply rf_markL | with_reducible apply rf_rel0 | with_reducible apply rf_relays | with_reducible apply rf_cp | with_reducible apply rf_put | with_reducible apply rf_shf | with_reducible apply rf_saved))) dX8_count_73 ⟨by omega, by omega⟩ ?_
    refine r_iret hC hR dX8_count_74 (le_b rfl) (le_b rfl) ?_
    have ht : (q_count w) = 0 := by
      unfold q_count
      rw [if_neg (by omega)]
    unfold m_pub
    rw [ht, if_neg (by decide), ← hu0]
    refine ⟨congrArg (fun i => some (xI i)) ?_, rfl⟩
    unfold m_countV
    rw [if_pos (by omega)]
  · intro s_6
    refine r_aload_n hC dX8_count_75 rfl ?_
    refine rM_V0 hC hM dX8_count_76 mi_X8_keptRows se_X8_keptRows ml_X8_91 (rm := rmX8_keptRows) rfl rfl rfl rfl ⟨le_b rfl, le_b rfl⟩ (k_keptRows hfC hM hf) ?_ rfl
    refine r_iret hC hR dX8_count_79 (le_b rfl) (le_b rfl) ?_
    have ht : (q_count w) = 0 := by
      unfold q_count
      rw [if_neg (by omega)]
    unfold m_pub
    rw [ht, if_neg (by decide), ← hu0]
    refine ⟨congrArg (fun i => some (xI i)) ?_, rfl⟩
    unfold m_countV
    rw [if_neg (by omega), if_pos (by omega)]
  · intro s_6
    refine r_aload_n hC dX8_count_80 rfl ?_
    refine r_getR (j := 0) hC dX8_count_81 fl_X8_7 rfl rfl hM.o hM.p_row ?_
    refine r_iconst hC dX8_count_84 ?_
    refine rM_ald hC hM (by (repeat (first | assumption | with_reducible apply rf_up | with_reducible apply rf_setm | with_reducible apply rf_mI | with_reducible apply rf_begins | with_reducible apply rf_writes | with_reducible apply rf_drops | with_reducible apply rf_commitL | with_reducible apply rf_commits | with_reducible apply rf_lost | with_reducible apply rf_sweepL | with_reducible apply rf_sweep1 | with_reducible apply rf_sweeps | with_reducible apply rf_sends0 | with_reducible apply rf_sendsA | with_reducible apply rf_pack | with_reducible apply rf_sends | with_reducible apply rf_works4 | with_reducible apply rf_works7 | with_reducible apply rf_shift | with_reducible apply rf_works | with_reducible apply rf_answerComes | with_reducible apply rf_bcL | with_reducible apply rf_bc1 | with_reducible apply rf_markL | with_reducible apply rf_rel0 | with_reducible apply rf_relays | with_reducible apply rf_cp | with_reducible apply rf_put | with_reducible apply rf_shf | with_reducible apply rf_saved))) dX8_count_85 ⟨by omega, by omega⟩ ?_
    refine r_iret hC hR dX8_count_86 (le_b rfl) (le_b rfl) ?_
    have ht : (q_count w) = 0 := by
      unfold q_count
      rw [if_neg (by omega)]
    unfold m_pub
    rw [ht, if_neg (by decide), ← hu0]
    refine ⟨congrArg (fun i => some (xI i)) ?_, rfl⟩
    unfold m_countV
    rw [if_neg (by omega), if_neg (by omega), if_pos (by omega)]
  · intro s_6
    refine r_aload_n hC dX8_count_87 rfl ?_
    refine r_getR (j := 0) hC dX8_count_88 fl_X8_7 rfl rfl hM.o hM.p_row ?_
    refine r_iconst hC dX8_count_91 ?_
    refine rM_ald hC hM (by (repeat (first | assumption | with_reducible apply rf_up | with_reducible apply rf_setm | with_reducible apply rf_mI | with_reducible apply rf_begins | with_reducible apply rf_writes | with_reducible apply rf_drops | with_reducible apply rf_commitL | with_reducible apply rf_commits | with_reducible apply rf_lost | with_reducible apply rf_sweepL | with_reducible apply rf_sweep1 | with_reducible apply rf_sweeps | with_reducible apply rf_sends0 | with_reducible apply rf_sendsA | with_reducible apply rf_pack | with_reducible apply rf_sends | with_reducible apply rf_works4 | with_reducible apply rf_works7 | with_reducible apply rf_shift | with_reducible apply rf_works | with_reducible apply rf_answerComes | with_reducible apply rf_bcL | with_reducible apply rf_bc1 | with_reducible apply rf_markL | with_reducible apply rf_rel0 | with_reducible apply rf_relays | with_reducible apply rf_cp | with_reducible apply rf_put | with_reducible apply rf_shf | with_reducible apply rf_saved))) dX8_count_92 ⟨by omega, by omega⟩ ?_
    refine r_iret hC hR dX8_count_93 (le_b rfl) (le_b rfl) ?_
    have ht : (q_count w) = 0 := by
      unfold q_count
      rw [if_neg (by omega)]
    unfold m_pub
    rw [ht, if_neg (by decide), ← hu0]
    refine ⟨congrArg (fun i => some (xI i)) ?_, rfl⟩
    unfold m_countV
    rw [if_neg (by omega), if_neg (by omega), if_neg (by omega), if_pos (by omega)]
  · intro s_6
    refine r_aload_n hC dX8_count_94 rfl ?_
    refine r_getR (j := 0) hC dX8_count_95 fl_X8_7 rfl rfl hM.o hM.p_row ?_
    refine r_iconst hC dX8_count_98 ?_
    refine rM_ald hC hM (by (repeat (first | assumption | with_reducible apply rf_up | with_reducible apply rf_setm | with_reducible apply rf_mI | with_reducible apply rf_begins | with_reducible apply rf_writes | with_reducible apply rf_drops | with_reducible apply rf_commitL | with_reducible apply rf_commits | with_reducible apply rf_lost | with_reducible apply rf_sweepL | with_reducible apply rf_sweep1 | with_reducible apply rf_sweeps | with_reducible apply rf_sends0 | with_reducible apply rf_sendsA | with_reducible apply rf_pack | with_reducible apply rf_sends | with_reducible apply rf_works4 | with_reducible apply rf_works7 | with_reducible apply rf_shift | with_reducible apply rf_works | with_reducible apply rf_answerComes | with_reducible apply rf_bcL | with_reducible apply rf_bc1 | with_reducible apply rf_markL | with_reducible apply rf_rel0 | with_reducible apply rf_relays | with_reducible apply rf_cp | with_reducible apply rf_put | with_reducible apply rf_shf | with_reducible apply rf_saved))) dX8_count_99 ⟨by omega, by omega⟩ ?_
    refine r_iret hC hR dX8_count_100 (le_b rfl) (le_b rfl) ?_
    have ht : (q_count w) = 0 := by
      unfold q_count
      rw [if_neg (by omega)]
    unfold m_pub
    rw [ht, if_neg (by decide), ← hu0]
    refine ⟨congrArg (fun i => some (xI i)) ?_, rfl⟩
    unfold m_countV
    rw [if_neg (by omega), if_neg (by omega), if_neg (by omega), if_neg (by omega), if_pos (by omega)]
  · intro s_6
    refine r_aload_n hC dX8_count_101 rfl ?_
    refine r_getR (j := 0) hC dX8_count_102 fl_X8_7 rfl rfl hM.o hM.p_row ?_
    refine r_bipush hC dX8_count_105 (by rfl) ?_
    refine rM_ald hC hM (by (repeat (first | assumption | with_reducible apply rf_up | with_reducible apply rf_setm | with_reducible apply rf_mI | with_reducible apply rf_begins | with_reducible apply rf_writes | with_reducible apply rf_drops | with_reducible apply rf_commitL | with_reducible apply rf_commits | with_reducible apply rf_lost | with_reducible apply rf_sweepL | with_reducible apply rf_sweep1 | with_reducible apply rf_sweeps | with_reducible apply rf_sends0 | with_reducible apply rf_sendsA | with_reducible apply rf_pack | with_reducible apply rf_sends | with_reducible apply rf_works4 | with_reducible apply rf_works7 | with_reducible apply rf_shift | with_reducible apply rf_works | with_reducible apply rf_answerComes | with_reducible apply rf_bcL | with_reducible apply rf_bc1 | with_reducible apply rf_markL | with_reducible apply rf_rel0 | with_reducible apply rf_relays | with_reducible apply rf_cp | with_reducible apply rf_put | with_reducible apply rf_shf | with_reducible apply rf_saved))) dX8_count_107 ⟨by omega, by omega⟩ ?_
    refine r_iret hC hR dX8_count_108 (le_b rfl) (le_b rfl) ?_
    have ht : (q_count w) = 0 := by
      unfold q_count
      rw [if_neg (by omega)]
    unfold m_pub
    rw [ht, if_neg (by decide), ← hu0]
    refine ⟨congrArg (fun i => some (xI i)) ?_, rfl⟩
    unfold m_countV
    rw [if_neg (by omega), if_neg (by omega), if_neg (by omega), if_neg (by omega), if_neg (by omega), if_pos (by omega)]
  · intro s_6
    refine r_aload_n hC dX8_count_109 rfl ?_
    refine r_getR (j := 0) hC dX8_count_110 fl_X8_7 rfl rfl hM.o hM.p_row ?_
    refine r_bipush hC dX8_count_113 (by rfl) ?_
    refine rM_ald hC hM (by (repeat (first | assumption | with_reducible apply rf_up | with_reducible apply rf_setm | with_reducible apply rf_mI | with_reducible apply rf_begins | with_reducible apply rf_writes | with_reducible apply rf_drops | with_reducible apply rf_commitL | with_reducible apply rf_commits | with_reducible apply rf_lost | with_reducible apply rf_sweepL | with_reducible apply rf_sweep1 | with_reducible apply rf_sweeps | with_reducible apply rf_sends0 | with_reducible apply rf_sendsA | with_reducible apply rf_pack | with_reducible apply rf_sends | with_reducible apply rf_works4 | with_reducible apply rf_works7 | with_reducible apply rf_shift | with_reducible apply rf_works | with_reducible apply rf_answerComes | with_reducible apply rf_bcL | with_reducible apply rf_bc1 | with_reducible apply rf_markL | with_reducible apply rf_rel0 | with_reducible apply rf_relays | with_reducible apply rf_cp | with_reducible apply rf_put | with_reducible apply rf_shf | with_reducible apply rf_saved))) dX8_count_115 ⟨by omega, by omega⟩ ?_
    refine r_iret hC hR dX8_count_116 (le_b rfl) (le_b rfl) ?_
    have ht : (q_count w) = 0 := by
      unfold q_count
      rw [if_neg (by omega)]
    unfold m_pub
    rw [ht, if_neg (by decide), ← hu0]
    refine ⟨congrArg (fun i => some (xI i)) ?_, rfl⟩
    unfold m_countV
    rw [if_neg (by omega), if_neg (by omega), if_neg (by omega), if_neg (by omega), if_neg (by omega), if_neg (by omega), if_pos (by omega)]
  · intro s_6
    refine r_aload_n hC dX8_count_117 rfl ?_
    refine r_getR (j := 0) hC dX8_count_118 fl_X8_7 rfl rfl hM.o hM.p_row ?_
    refine r_bipush hC dX8_count_121 (by rfl) ?_
    refine rM_ald hC hM (by (repeat (first | assumption | with_reducible apply rf_up | with_reducible apply rf_setm | with_reducible apply rf_mI | with_reducible apply rf_begins | with_reducible apply rf_writes | with_reducible apply rf_drops | with_reducible apply rf_commitL | with_reducible apply rf_commits | with_reducible apply rf_lost | with_reducible apply rf_sweepL | with_reducible apply rf_sweep1 | with_reducible apply rf_sweeps | with_reducible apply rf_sends0 | with_reducible apply rf_sendsA | with_reducible apply rf_pack | with_reducible apply rf_sends | with_reducible apply rf_works4 | with_reducible apply rf_works7 | with_reducible apply rf_shift | with_reducible apply rf_works | with_reducible apply rf_answerComes | with_reducible apply rf_bcL | with_reducible apply rf_bc1 | with_reducible apply rf_markL | with_reducible apply rf_rel0 | with_reducible apply rf_relays | with_reducible apply rf_cp | with_reducible apply rf_put | with_reducible apply rf_shf | with_reducible apply rf_saved))) dX8_count_123 ⟨by omega, by omega⟩ ?_
    refine r_iret hC hR dX8_count_124 (le_b rfl) (le_b rfl) ?_
    have ht : (q_count w) = 0 := by
      unfold q_count
      rw [if_neg (by omega)]
    unfold m_pub
    rw [ht, if_neg (by decide), ← hu0]
    refine ⟨congrArg (fun i => some (xI i)) ?_, rfl⟩
    unfold m_countV
    rw [if_neg (by omega), if_neg (by omega), if_neg (by omega), if_neg (by omega), if_neg (by omega), if_neg (by omega), if_neg (by omega), if_pos (by omega)]
  · intro s_6
    refine r_aload_n hC dX8_count_125 rfl ?_
    refine rM_V0 hC hM dX8_count_126 mi_X8_openOnes se_X8_openOnes ml_X8_228 (rm := rmX8_openOnes) rfl rfl rfl rfl ⟨le_b rfl, le_b rfl⟩ (k_openOnes hfC hM hf) ?_ rfl
    refine r_iret hC hR dX8_count_129 (le_b rfl) (le_b rfl) ?_
    have ht : (q_count w) = 0 := by
      unfold q_count
      rw [if_neg (by omega)]
    unfold m_pub
    rw [ht, if_neg (by decide), ← hu0]
    refine ⟨congrArg (fun i => some (xI i)) ?_, rfl⟩
    unfold m_countV
    rw [if_neg (by omega), if_neg (by omega), if_neg (by omega), if_neg (by omega), if_neg (by omega), if_neg (by omega), if_neg (by omega), if_neg (by omega), if_pos (by omega)]
  · intro s_6
    refine r_aload_n hC dX8_count_130 rfl ?_
    refine rM_getI (j := 4) hC hM dX8_count_131 fl_X8_70 rfl rfl ?_
    refine r_iret hC hR dX8_count_134 (le_b rfl) (le_b rfl) ?_
    have ht : (q_count w) = 0 := by
      unfold q_count
      rw [if_neg (by omega)]
    unfold m_pub
    rw [ht, if_neg (by decide), ← hu0]
    refine ⟨congrArg (fun i => some (xI i)) ?_, rfl⟩
    unfold m_countV
    rw [if_neg (by omega), if_neg (by omega), if_neg (by omega), if_neg (by omega), if_neg (by omega), if_neg (by omega), if_neg (by omega), if_neg (by omega), if_neg (by omega)]
    exact e4
  · intro n_6
    refine r_aload_n hC dX8_count_135 rfl ?_
    refine r_iconst hC dX8_count_136 ?_
    refine rM_V0 hC hM dX8_count_137 mi_X8_fails se_X8_fails ml_X8_73 (rm := rmX8_fails) rfl rfl rfl rfl ⟨le_b rfl, le_b rfl⟩ (k_fails hfC hM hf) ?_ rfl
    refine r_iret hC hR dX8_count_140 (le_b rfl) (le_b rfl) ?_
    have ht : (q_count w) = 1 := by
      unfold q_count
      rw [if_pos (by omega)]
    unfold m_pub
    rw [ht, if_pos (by decide), hu0, sI_sI]; exact ⟨rfl, rfl⟩

abbrev rmX8_setting : Room := { frames := 1, cells := 0, slots := 0, locals := 22 }
set_option maxRecDepth 100000 in
theorem k_setting {l : Launch} {D : DD} (hfl : l.stackTraces = false) {u : Mem} {m : Nat} (hM : MO u m) {f : RW} (hf : RF f) {s : Int} (hs : rg s) : CT l D yX8_setting cX8_setting 2 (some .int) rmX8_setting [xA m, xI s] (sA u (m + 1) f) (m_pub u m f (q_sett s) (f (10 + s)) (sA (sI u m 11 0) (m + 1) f)) := by
  refine CT.of hfl (by decide) (le_b rfl) ?_
  intro C hC hR hL hDD hN
  have hfC : (cxL C).stackTraces = false := by rw [hL]; exact hfl
  show VW C 0 [some (xA m), some (xI s)] [] (sA u (m + 1) f) 0 0
  refine r_aload_n hC dX8_setting_0 rfl ?_
  refine r_iconst hC dX8_setting_1 ?_
  refine rM_putI (j := 11) hC hM dX8_setting_2 fl_X8_35 rfl (by rintro _ ⟨⟩; rfl) (Or.inl rfl) ?_
  obtain ⟨u0, hu0⟩ : ∃ z, z = sI u m 11 0 := ⟨_, rfl⟩
  rw [← hu0]
  have hM : MO u0 m := by rw [hu0]; exact hM.sI _ _ _
  refine r_iload_n hC dX8_setting_5 rfl ?_
  refine r_iconst hC dX8_setting_6 ?_
  refine r_bipush hC dX8_setting_7 (by rfl) ?_
  refine r_S0 hC dX8_setting_9 mi_X8_in ss_X8_in ml_X8_39 (rm := rmX8_in) rfl rfl rfl ⟨le_b rfl, le_b rfl⟩ (k_in hfC hs ⟨by omega, by omega⟩ ⟨by omega, by omega⟩) ?_ rfl
  refine r_beq (t := 27) hC dX8_setting_12 (by rfl) (fun h_12 => ?_) (fun h_12 => ?_)
  · skip
    refine r_aload_n hC dX8_setting_27 rfl ?_
    refine r_iconst hC dX8_setting_28 ?_
    refine rM_V0 hC hM dX8_setting_29 mi_X8_fails se_X8_fails ml_X8_73 (rm := rmX8_fails) rfl rfl rfl rfl ⟨le_b rfl, le_b rfl⟩ (k_fails hfC hM hf) ?_ rfl
    refine r_iret hC hR dX8_setting_32 (le_b rfl) (le_b rfl) ?_
    first
    | (have ht : q_sett s = 0 := by
        unfold q_sett; rw [if_neg (fun q => q h_12)]
       unfold m_pub
       rw [ht, if_neg (by decide), ← hu0]
       exact ⟨rfl, rfl⟩)
    | (have ht : q_sett s = 1 := by
        unfold q_sett; rw [if_pos h_12]
       unfold m_pub
       rw [ht, if_pos (by decide), hu0, sI_sI]; exact ⟨rfl, rfl⟩)
  · skip
    refine r_aload_n hC dX8_setting_15 rfl ?_
    refine r_getR (j := 0) hC dX8_setting_16 fl_X8_7 rfl rfl hM.o hM.p_row ?_
    refine r_bipush hC dX8_setting_19 (by rfl) ?_
    refine r_iload_n hC dX8_setting_21 rfl ?_
    refine r_iadd hC dX8_setting_22 ?_
    refine rM_ald hC hM (by (repeat (first | assumption | with_reducible apply rf_up | with_reducible apply rf_setm | with_reducible apply rf_mI | with_reducible apply rf_begins | with_reducible apply rf_writes | with_reducible apply rf_drops | with_reducible apply rf_commitL | with_reducible apply rf_commits | with_reducible apply rf_lost | with_reducible apply rf_sweepL | with_reducible apply rf_sweep1 | with_reducible apply rf_sweeps | with_reducible apply rf_sends0 | with_reducible apply rf_sendsA | with_reducible apply rf_pack | with_reducible apply rf_sends | with_reducible apply rf_works4 | with_reducible apply rf_works7 | with_reducible apply rf_shift | with_reducible apply rf_works | with_reducible apply rf_answerComes | with_reducible apply rf_bcL | with_reducible apply rf_bc1 | with_reducible apply rf_markL | with_reducible apply rf_rel0 | with_reducible apply rf_relays | with_reducible apply rf_cp | with_reducible apply rf_put | with_reducible apply rf_shf | with_reducible apply rf_saved))) dX8_setting_23 ⟨by omega, by omega⟩ ?_
    refine r_goto (t := 32) hC dX8_setting_24 (by rfl) ?_
    refine r_iret hC hR dX8_setting_32 (le_b rfl) (le_b rfl) ?_
    first
    | (have ht : q_sett s = 0 := by
        unfold q_sett; rw [if_neg (fun q => q h_12)]
       unfold m_pub
       rw [ht, if_neg (by decide), ← hu0]
       exact ⟨rfl, rfl⟩)
    | (have ht : q_sett s = 1 := by
        unfold q_sett; rw [if_pos h_12]
       unfold m_pub
       rw [ht, if_pos (by decide), hu0, sI_sI]; exact ⟨rfl, rfl⟩)

def m_drained (f : RW) : Bool := decide (f 9 = 0) && (decide (m_rows f 0 = 0) && (decide (m_rows f 1 = 0) && decide (m_rows f 2 = 0)))
theorem m_rows_rg (f : RW) (h2 : 0 ≤ f 2 ∧ f 2 ≤ 200) (c : Int) : 0 ≤ m_rows f c ∧ m_rows f c ≤ 200 := by
  have := m_rowsL_rg f c (f 2).toNat
  unfold m_rows
  omega
abbrev rmX8_isDrained : Room := { frames := 4, cells := 0, slots := 0, locals := 89 }
set_option maxRecDepth 100000 in
theorem k_isDrained {l : Launch} {D : DD} (hfl : l.stackTraces = false) {u : Mem} {m : Nat} (hM : MO u m) {f : RW} (hf : RF f) (h2 : 0 ≤ f 2 ∧ f 2 ≤ 200) : CT l D yX8_isDrained cX8_isDrained 1 (some .boolean) rmX8_isDrained [xA m] (sA u (m + 1) f) (RT (xI (bI (m_drained f = true))) (sA u (m + 1) f)) := by
  refine CT.of hfl (by decide) (le_b rfl) ?_
  intro C hC hR hL hDD hN
  have hfC : (cxL C).stackTraces = false := by rw [hL]; exact hfl
  show VW C 0 [some (xA m)] [] (sA u (m + 1) f) 0 0
  have r0 := m_rows_rg f h2 0
  have r1 := m_rows_rg f h2 1
  have r2 := m_rows_rg f h2 2
  refine r_aload_n hC dX8_isDrained_0 rfl ?_
  refine r_getR (j := 0) hC dX8_isDrained_1 fl_X8_7 rfl rfl hM.o hM.p_row ?_
  refine r_bipush hC dX8_isDrained_4 (by rfl) ?_
  refine rM_ald hC hM (by (repeat (first | assumption | with_reducible apply rf_up | with_reducible apply rf_setm | with_reducible apply rf_mI | with_reducible apply rf_begins | with_reducible apply rf_writes | with_reducible apply rf_drops | with_reducible apply rf_commitL | with_reducible apply rf_commits | with_reducible apply rf_lost | with_reducible apply rf_sweepL | with_reducible apply rf_sweep1 | with_reducible apply rf_sweeps | with_reducible apply rf_sends0 | with_reducible apply rf_sendsA | with_reducible apply rf_pack | with_reducible apply rf_sends | with_reducible apply rf_works4 | with_reducible apply rf_works7 | with_reducible apply rf_shift | with_reducible apply rf_works | with_reducible apply rf_answerComes | with_reducible apply rf_bcL | with_reducible apply rf_bc1 | with_reducible apply rf_markL | with_reducible apply rf_rel0 | with_reducible apply rf_relays | with_reducible apply rf_cp | with_reducible apply rf_put | with_reducible apply rf_shf | with_reducible apply rf_saved))) dX8_isDrained_6 ⟨by omega, by omega⟩ ?_
  refine r_if_ne (t := 38) hC dX8_isDrained_7 (by rfl) (by first | with_reducible exact rg_mI _ _ _ | (with_reducible refine rg_of ?_ _ _; (repeat (first | assumption | with_reducible apply rf_up | with_reducible apply rf_setm | with_reducible apply rf_mI | with_reducible apply rf_begins | with_reducible apply rf_writes | with_reducible apply rf_drops | with_reducible apply rf_commitL | with_reducible apply rf_commits | with_reducible apply rf_lost | with_reducible apply rf_sweepL | with_reducible apply rf_sweep1 | with_reducible apply rf_sweeps | with_reducible apply rf_sends0 | with_reducible apply rf_sendsA | with_reducible apply rf_pack | with_reducible apply rf_sends | with_reducible apply rf_works4 | with_reducible apply rf_works7 | with_reducible apply rf_shift | with_reducible apply rf_works | with_reducible apply rf_answerComes | with_reducible apply rf_bcL | with_reducible apply rf_bc1 | with_reducible apply rf_markL | with_reducible apply rf_rel0 | with_reducible apply rf_relays | with_reducible apply rf_cp | with_reducible apply rf_put | with_reducible apply rf_shf | with_reducible apply rf_saved)); done) | (with_reducible refine rg_its ?_ _ _; (repeat (first | assumption | with_reducible apply rf_up | with_reducible apply rf_setm | with_reducible apply rf_mI | with_reducible apply rf_begins | with_reducible apply rf_writes | with_reducible apply rf_drops | with_reducible apply rf_commitL | with_reducible apply rf_commits | with_reducible apply rf_lost | with_reducible apply rf_sweepL | with_reducible apply rf_sweep1 | with_reducible apply rf_sweeps | with_reducible apply rf_sends0 | with_reducible apply rf_sendsA | with_reducible apply rf_pack | with_reducible apply rf_sends | with_reducible apply rf_works4 | with_reducible apply rf_works7 | with_reducible apply rf_shift | with_reducible apply rf_works | with_reducible apply rf_answerComes | with_reducible apply rf_bcL | with_reducible apply rf_bc1 | with_reducible apply rf_markL | with_reducible apply rf_rel0 | with_reducible apply rf_relays | with_reducible apply rf_cp | with_reducible apply rf_put | with_reducible apply rf_shf | with_reducible apply rf_saved)); done) | (with_reducible refine rg_way ?_ _ _; (repeat (first | assumption | with_reducible apply rf_up | with_reducible apply rf_setm | with_reducible apply rf_mI | with_reducible apply rf_begins | with_reducible apply rf_writes | with_reducible apply rf_drops | with_reducible apply rf_commitL | with_reducible apply rf_commits | with_reducible apply rf_lost | with_reducible apply rf_sweepL | with_reducible apply rf_sweep1 | with_reducible apply rf_sweeps | with_reducible apply rf_sends0 | with_reducible apply rf_sendsA | with_reducible apply rf_pack | with_reducible apply rf_sends | with_reducible apply rf_works4 | with_reducible apply rf_works7 | with_reducible apply rf_shift | with_reducible apply rf_works | with_reducible apply rf_answerComes | with_reducible apply rf_bcL | with_reducible apply rf_bc1 | with_reducible apply rf_markL | with_reducible apply rf_rel0 | with_reducible apply rf_relays | with_reducible apply rf_cp | with_reducible apply rf_put | with_reducible apply rf_shf | with_reducible apply rf_saved)); done) | with_reducible exact rg_and _ _ | (with_reducible refine rg_num ?_ ⟨by omega, by omega⟩; (repeat (first | assumption | with_reducible apply rf_up | with_reducible apply rf_setm | with_reducible apply rf_mI | with_reducible apply rf_begins | with_reducible apply rf_writes | with_reducible apply rf_drops | with_reducible apply rf_commitL | with_reducible apply rf_commits | with_reducible apply rf_lost | with_reducible apply rf_sweepL | with_reducible apply rf_sweep1 | with_reducible apply rf_sweeps | with_reducible apply rf_sends0 | with_reducible apply rf_sendsA | with_reducible apply rf_pack | with_reducible apply rf_sends | with_reducible apply rf_works4 | with_reducible apply rf_works7 | with_reducible apply rf_shift | with_reducible apply rf_works | with_reducible apply rf_answerComes | with_reducible apply rf_bcL | with_reducible apply rf_bc1 | with_reducible apply rf_markL | with_reducible apply rf_rel0 | with_reducible apply rf_relays | with_reducible apply rf_cp | with_reducible apply rf_put | with_reducible apply rf_shf | with_reducible apply rf_saved)); done) | (with_reducible refine rf_at ?_ _; (repeat (first | assumption | with_reducible apply rf_up | with_reducible apply rf_setm | with_reducible apply rf_mI | with_reducible apply rf_begins | with_reducible apply rf_writes | with_reducible apply rf_drops | with_reducible apply rf_commitL | with_reducible apply rf_commits | with_reducible apply rf_lost | with_reducible apply rf_sweepL | with_reducible apply rf_sweep1 | with_reducible apply rf_sweeps | with_reducible apply rf_sends0 | with_reducible apply rf_sendsA | with_reducible apply rf_pack | with_reducible apply rf_sends | with_reducible apply rf_works4 | with_reducible apply rf_works7 | with_reducible apply rf_shift | with_reducible apply rf_works | with_reducible apply rf_answerComes | with_reducible apply rf_bcL | with_reducible apply rf_bc1 | with_reducible apply rf_markL | with_reducible apply rf_rel0 | with_reducible apply rf_relays | with_reducible apply rf_cp | with_reducible apply rf_put | with_reducible apply rf_shf | with_reducible apply rf_saved)); done) | exact ⟨by omega, by omega⟩) (fun h_7 => ?_) (fun h_7 => ?_)
  · skip
    refine r_iconst hC dX8_isDrained_38 ?_
    refine r_zret hC hR dX8_isDrained_39 (by first | exact Or.inl rfl | exact Or.inr rfl) (le_b rfl) (le_b rfl) ?_
    refine ⟨congrArg (fun i => some (xI i)) ?_, rfl⟩
    simp only [bI, m_drained, Bool.and_eq_true, decide_eq_true_eq]
    split <;> omega
  · skip
    refine r_aload_n hC dX8_isDrained_10 rfl ?_
    refine r_iconst hC dX8_isDrained_11 ?_
    refine rM_V0 hC hM dX8_isDrained_12 mi_X8_rowsFor se_X8_rowsFor ml_X8_219 (rm := rmX8_rowsFor) rfl rfl rfl rfl ⟨le_b rfl, le_b rfl⟩ (k_rowsFor hfC hM hf h2 ⟨by omega, by omega⟩) ?_ rfl
    refine r_if_ne (t := 38) hC dX8_isDrained_15 (by rfl) (by first | with_reducible exact rg_mI _ _ _ | (with_reducible refine rg_of ?_ _ _; (repeat (first | assumption | with_reducible apply rf_up | with_reducible apply rf_setm | with_reducible apply rf_mI | with_reducible apply rf_begins | with_reducible apply rf_writes | with_reducible apply rf_drops | with_reducible apply rf_commitL | with_reducible apply rf_commits | with_reducible apply rf_lost | with_reducible apply rf_sweepL | with_reducible apply rf_sweep1 | with_reducible apply rf_sweeps | with_reducible apply rf_sends0 | with_reducible apply rf_sendsA | with_reducible apply rf_pack | with_reducible apply rf_sends | with_reducible apply rf_works4 | with_reducible apply rf_works7 | with_reducible apply rf_shift | with_reducible apply rf_works | with_reducible apply rf_answerComes | with_reducible apply rf_bcL | with_reducible apply rf_bc1 | with_reducible apply rf_markL | with_reducible apply rf_rel0 | with_reducible apply rf_relays | with_reducible apply rf_cp | with_reducible apply rf_put | with_reducible apply rf_shf | with_reducible apply rf_saved)); done) | (with_reducible refine rg_its ?_ _ _; (repeat (first | assumption | with_reducible apply rf_up | with_reducible apply rf_setm | with_reducible apply rf_mI | with_reducible apply rf_begins | with_reducible apply rf_writes | with_reducible apply rf_drops | with_reducible apply rf_commitL | with_reducible apply rf_commits | with_reducible apply rf_lost | with_reducible apply rf_sweepL | with_reducible apply rf_sweep1 | with_reducible apply rf_sweeps | with_reducible apply rf_sends0 | with_reducible apply rf_sendsA | with_reducible apply rf_pack | with_reducible apply rf_sends | with_reducible apply rf_works4 | with_reducible apply rf_works7 | with_reducible apply rf_shift | with_reducible apply rf_works | with_reducible apply rf_answerComes | with_reducible apply rf_bcL | with_reducible apply rf_bc1 | with_reducible apply rf_markL | with_reducible apply rf_rel0 | with_reducible apply rf_relays | with_reducible apply rf_cp | with_reducible apply rf_put | with_reducible apply rf_shf | with_reducible apply rf_saved)); done) | (with_reducible refine rg_way ?_ _ _; (repeat (first | assumption | with_reducible apply rf_up | with_reducible apply rf_setm | with_reducible apply rf_mI | with_reducible apply rf_begins | with_reducible apply rf_writes | with_reducible apply rf_drops | with_reducible apply rf_commitL | with_reducible apply rf_commits | with_reducible apply rf_lost | with_reducible apply rf_sweepL | with_reducible apply rf_sweep1 | with_reducible apply rf_sweeps | with_reducible apply rf_sends0 | with_reducible apply rf_sendsA | with_reducible apply rf_pack | with_reducible apply rf_sends | with_reducible apply rf_works4 | with_reducible apply rf_works7 | with_reducible apply rf_shift | with_reducible apply rf_works | with_reducible apply rf_answerComes | with_reducible apply rf_bcL | with_reducible apply rf_bc1 | with_reducible apply rf_markL | with_reducible apply rf_rel0 | with_reducible apply rf_relays | with_reducible apply rf_cp | with_reducible apply rf_put | with_reducible apply rf_shf | with_reducible apply rf_saved)); done) | with_reducible exact rg_and _ _ | (with_reducible refine rg_num ?_ ⟨by omega, by omega⟩; (repeat (first | assumption | with_reducible apply rf_up | with_reducible apply rf_setm | with_reducible apply rf_mI | with_reducible apply rf_begins | with_reducible apply rf_writes | with_reducible apply rf_drops | with_reducible apply rf_commitL | with_reducible apply rf_commits | with_reducible apply rf_lost | with_reducible apply rf_sweepL | with_reducible apply rf_sweep1 | with_reducible apply rf_sweeps | with_reducible apply rf_sends0 | with_reducible apply rf_sendsA | with_reducible apply rf_pack | with_reducible apply rf_sends | with_reducible apply rf_works4 | with_reducible apply rf_works7 | with_reducible apply rf_shift | with_reducible apply rf_works | with_reducible apply rf_answerComes | with_reducible apply rf_bcL | with_reducible apply rf_bc1 | with_reducible apply rf_markL | with_reducible apply rf_rel0 | with_reducible apply rf_relays | with_reducible apply rf_cp | with_reducible apply rf_put | with_reducible apply rf_shf | with_reducible apply rf_saved)); done) | (with_reducible refine rf_at ?_ _; (repeat (first | assumption | with_reducible apply rf_up | with_reducible apply rf_setm | with_reducible apply rf_mI | with_reducible apply rf_begins | with_reducible apply rf_writes | with_reducible apply rf_drops | with_reducible apply rf_commitL | with_reducible apply rf_commits | with_reducible apply rf_lost | with_reducible apply rf_sweepL | with_reducible apply rf_sweep1 | with_reducible apply rf_sweeps | with_reducible apply rf_sends0 | with_reducible apply rf_sendsA | with_reducible apply rf_pack | with_reducible apply rf_sends | with_reducible apply rf_works4 | with_reducible apply rf_works7 | with_reducible apply rf_shift | with_reducible apply rf_works | with_reducible apply rf_answerComes | with_reducible apply rf_bcL | with_reducible apply rf_bc1 | with_reducible apply rf_markL | with_reducible apply rf_rel0 | with_reducible apply rf_relays | with_reducible apply rf_cp | with_reducible apply rf_put | with_reducible apply rf_shf | with_reducible apply rf_saved)); done) | exact ⟨by omega, by omega⟩) (fun h_15 => ?_) (fun h_15 => ?_)
    · skip
      refine r_iconst hC dX8_isDrained_38 ?_
      refine r_zret hC hR dX8_isDrained_39 (by first | exact Or.inl rfl | exact Or.inr rfl) (le_b rfl) (le_b rfl) ?_
      refine ⟨congrArg (fun i => some (xI i)) ?_, rfl⟩
      simp only [bI, m_drained, Bool.and_eq_true, decide_eq_true_eq]
      split <;> omega
    · skip
      refine r_aload_n hC dX8_isDrained_18 rfl ?_
      refine r_iconst hC dX8_isDrained_19 ?_
      refine rM_V0 hC hM dX8_isDrained_20 mi_X8_rowsFor se_X8_rowsFor ml_X8_219 (rm := rmX8_rowsFor) rfl rfl rfl rfl ⟨le_b rfl, le_b rfl⟩ (k_rowsFor hfC hM hf h2 ⟨by omega, by omega⟩) ?_ rfl
      refine r_if_ne (t := 38) hC dX8_isDrained_23 (by rfl) (by first | with_reducible exact rg_mI _ _ _ | (with_reducible refine rg_of ?_ _ _; (repeat (first | assumption | with_reducible apply rf_up | with_reducible apply rf_setm | with_reducible apply rf_mI | with_reducible apply rf_begins | with_reducible apply rf_writes | with_reducible apply rf_drops | with_reducible apply rf_commitL | with_reducible apply rf_commits | with_reducible apply rf_lost | with_reducible apply rf_sweepL | with_reducible apply rf_sweep1 | with_reducible apply rf_sweeps | with_reducible apply rf_sends0 | with_reducible apply rf_sendsA | with_reducible apply rf_pack | with_reducible apply rf_sends | with_reducible apply rf_works4 | with_reducible apply rf_works7 | with_reducible apply rf_shift | with_reducible apply rf_works | with_reducible apply rf_answerComes | with_reducible apply rf_bcL | with_reducible apply rf_bc1 | with_reducible apply rf_markL | with_reducible apply rf_rel0 | with_reducible apply rf_relays | with_reducible apply rf_cp | with_reducible apply rf_put | with_reducible apply rf_shf | with_reducible apply rf_saved)); done) | (with_reducible refine rg_its ?_ _ _; (repeat (first | assumption | with_reducible apply rf_up | with_reducible apply rf_setm | with_reducible apply rf_mI | with_reducible apply rf_begins | with_reducible apply rf_writes | with_reducible apply rf_drops | with_reducible apply rf_commitL | with_reducible apply rf_commits | with_reducible apply rf_lost | with_reducible apply rf_sweepL | with_reducible apply rf_sweep1 | with_reducible apply rf_sweeps | with_reducible apply rf_sends0 | with_reducible apply rf_sendsA | with_reducible apply rf_pack | with_reducible apply rf_sends | with_reducible apply rf_works4 | with_reducible apply rf_works7 | with_reducible apply rf_shift | with_reducible apply rf_works | with_reducible apply rf_answerComes | with_reducible apply rf_bcL | with_reducible apply rf_bc1 | with_reducible apply rf_markL | with_reducible apply rf_rel0 | with_reducible apply rf_relays | with_reducible apply rf_cp | with_reducible apply rf_put | with_reducible apply rf_shf | with_reducible apply rf_saved)); done) | (with_reducible refine rg_way ?_ _ _; (repeat (first | assumption | with_reducible apply rf_up | with_reducible apply rf_setm | with_reducible apply rf_mI | with_reducible apply rf_begins | with_reducible apply rf_writes | with_reducible apply rf_drops | with_reducible apply rf_commitL | with_reducible apply rf_commits | with_reducible apply rf_lost | with_reducible apply rf_sweepL | with_reducible apply rf_sweep1 | with_reducible apply rf_sweeps | with_reducible apply rf_sends0 | with_reducible apply rf_sendsA | with_reducible apply rf_pack | with_reducible apply rf_sends | with_reducible apply rf_works4 | with_reducible apply rf_works7 | with_reducible apply rf_shift | with_reducible apply rf_works | with_reducible apply rf_answerComes | with_reducible apply rf_bcL | with_reducible apply rf_bc1 | with_reducible apply rf_markL | with_reducible apply rf_rel0 | with_reducible apply rf_relays | with_reducible apply rf_cp | with_reducible apply rf_put | with_reducible apply rf_shf | with_reducible apply rf_saved)); done) | with_reducible exact rg_and _ _ | (with_reducible refine rg_num ?_ ⟨by omega, by omega⟩; (repeat (first | assumption | with_reducible apply rf_up | with_reducible apply rf_setm | with_reducible apply rf_mI | with_reducible apply rf_begins | with_reducible apply rf_writes | with_reducible apply rf_drops | with_reducible apply rf_commitL | with_reducible apply rf_commits | with_reducible apply rf_lost | with_reducible apply rf_sweepL | with_reducible apply rf_sweep1 | with_reducible apply rf_sweeps | with_reducible apply rf_sends0 | with_reducible apply rf_sendsA | with_reducible apply rf_pack | with_reducible apply rf_sends | with_reducible apply rf_works4 | with_reducible apply rf_works7 | with_reducible apply rf_shift | with_reducible apply rf_works | with_reducible apply rf_answerComes | with_reducible apply rf_bcL | with_reducible apply rf_bc1 | with_reducible apply rf_markL | with_reducible apply rf_rel0 | with_reducible apply rf_relays | with_reducible apply rf_cp | with_reducible apply rf_put | with_reducible apply rf_shf | with_reducible apply rf_saved)); done) | (with_reducible refine rf_at ?_ _; (repeat (first | assumption | with_reducible apply rf_up | with_reducible apply rf_setm | with_reducible apply rf_mI | with_reducible apply rf_begins | with_reducible apply rf_writes | with_reducible apply rf_drops | with_reducible apply rf_commitL | with_reducible apply rf_commits | with_reducible apply rf_lost | with_reducible apply rf_sweepL | with_reducible apply rf_sweep1 | with_reducible apply rf_sweeps | with_reducible apply rf_sends0 | with_reducible apply rf_sendsA | with_reducible apply rf_pack | with_reducible apply rf_sends | with_reducible apply rf_works4 | with_reducible apply rf_works7 | with_reducible apply rf_shift | with_reducible apply rf_works | with_reducible apply rf_answerComes | with_reducible apply rf_bcL | with_reducible apply rf_bc1 | with_reducible apply rf_markL | with_reducible apply rf_rel0 | with_reducible apply rf_relays | with_reducible apply rf_cp | with_reducible apply rf_put | with_reducible apply rf_shf | with_reducible apply rf_saved)); done) | exact ⟨by omega, by omega⟩) (fun h_23 => ?_) (fun h_23 => ?_)
      · skip
        refine r_iconst hC dX8_isDrained_38 ?_
        refine r_zret hC hR dX8_isDrained_39 (by first | exact Or.inl rfl | exact Or.inr rfl) (le_b rfl) (le_b rfl) ?_
        refine ⟨congrArg (fun i => some (xI i)) ?_, rfl⟩
        simp only [bI, m_drained, Bool.and_eq_true, decide_eq_true_eq]
        split <;> omega
      · skip
        refine r_aload_n hC dX8_isDrained_26 rfl ?_
        refine r_iconst hC dX8_isDrained_27 ?_
        refine rM_V0 hC hM dX8_isDrained_28 mi_X8_rowsFor se_X8_rowsFor ml_X8_219 (rm := rmX8_rowsFor) rfl rfl rfl rfl ⟨le_b rfl, le_b rfl⟩ (k_rowsFor hfC hM hf h2 ⟨by omega, by omega⟩) ?_ rfl
        refine r_if_ne (t := 38) hC dX8_isDrained_31 (by rfl) (by first | with_reducible exact rg_mI _ _ _ | (with_reducible refine rg_of ?_ _ _; (repeat (first | assumption | with_reducible apply rf_up | with_reducible apply rf_setm | with_reducible apply rf_mI | with_reducible apply rf_begins | with_reducible apply rf_writes | with_reducible apply rf_drops | with_reducible apply rf_commitL | with_reducible apply rf_commits | with_reducible apply rf_lost | with_reducible apply rf_sweepL | with_reducible apply rf_sweep1 | with_reducible apply rf_sweeps | with_reducible apply rf_sends0 | with_reducible apply rf_sendsA | with_reducible apply rf_pack | with_reducible apply rf_sends | with_reducible apply rf_works4 | with_reducible apply rf_works7 | with_reducible apply rf_shift | with_reducible apply rf_works | with_reducible apply rf_answerComes | with_reducible apply rf_bcL | with_reducible apply rf_bc1 | with_reducible apply rf_markL | with_reducible apply rf_rel0 | with_reducible apply rf_relays | with_reducible apply rf_cp | with_reducible apply rf_put | with_reducible apply rf_shf | with_reducible apply rf_saved)); done) | (with_reducible refine rg_its ?_ _ _; (repeat (first | assumption | with_reducible apply rf_up | with_reducible apply rf_setm | with_reducible apply rf_mI | with_reducible apply rf_begins | with_reducible apply rf_writes | with_reducible apply rf_drops | with_reducible apply rf_commitL | with_reducible apply rf_commits | with_reducible apply rf_lost | with_reducible apply rf_sweepL | with_reducible apply rf_sweep1 | with_reducible apply rf_sweeps | with_reducible apply rf_sends0 | with_reducible apply rf_sendsA | with_reducible apply rf_pack | with_reducible apply rf_sends | with_reducible apply rf_works4 | with_reducible apply rf_works7 | with_reducible apply rf_shift | with_reducible apply rf_works | with_reducible apply rf_answerComes | with_reducible apply rf_bcL | with_reducible apply rf_bc1 | with_reducible apply rf_markL | with_reducible apply rf_rel0 | with_reducible apply rf_relays | with_reducible apply rf_cp | with_reducible apply rf_put | with_reducible apply rf_shf | with_reducible apply rf_saved)); done) | (with_reducible refine rg_way ?_ _ _; (repeat (first | assumption | with_reducible apply rf_up | with_reducible apply rf_setm | with_reducible apply rf_mI | with_reducible apply rf_begins | with_reducible apply rf_writes | with_reducible apply rf_drops | with_reducible apply rf_commitL | with_reducible apply rf_commits | with_reducible apply rf_lost | with_reducible apply rf_sweepL | with_reducible apply rf_sweep1 | with_reducible apply rf_sweeps | with_reducible apply rf_sends0 | with_reducible apply rf_sendsA | with_reducible apply rf_pack | with_reducible apply rf_sends | with_reducible apply rf_works4 | with_reducible apply rf_works7 | with_reducible apply rf_shift | with_reducible apply rf_works | with_reducible apply rf_answerComes | with_reducible apply rf_bcL | with_reducible apply rf_bc1 | with_reducible apply rf_markL | with_reducible apply rf_rel0 | with_reducible apply rf_relays | with_reducible apply rf_cp | with_reducible apply rf_put | with_reducible apply rf_shf | with_reducible apply rf_saved)); done) | with_reducible exact rg_and _ _ | (with_reducible refine rg_num ?_ ⟨by omega, by omega⟩; (repeat (first | assumption | with_reducible apply rf_up | with_reducible apply rf_setm | with_reducible apply rf_mI | with_reducible apply rf_begins | with_reducible apply rf_writes | with_reducible apply rf_drops | with_reducible apply rf_commitL | with_reducible apply rf_commits | with_reducible apply rf_lost | with_reducible apply rf_sweepL | with_reducible apply rf_sweep1 | with_reducible apply rf_sweeps | with_reducible apply rf_sends0 | with_reducible apply rf_sendsA | with_reducible apply rf_pack | with_reducible apply rf_sends | with_reducible apply rf_works4 | with_reducible apply rf_works7 | with_reducible apply rf_shift | with_reducible apply rf_works | with_reducible apply rf_answerComes | with_reducible apply rf_bcL | with_reducible apply rf_bc1 | with_reducible apply rf_markL | with_reducible apply rf_rel0 | with_reducible apply rf_relays | with_reducible apply rf_cp | with_reducible apply rf_put | with_reducible apply rf_shf | with_reducible apply rf_saved)); done) | (with_reducible refine rf_at ?_ _; (repeat (first | assumption | with_reducible apply rf_up | with_reducible apply rf_setm | with_reducible apply rf_mI | with_reducible apply rf_begins | with_reducible apply rf_writes | with_reducible apply rf_drops | with_reducible apply rf_commitL | with_reducible apply rf_commits | with_reducible apply rf_lost | with_reducible apply rf_sweepL | with_reducible apply rf_sweep1 | with_reducible apply rf_sweeps | with_reducible apply rf_sends0 | with_reducible apply rf_sendsA | with_reducible apply rf_pack | with_reducible apply rf_sends | with_reducible apply rf_works4 | with_reducible apply rf_works7 | with_reducible apply rf_shift | with_reducible apply rf_works | with_reducible apply rf_answerComes | with_reducible apply rf_bcL | with_reducible apply rf_bc1 | with_reducible apply rf_markL | with_reducible apply rf_rel0 | with_reducible apply rf_relays | with_reducible apply rf_cp | with_reducible apply rf_put | with_reducible apply rf_shf | with_reducible apply rf_saved)); done) | exact ⟨by omega, by omega⟩) (fun h_31 => ?_) (fun h_31 => ?_)
        · skip
          refine r_iconst hC dX8_isDrained_38 ?_
          refine r_zret hC hR dX8_isDrained_39 (by first | exact Or.inl rfl | exact Or.inr rfl) (le_b rfl) (le_b rfl) ?_
          refine ⟨congrArg (fun i => some (xI i)) ?_, rfl⟩
          simp only [bI, m_drained, Bool.and_eq_true, decide_eq_true_eq]
          split <;> omega
        · skip
          refine r_iconst hC dX8_isDrained_34 ?_
          refine r_goto (t := 39) hC dX8_isDrained_35 (by rfl) ?_
          refine r_zret hC hR dX8_isDrained_39 (by first | exact Or.inl rfl | exact Or.inr rfl) (le_b rfl) (le_b rfl) ?_
          refine ⟨congrArg (fun i => some (xI i)) ?_, rfl⟩
          simp only [bI, m_drained, Bool.and_eq_true, decide_eq_true_eq]
          split <;> omega

def m_drainK (f b : RW) : Nat → Nat → Nat
  | 0, k => k
  | n + 1, k => if m_drained (m_pass f b k).1 = true then k else m_drainK f b n (k + 1)
def m_drainT (f b : RW) : Nat := m_drainK f b 300 0
theorem m_drainK_le (f b : RW) (n : Nat) : ∀ k, k ≤ m_drainK f b n k ∧ m_drainK f b n k ≤ k + n := by
  induction n with
  | zero => intro k; exact ⟨Nat.le_refl _, Nat.le_refl _⟩
  | succ n ih =>
    intro k
    simp only [m_drainK]
    split
    · omega
    · have := ih (k + 1); omega
def m_drainV (f b : RW) : Int := if m_drained (m_pass f b (m_drainT f b)).1 = true then (m_drainT f b : Int) else -1
/-- the memory when ticks have been gone through on the row and it was put back -/
def m_tried (u : Mem) (m : Nat) (f : RW) (t : Nat) : Mem := sA (sA u (m + 4) (cp (mI u (m + 4)) f 1651)) (m + 7) (m_pass f (mI u (m + 7)) t).2
abbrev rmX8_drains : Room := { frames := 6, cells := 0, slots := 0, locals := 135 }
set_option maxRecDepth 100000 in
theorem k_drains {l : Launch} {D : DD} (hfl : l.stackTraces = false) {u : Mem} {m : Nat} (hM : MO u m) {f : RW} (hf : RF f) (hp : PassOK f (mI u (m + 7)) 300) (h2k : ∀ k : Nat, k ≤ 300 → 0 ≤ (m_pass f (mI u (m + 7)) k).1 2 ∧ (m_pass f (mI u (m + 7)) k).1 2 ≤ 200) : CT l D yX8_drains cX8_drains 3 (some .int) rmX8_drains [xA m] (sA u (m + 1) f) (RT (xI (m_drainV f (mI u (m + 7)))) (sA (m_tried u m f (m_drainT f (mI u (m + 7)))) (m + 1) f)) := by
  refine CT.of hfl (by decide) (le_b rfl) ?_
  intro C hC hR hL hDD hN
  have hfC : (cxL C).stackTraces = false := by rw [hL]; exact hfl
  obtain ⟨b, hb⟩ : ∃ z, z = mI u (m + 7) := ⟨_, rfl⟩
  have rb : RF b := by rw [hb]; exact rf_mI _ _
  obtain ⟨A, hA⟩ : ∃ z, z = mI u (m + 4) := ⟨_, rfl⟩
  have rA : RF A := by rw [hA]; exact rf_mI _ _
  rw [← hb] at hp h2k hR
  have tl : ∀ k : Nat, k ≤ 300 → k = m_drainT f b → VW C 30 [some (xA m), some (xI k), none] [] (sA (sA (sA u (m + 4) (cp A f 1651)) (m + 7) (m_pass f b k).2) (m + 1) (m_pass f b k).1) 0 0 := by
    intro k hk ek
    have rp := rf_pass hf rb hp k hk
    refine r_aload_n hC dX8_drains_30 rfl ?_
    refine rM_V0 hC ((hM.sA _ _).sA _ _) dX8_drains_31 mi_X8_isDrained se_X8_isDrained ml_X8_234 (rm := rmX8_isDrained) rfl rfl rfl rfl ⟨le_b rfl, le_b rfl⟩ (k_isDrained hfC ((hM.sA _ _).sA _ _) rp.1 (h2k k hk)) ?_ rfl
    refine r_istore_n (lv' := [_, _, _]) hC dX8_drains_34 (lt_b rfl) rfl (lt_b rfl) rfl ?_
    refine r_aload_n hC dX8_drains_35 rfl ?_
    refine rM_V0v hC ((hM.sA _ _).sA _ _) dX8_drains_36 mi_X8_putBack se_X8_putBack ml_X8_237 (rm := rmX8_putBack) rfl rfl rfl rfl ⟨le_b rfl, le_b rfl⟩ (k_putBack hfC ((hM.sA _ _).sA _ _) rp.1) ?_ rfl
    refine vw_norm (q := m + 1) (n := 1651) (g := f) hM.a_row (fun j hj => by
      rw [mI_sA_n _ _ (by omega), mI_sA_f _ _ (rf_cp rA hf _)]
      unfold cp
      rw [if_pos ⟨by omega, by omega⟩, if_pos ⟨by omega, by omega⟩]) ?_
    refine r_iload_n hC dX8_drains_39 rfl ?_
    refine r_beq (t := 47) hC dX8_drains_40 (by rfl) (fun h_40 => ?_) (fun h_40 => ?_)
    · skip
      refine r_iconst hC dX8_drains_47 ?_
      refine r_iret hC hR dX8_drains_48 (le_b rfl) (le_b rfl) ?_
      unfold m_tried m_drainV; rw [← ek, hA, hb]
      first
      | exact ⟨congrArg (fun i => some (xI i)) (by rw [← hb, if_pos h_40]), rfl⟩
      | exact ⟨congrArg (fun i => some (xI i)) (by rw [← hb, if_neg h_40]), rfl⟩
    · skip
      refine r_iload_n hC dX8_drains_43 rfl ?_
      refine r_goto (t := 48) hC dX8_drains_44 (by rfl) ?_
      refine r_iret hC hR dX8_drains_48 (le_b rfl) (le_b rfl) ?_
      unfold m_tried m_drainV; rw [← ek, hA, hb]
      first
      | exact ⟨congrArg (fun i => some (xI i)) (by rw [← hb, if_pos h_40]), rfl⟩
      | exact ⟨congrArg (fun i => some (xI i)) (by rw [← hb, if_neg h_40]), rfl⟩
  have lp : ∀ (n : Nat) (k : Nat), (300 - k = n) → (k ≤ 300) → (m_drainK f b n k = m_drainT f b) → VW C 6 [some (xA m), some (xI k), none] [] (sA (sA (sA u (m + 4) (cp A f 1651)) (m + 7) (m_pass f b k).2) (m + 1) (m_pass f b k).1) 0 0 := by
    intro n
    induction n using Nat.strongRecOn with
    | _ n ih =>
      intro k hn hk hT
      have rp := rf_pass hf rb hp k hk
      refine r_iload_n hC dX8_drains_6 rfl ?_
      refine r_sipush hC dX8_drains_7 (by rfl) ?_
      refine r_icmp_ge (t := 30) hC dX8_drains_10 (by rfl) (by first | with_reducible exact rg_mI _ _ _ | (with_reducible refine rg_of ?_ _ _; (repeat (first | assumption | with_reducible apply rf_up | with_reducible apply rf_setm | with_reducible apply rf_mI | with_reducible apply rf_begins | with_reducible apply rf_writes | with_reducible apply rf_drops | with_reducible apply rf_commitL | with_reducible apply rf_commits | with_reducible apply rf_lost | with_reducible apply rf_sweepL | with_reducible apply rf_sweep1 | with_reducible apply rf_sweeps | with_reducible apply rf_sends0 | with_reducible apply rf_sendsA | with_reducible apply rf_pack | with_reducible apply rf_sends | with_reducible apply rf_works4 | with_reducible apply rf_works7 | with_reducible apply rf_shift | with_reducible apply rf_works | with_reducible apply rf_answerComes | with_reducible apply rf_bcL | with_reducible apply rf_bc1 | with_reducible apply rf_markL | with_reducible apply rf_rel0 | with_reducible apply rf_relays | with_reducible apply rf_cp | with_reducible apply rf_put | with_reducible apply rf_shf | with_reducible apply rf_saved)); done) | (with_reducible refine rg_its ?_ _ _; (repeat (first | assumption | with_reducible apply rf_up | with_reducible apply rf_setm | with_reducible apply rf_mI | with_reducible apply rf_begins | with_reducible apply rf_writes | with_reducible apply rf_drops | with_reducible apply rf_commitL | with_reducible apply rf_commits | with_reducible apply rf_lost | with_reducible apply rf_sweepL | with_reducible apply rf_sweep1 | with_reducible apply rf_sweeps | with_reducible apply rf_sends0 | with_reducible apply rf_sendsA | with_reducible apply rf_pack | with_reducible apply rf_sends | with_reducible apply rf_works4 | with_reducible apply rf_works7 | with_reducible apply rf_shift | with_reducible apply rf_works | with_reducible apply rf_answerComes | with_reducible apply rf_bcL | with_reducible apply rf_bc1 | with_reducible apply rf_markL | with_reducible apply rf_rel0 | with_reducible apply rf_relays | with_reducible apply rf_cp | with_reducible apply rf_put | with_reducible apply rf_shf | with_reducible apply rf_saved)); done) | (with_reducible refine rg_way ?_ _ _; (repeat (first | assumption | with_reducible apply rf_up | with_reducible apply rf_setm | with_reducible apply rf_mI | with_reducible apply rf_begins | with_reducible apply rf_writes | with_reducible apply rf_drops | with_reducible apply rf_commitL | with_reducible apply rf_commits | with_reducible apply rf_lost | with_reducible apply rf_sweepL | with_reducible apply rf_sweep1 | with_reducible apply rf_sweeps | with_reducible apply rf_sends0 | with_reducible apply rf_sendsA | with_reducible apply rf_pack | with_reducible apply rf_sends | with_reducible apply rf_works4 | with_reducible apply rf_works7 | with_reducible apply rf_shift | with_reducible apply rf_works | with_reducible apply rf_answerComes | with_reducible apply rf_bcL | with_reducible apply rf_bc1 | with_reducible apply rf_markL | with_reducible apply rf_rel0 | with_reducible apply rf_relays | with_reducible apply rf_cp | with_reducible apply rf_put | with_reducible apply rf_shf | with_reducible apply rf_saved)); done) | with_reducible exact rg_and _ _ | (with_reducible refine rg_num ?_ ⟨by omega, by omega⟩; (repeat (first | assumption | with_reducible apply rf_up | with_reducible apply rf_setm | with_reducible apply rf_mI | with_reducible apply rf_begins | with_reducible apply rf_writes | with_reducible apply rf_drops | with_reducible apply rf_commitL | with_reducible apply rf_commits | with_reducible apply rf_lost | with_reducible apply rf_sweepL | with_reducible apply rf_sweep1 | with_reducible apply rf_sweeps | with_reducible apply rf_sends0 | with_reducible apply rf_sendsA | with_reducible apply rf_pack | with_reducible apply rf_sends | with_reducible apply rf_works4 | with_reducible apply rf_works7 | with_reducible apply rf_shift | with_reducible apply rf_works | with_reducible apply rf_answerComes | with_reducible apply rf_bcL | with_reducible apply rf_bc1 | with_reducible apply rf_markL | with_reducible apply rf_rel0 | with_reducible apply rf_relays | with_reducible apply rf_cp | with_reducible apply rf_put | with_reducible apply rf_shf | with_reducible apply rf_saved)); done) | (with_reducible refine rf_at ?_ _; (repeat (first | assumption | with_reducible apply rf_up | with_reducible apply rf_setm | with_reducible apply rf_mI | with_reducible apply rf_begins | with_reducible apply rf_writes | with_reducible apply rf_drops | with_reducible apply rf_commitL | with_reducible apply rf_commits | with_reducible apply rf_lost | with_reducible apply rf_sweepL | with_reducible apply rf_sweep1 | with_reducible apply rf_sweeps | with_reducible apply rf_sends0 | with_reducible apply rf_sendsA | with_reducible apply rf_pack | with_reducible apply rf_sends | with_reducible apply rf_works4 | with_reducible apply rf_works7 | with_reducible apply rf_shift | with_reducible apply rf_works | with_reducible apply rf_answerComes | with_reducible apply rf_bcL | with_reducible apply rf_bc1 | with_reducible apply rf_markL | with_reducible apply rf_rel0 | with_reducible apply rf_relays | with_reducible apply rf_cp | with_reducible apply rf_put | with_reducible apply rf_shf | with_reducible apply rf_saved)); done) | exact ⟨by omega, by omega⟩) (by first | with_reducible exact rg_mI _ _ _ | (with_reducible refine rg_of ?_ _ _; (repeat (first | assumption | with_reducible apply rf_up | with_reducible apply rf_setm | with_reducible apply rf_mI | with_reducible apply rf_begins | with_reducible apply rf_writes | with_reducible apply rf_drops | with_reducible apply rf_commitL | with_reducible apply rf_commits | with_reducible apply rf_lost | with_reducible apply rf_sweepL | with_reducible apply rf_sweep1 | with_reducible apply rf_sweeps | with_reducible apply rf_sends0 | with_reducible apply rf_sendsA | with_reducible apply rf_pack | with_reducible apply rf_sends | with_reducible apply rf_works4 | with_reducible apply rf_works7 | with_reducible apply rf_shift | with_reducible apply rf_works | with_reducible apply rf_answerComes | with_reducible apply rf_bcL | with_reducible apply rf_bc1 | with_reducible apply rf_markL | with_reducible apply rf_rel0 | with_reducible apply rf_relays | with_reducible apply rf_cp | with_reducible apply rf_put | with_reducible apply rf_shf | with_reducible apply rf_saved)); done) | (with_reducible refine rg_its ?_ _ _; (repeat (first | assumption | with_reducible apply rf_up | with_reducible apply rf_setm | with_reducible apply rf_mI | with_reducible apply rf_begins | with_reducible apply rf_writes | with_reducible apply rf_drops | with_reducible apply rf_commitL | with_reducible apply rf_commits | with_reducible apply rf_lost | with_reducible apply rf_sweepL | with_reducible apply rf_sweep1 | with_reducible apply rf_sweeps | with_reducible apply rf_sends0 | with_reducible apply rf_sendsA | with_reducible apply rf_pack | with_reducible apply rf_sends | with_reducible apply rf_works4 | with_reducible apply rf_works7 | with_reducible apply rf_shift | with_reducible apply rf_works | with_reducible apply rf_answerComes | with_reducible apply rf_bcL | with_reducible apply rf_bc1 | with_reducible apply rf_markL | with_reducible apply rf_rel0 | with_reducible apply rf_relays | with_reducible apply rf_cp | with_reducible apply rf_put | with_reducible apply rf_shf | with_reducible apply rf_saved)); done) | (with_reducible refine rg_way ?_ _ _; (repeat (first | assumption | with_reducible apply rf_up | with_reducible apply rf_setm | with_reducible apply rf_mI | with_reducible apply rf_begins | with_reducible apply rf_writes | with_reducible apply rf_drops | with_reducible apply rf_commitL | with_reducible apply rf_commits | with_reducible apply rf_lost | with_reducible apply rf_sweepL | with_reducible apply rf_sweep1 | with_reducible apply rf_sweeps | with_reducible apply rf_sends0 | with_reducible apply rf_sendsA | with_reducible apply rf_pack | with_reducible apply rf_sends | with_reducible apply rf_works4 | with_reducible apply rf_works7 | with_reducible apply rf_shift | with_reducible apply rf_works | with_reducible apply rf_answerComes | with_reducible apply rf_bcL | with_reducible apply rf_bc1 | with_reducible apply rf_markL | with_reducible apply rf_rel0 | with_reducible apply rf_relays | with_reducible apply rf_cp | with_reducible apply rf_put | with_reducible apply rf_shf | with_reducible apply rf_saved)); done) | with_reducible exact rg_and _ _ | (with_reducible refine rg_num ?_ ⟨by omega, by omega⟩; (repeat (first | assumption | with_reducible apply rf_up | with_reducible apply rf_setm | with_reducible apply rf_mI | with_reducible apply rf_begins | with_reducible apply rf_writes | with_reducible apply rf_drops | with_reducible apply rf_commitL | with_reducible apply rf_commits | with_reducible apply rf_lost | with_reducible apply rf_sweepL | with_reducible apply rf_sweep1 | with_reducible apply rf_sweeps | with_reducible apply rf_sends0 | with_reducible apply rf_sendsA | with_reducible apply rf_pack | with_reducible apply rf_sends | with_reducible apply rf_works4 | with_reducible apply rf_works7 | with_reducible apply rf_shift | with_reducible apply rf_works | with_reducible apply rf_answerComes | with_reducible apply rf_bcL | with_reducible apply rf_bc1 | with_reducible apply rf_markL | with_reducible apply rf_rel0 | with_reducible apply rf_relays | with_reducible apply rf_cp | with_reducible apply rf_put | with_reducible apply rf_shf | with_reducible apply rf_saved)); done) | (with_reducible refine rf_at ?_ _; (repeat (first | assumption | with_reducible apply rf_up | with_reducible apply rf_setm | with_reducible apply rf_mI | with_reducible apply rf_begins | with_reducible apply rf_writes | with_reducible apply rf_drops | with_reducible apply rf_commitL | with_reducible apply rf_commits | with_reducible apply rf_lost | with_reducible apply rf_sweepL | with_reducible apply rf_sweep1 | with_reducible apply rf_sweeps | with_reducible apply rf_sends0 | with_reducible apply rf_sendsA | with_reducible apply rf_pack | with_reducible apply rf_sends | with_reducible apply rf_works4 | with_reducible apply rf_works7 | with_reducible apply rf_shift | with_reducible apply rf_works | with_reducible apply rf_answerComes | with_reducible apply rf_bcL | with_reducible apply rf_bc1 | with_reducible apply rf_markL | with_reducible apply rf_rel0 | with_reducible apply rf_relays | with_reducible apply rf_cp | with_reducible apply rf_put | with_reducible apply rf_shf | with_reducible apply rf_saved)); done) | exact ⟨by omega, by omega⟩) (fun h_10 => ?_) (fun h_10 => ?_)
      · skip
        exact tl k hk (by
          first
          | (rw [← hT, show n = 0 by omega]; rfl)
          | (obtain ⟨n', hn'⟩ : ∃ n', n = n' + 1 := ⟨n - 1, by omega⟩
             rw [← hT, hn']; simp only [m_drainK]; rw [if_pos h_17]))
      · skip
        refine r_aload_n hC dX8_drains_13 rfl ?_
        refine rM_V0 hC ((hM.sA _ _).sA _ _) dX8_drains_14 mi_X8_isDrained se_X8_isDrained ml_X8_234 (rm := rmX8_isDrained) rfl rfl rfl rfl ⟨le_b rfl, le_b rfl⟩ (k_isDrained hfC ((hM.sA _ _).sA _ _) rp.1 (h2k k hk)) ?_ rfl
        refine r_bne (t := 30) hC dX8_drains_17 (by rfl) (fun h_17 => ?_) (fun h_17 => ?_)
        · skip
          exact tl k hk (by
            first
            | (rw [← hT, show n = 0 by omega]; rfl)
            | (obtain ⟨n', hn'⟩ : ∃ n', n = n' + 1 := ⟨n - 1, by omega⟩
               rw [← hT, hn']; simp only [m_drainK]; rw [if_pos h_17]))
        · skip
          refine r_aload_n hC dX8_drains_20 rfl ?_
          refine rM_V0v hC ((hM.sA _ _).sA _ _) dX8_drains_21 mi_X8_tick se_X8_tick ml_X8_145 (rm := rmX8_tick) rfl rfl rfl rfl ⟨le_b rfl, le_b rfl⟩ (k_tick hfC (hM.sA _ _) rp.1 rp.2 (hp k (by omega))) ?_ rfl
          refine r_iinc (lv' := [_, _, _]) hC dX8_drains_24 rfl (lt_b rfl) rfl (lt_b rfl) rfl ?_
          refine r_goto (t := 6) hC dX8_drains_27 (by rfl) ?_
          obtain ⟨n', hn'⟩ : ∃ n', n = n' + 1 := ⟨n - 1, by omega⟩
          exact ih n' (by omega) (k + 1) (by omega) (by omega) (by rw [← hT, hn']; simp only [m_drainK]; rw [if_neg h_17])
  show VW C 0 [some (xA m), none, none] [] (sA u (m + 1) f) 0 0
  refine r_aload_n hC dX8_drains_0 rfl ?_
  refine rM_V0v hC hM dX8_drains_1 mi_X8_layAside se_X8_layAside ml_X8_231 (rm := rmX8_layAside) rfl rfl rfl rfl ⟨le_b rfl, le_b rfl⟩ (k_layAside hfC hM hf) ?_ rfl
  refine r_iconst hC dX8_drains_4 ?_
  refine r_istore_n (lv' := [_, _, _]) hC dX8_drains_5 (lt_b rfl) rfl (lt_b rfl) rfl ?_
  rw [← hA]
  refine vw_mem ?_ (lp 300 0 (by omega) (by omega) rfl)
  rw [show (m_pass f b 0).2 = b from rfl, show (m_pass f b 0).1 = f from rfl, show sA (sA u (m + 4) (cp A f 1651)) (m + 7) b = sA u (m + 4) (cp A f 1651) by rw [show b = mI (sA u (m + 4) (cp A f 1651)) (m + 7) by rw [mI_sA_n _ _ (by omega), hb], sA_mI]]

