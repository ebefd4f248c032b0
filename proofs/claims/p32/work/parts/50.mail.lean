/-! the mail -/
def sQ (u : Mem) (a : Nat) (f : Int → Option Nat) : Mem := (u.1, u.2.1, up1 u.2.2.1 a f, u.2.2.2)
theorem mP_sQ (u : Mem) (a : Nat) (f : Int → Option Nat) : mP (sQ u a f) a = f := by funext k; simp [mP, sQ, up1]
theorem mP_sQ_n (u : Mem) {a b : Nat} (f : Int → Option Nat) (h : b ≠ a) : mP (sQ u a f) b = mP u b := by funext k; simp [mP, sQ, up1, h]
theorem mI_sQ (u : Mem) (a : Nat) (f : Int → Option Nat) : mI (sQ u a f) = mI u := rfl
theorem sP_sQ (u : Mem) (a : Nat) (f : Int → Option Nat) (k : Int) (r : Option Nat) : sP (sQ u a f) a k r = sQ u a (fun j => if j = k then r else f j) := by
  unfold sP sQ up2 up1
  congr 3
  funext b j
  by_cases h : b = a
  · subst h; simp
  · simp [h]
theorem sQ_mP (u : Mem) (a : Nat) : sQ u a (mP u a) = u := by
  unfold sQ up1
  have : (fun b => if b = a then mP u a else u.2.2.1 b) = u.2.2.1 := by
    funext b; by_cases h : b = a
    · subst h; rw [if_pos rfl]; rfl
    · rw [if_neg h]
  rw [this]
theorem Fr.sQ {u w : Mem} {S T : Nat → Prop} (h : Fr u w S T) {a : Nat} (f : Int → Option Nat) (ha : T a) : Fr u (sQ w a f) S T := ⟨h.1, h.2.1, h.2.2.1, h.2.2.2.1, fun q hq => by rw [← h.2.2.2.2 q hq]; exact mP_sQ_n w f (fun e => hq (by rw [e]; exact ha))⟩
/-- the queue's message at place j -/
def qa (u : Mem) (b : Nat) (j : Int) : Nat := (mP u (b + 1) j).getD 0
theorem MaO.pq {u : Mem} {b : Nat} (h : MaO u b) {j : Nat} (hj : j < 55) : mP u (b + 1) j = some (qa u b j) := by
  obtain ⟨t, -, e⟩ := h.q hj
  unfold qa; rw [e]; rfl
theorem MaO.tq {u : Mem} {b : Nat} (h : MaO u b) {j : Nat} (hj : j < 55) : ∃ t : Nat, t < 55 ∧ qa u b j = b + 2 + 2 * t := by
  obtain ⟨t, ht, e⟩ := h.q hj
  exact ⟨t, ht, by unfold qa; rw [e]; rfl⟩
theorem MaO.mq {u : Mem} {b : Nat} (h : MaO u b) {j : Nat} (hj : j < 55) : MsO u (qa u b j) := by
  obtain ⟨t, ht, e⟩ := h.tq hj
  rw [e]; exact h.m ht
theorem MaO.nq {u : Mem} {b : Nat} (h : MaO u b) {i j : Nat} (hi : i < 55) (hj : j < 55) (hij : i ≠ j) : qa u b i ≠ qa u b j ∧ qa u b i ≠ qa u b j + 1 ∧ qa u b i + 1 ≠ qa u b j := by
  obtain ⟨t, ht, e⟩ := h.tq hi
  obtain ⟨t', ht', e'⟩ := h.tq hj
  have hne : t ≠ t' := fun q => hij (h.2.2.2.2 i j hi hj (by rw [h.pq hi, h.pq hj, e, e', q]))
  omega
theorem MaO.bq {u : Mem} {b : Nat} (h : MaO u b) {j : Nat} (hj : j < 55) : b + 2 ≤ qa u b j ∧ qa u b j + 1 < b + 112 := by
  obtain ⟨t, ht, e⟩ := h.tq hj
  omega
theorem sI_mA (u : Mem) (b : Nat) (k v : Int) : sI u b k v = sA u b (up (mI u b) k v) := by
  rw [sI_as]
  refine sA_ext fun j => ?_
  unfold up; split
  · rw [wr_wr]
  · rfl
theorem pQ {u w : Mem} {b : Nat} (f : Int → Option Nat) (hw : mP w = mP (sQ u (b + 1) f)) (h : MaO u b) : mP w b 0 = some (b + 1) := by
  rw [hw, mP_sQ_n _ _ (by omega)]; exact h.p
/-- what the mail's places say stays when pointers elsewhere and all numbers change -/
theorem MaO.fr {u w : Mem} {b : Nat} (h : MaO u b) (hs : mSh w = mSh u) (hp : mP w (b + 1) = mP u (b + 1)) (h0 : mP w b = mP u b) (hm : ∀ t, t < 55 → mP w (b + 2 + 2 * t) = mP u (b + 2 + 2 * t)) : MaO w b := by
  refine ⟨by rw [hs]; exact h.1, ⟨by rw [h0]; exact h.2.1.1, by rw [hs]; exact h.2.1.2⟩, fun t ht => ?_, ?_⟩
  · obtain ⟨a1, a2, a3⟩ := h.m ht
    exact ⟨by rw [hs]; exact a1, by rw [hm t ht]; exact a2, by rw [hs]; exact a3⟩
  · unfold QuO; rw [hp]; exact h.2.2.2
abbrev rmX0_draft : Room := { frames := 0, cells := 0, slots := 0, locals := 0 }
set_option maxRecDepth 100000 in
theorem k_Ma_draft {l : Launch} {D : DD} (hfl : l.stackTraces = false) {u : Mem} {b : Nat} (hO : MaO u b) (hz : 0 ≤ mI u b 1 ∧ mI u b 1 < 55) : CT l D yX0_draft cX0_draft 1 (some (.object "OutboxRelay$Message")) rmX0_draft [xA b] u (RT (xA (qa u b (mI u b 1))) u) := by
  refine CT.of hfl (by decide) (le_b rfl) ?_
  intro C hC hR hL hDD hN
  have hfC : (cxL C).stackTraces = false := by rw [hL]; exact hfl
  show VW C 0 [some (xA b)] [] u 0 0
  refine r_aload_n hC dX0_draft_0 rfl ?_
  refine r_getR (j := 0) hC dX0_draft_1 fl_X0_11 rfl rfl hO.o hO.p ?_
  refine r_aload_n hC dX0_draft_4 rfl ?_
  refine r_getI (j := 1) hC dX0_draft_5 fl_X0_18 rfl rfl hO.o ?_
  refine r_aald hC dX0_draft_8 hO.a (le_b rfl) (lt_b rfl) ⟨by omega, by omega⟩ (r := some (qa u b (mI u b 1))) (by obtain ⟨n, hn⟩ : ∃ n : Nat, mI u b 1 = n := ⟨(mI u b 1).toNat, by omega⟩; rw [hn]; exact hO.pq (by omega)) ?_
  refine r_aret hC hR dX0_draft_9 (le_b rfl) (le_b rfl) ?_
  exact ⟨rfl, rfl⟩

abbrev rmX0_dueAt : Room := { frames := 0, cells := 0, slots := 0, locals := 0 }
set_option maxRecDepth 100000 in
theorem k_Ma_dueAt {l : Launch} {D : DD} (hfl : l.stackTraces = false) {u : Mem} {b : Nat} {t : Int} (hO : MaO u b) (ht : rg t) (hz : 0 ≤ mI u b 1 ∧ mI u b 1 ≤ 54) : CT l D yX0_dueAt cX0_dueAt 3 (some .int) rmX0_dueAt [xA b, xI t] u (fun r w => w = u ∧ ∃ k : Nat, r = some (xI k) ∧ (k : Int) ≤ mI u b 1 ∧ (∀ j : Nat, j < k → mI u (qa u b j) 3 ≤ t) ∧ ((k : Int) < mI u b 1 → t < mI u (qa u b k) 3)) := by
  refine CT.of hfl (by decide) (le_b rfl) ?_
  intro C hC hR hL hDD hN
  have hfC : (cxL C).stackTraces = false := by rw [hL]; exact hfl
  have lp : ∀ (n : Nat) (i : Nat), ((mI u b 1 - i).toNat = n) → ((i : Int) ≤ mI u b 1) → (∀ j : Nat, j < i → mI u (qa u b j) 3 ≤ t) → VW C 2 [some (xA b), some (xI t), some (xI i)] [] u 0 0 := by
    intro n
    induction n using Nat.strongRecOn with
    | _ n ih =>
      intro i hn hi hs
      refine r_iload_n hC dX0_dueAt_2 rfl ?_
      refine r_aload_n hC dX0_dueAt_3 rfl ?_
      refine r_getI (j := 1) hC dX0_dueAt_4 fl_X0_18 rfl rfl hO.o ?_
      refine r_icmp_ge (t := 29) hC dX0_dueAt_7 (by rfl) (by first | with_reducible exact rg_mI _ _ _ | assumption | with_reducible exact rf_at rf _ | with_reducible exact rg_and _ _ | exact ⟨by omega, by omega⟩) (by first | with_reducible exact rg_mI _ _ _ | assumption | with_reducible exact rf_at rf _ | with_reducible exact rg_and _ _ | exact ⟨by omega, by omega⟩) (fun h_7 => ?_) (fun h_7 => ?_)
      · skip
        refine r_iload_n hC dX0_dueAt_29 rfl ?_
        refine r_iret hC hR dX0_dueAt_30 (le_b rfl) (le_b rfl) ?_
        exact ⟨rfl, i, rfl, hi, hs, fun h => by omega⟩
      · skip
        refine r_aload_n hC dX0_dueAt_10 rfl ?_
        refine r_getR (j := 0) hC dX0_dueAt_11 fl_X0_11 rfl rfl hO.o hO.p ?_
        refine r_iload_n hC dX0_dueAt_14 rfl ?_
        refine r_aald hC dX0_dueAt_15 hO.a (le_b rfl) (lt_b rfl) ⟨by omega, by omega⟩ (hO.pq (by omega)) ?_
        refine r_getI (j := 3) hC dX0_dueAt_16 fl_X0_41 rfl rfl (hO.mq (show i < 55 by omega)).o ?_
        refine r_iload_n hC dX0_dueAt_19 rfl ?_
        refine r_icmp_gt (t := 29) hC dX0_dueAt_20 (by rfl) (by first | with_reducible exact rg_mI _ _ _ | assumption | with_reducible exact rf_at rf _ | with_reducible exact rg_and _ _ | exact ⟨by omega, by omega⟩) (by first | with_reducible exact rg_mI _ _ _ | assumption | with_reducible exact rf_at rf _ | with_reducible exact rg_and _ _ | exact ⟨by omega, by omega⟩) (fun h_20 => ?_) (fun h_20 => ?_)
        · skip
          refine r_iload_n hC dX0_dueAt_29 rfl ?_
          refine r_iret hC hR dX0_dueAt_30 (le_b rfl) (le_b rfl) ?_
          exact ⟨rfl, i, rfl, hi, hs, fun h => by omega⟩
        · skip
          refine r_iinc (lv' := [_, _, _]) hC dX0_dueAt_23 rfl (lt_b rfl) rfl (lt_b rfl) rfl ?_
          refine r_goto (t := 2) hC dX0_dueAt_26 (by rfl) ?_
          exact ih _ (by omega) (i + 1) rfl (by omega) (fun j hj => by by_cases e : j = i; (subst e; omega); exact hs j (by omega))
  show VW C 0 [some (xA b), some (xI t), none] [] u 0 0
  refine r_iconst hC dX0_dueAt_0 ?_
  refine r_istore_n (lv' := [_, _, _]) hC dX0_dueAt_1 (lt_b rfl) rfl (lt_b rfl) rfl ?_
  exact lp _ 0 rfl (by omega) (fun j hj => by omega)

def c_onL (u : Mem) (b : Nat) (c : Int) : Nat → Int
  | 0 => 0
  | k + 1 => if mI u (qa u b k) 2 = c then c_onL u b c k + 1 else c_onL u b c k
abbrev rmX0_onWayOf : Room := { frames := 0, cells := 0, slots := 0, locals := 0 }
set_option maxRecDepth 100000 in
theorem k_Ma_onWay {l : Launch} {D : DD} (hfl : l.stackTraces = false) {u : Mem} {b : Nat} {c : Int} (hO : MaO u b) (hc : rg c) (hz : 0 ≤ mI u b 1 ∧ mI u b 1 ≤ 54) : CT l D yX0_onWayOf cX0_onWayOf 4 (some .int) rmX0_onWayOf [xA b, xI c] u (RT (xI (c_onL u b c (mI u b 1).toNat)) u) := by
  refine CT.of hfl (by decide) (le_b rfl) ?_
  intro C hC hR hL hDD hN
  have hfC : (cxL C).stackTraces = false := by rw [hL]; exact hfl
  have lp : ∀ (n : Nat) (i : Nat) (s : Int), ((mI u b 1 - i).toNat = n) → ((i : Int) ≤ mI u b 1) → (s = c_onL u b c i) → VW C 4 [some (xA b), some (xI c), some (xI s), some (xI i)] [] u 0 0 := by
    intro n
    induction n using Nat.strongRecOn with
    | _ n ih =>
      intro i s hn hi hs
      refine r_iload_n hC dX0_onWayOf_4 rfl ?_
      refine r_aload_n hC dX0_onWayOf_5 rfl ?_
      refine r_getI (j := 1) hC dX0_onWayOf_6 fl_X0_18 rfl rfl hO.o ?_
      refine r_icmp_ge (t := 34) hC dX0_onWayOf_9 (by rfl) (by first | with_reducible exact rg_mI _ _ _ | assumption | with_reducible exact rf_at rf _ | with_reducible exact rg_and _ _ | exact ⟨by omega, by omega⟩) (by first | with_reducible exact rg_mI _ _ _ | assumption | with_reducible exact rf_at rf _ | with_reducible exact rg_and _ _ | exact ⟨by omega, by omega⟩) (fun h_9 => ?_) (fun h_9 => ?_)
      · skip
        refine r_iload_n hC dX0_onWayOf_34 rfl ?_
        refine r_iret hC hR dX0_onWayOf_35 (le_b rfl) (le_b rfl) ?_
        have e : (mI u b 1).toNat = i := by omega
        rw [hs, e]; exact ⟨rfl, rfl⟩
      · skip
        refine r_aload_n hC dX0_onWayOf_12 rfl ?_
        refine r_getR (j := 0) hC dX0_onWayOf_13 fl_X0_11 rfl rfl hO.o hO.p ?_
        refine r_iload_n hC dX0_onWayOf_16 rfl ?_
        refine r_aald hC dX0_onWayOf_17 hO.a (le_b rfl) (lt_b rfl) ⟨by omega, by omega⟩ (hO.pq (by omega)) ?_
        refine r_getI (j := 2) hC dX0_onWayOf_18 fl_X0_51 rfl rfl (hO.mq (show i < 55 by omega)).o ?_
        refine r_iload_n hC dX0_onWayOf_21 rfl ?_
        refine r_icmp_ne (t := 28) hC dX0_onWayOf_22 (by rfl) (by first | with_reducible exact rg_mI _ _ _ | assumption | with_reducible exact rf_at rf _ | with_reducible exact rg_and _ _ | exact ⟨by omega, by omega⟩) (by first | with_reducible exact rg_mI _ _ _ | assumption | with_reducible exact rf_at rf _ | with_reducible exact rg_and _ _ | exact ⟨by omega, by omega⟩) (fun h_22 => ?_) (fun h_22 => ?_)
        · skip
          refine r_iinc (lv' := [_, _, _, _]) hC dX0_onWayOf_28 rfl (lt_b rfl) rfl (lt_b rfl) rfl ?_
          refine r_goto (t := 4) hC dX0_onWayOf_31 (by rfl) ?_
          exact ih _ (by omega) (i + 1) _ rfl (by omega) (by simp only [c_onL]; first | (rw [if_pos (by assumption), hs]; done) | (rw [if_neg (by assumption), hs]; done))
        · skip
          refine r_iinc (lv' := [_, _, _, _]) hC dX0_onWayOf_25 rfl (lt_b rfl) rfl (lt_b rfl) rfl ?_
          refine r_iinc (lv' := [_, _, _, _]) hC dX0_onWayOf_28 rfl (lt_b rfl) rfl (lt_b rfl) rfl ?_
          refine r_goto (t := 4) hC dX0_onWayOf_31 (by rfl) ?_
          exact ih _ (by omega) (i + 1) _ rfl (by omega) (by simp only [c_onL]; first | (rw [if_pos (by assumption), hs]; done) | (rw [if_neg (by assumption), hs]; done))
  show VW C 0 [some (xA b), some (xI c), none, none] [] u 0 0
  refine r_iconst hC dX0_onWayOf_0 ?_
  refine r_istore_n (lv' := [_, _, _, _]) hC dX0_onWayOf_1 (lt_b rfl) rfl (lt_b rfl) rfl ?_
  refine r_iconst hC dX0_onWayOf_2 ?_
  refine r_istore_n (lv' := [_, _, _, _]) hC dX0_onWayOf_3 (lt_b rfl) rfl (lt_b rfl) rfl ?_
  exact lp _ 0 _ rfl (by omega) rfl

def shQ (q : Int → Option Nat) (k : Int) : Int → Option Nat := fun j => if 0 ≤ j ∧ j < k then q (j + 1) else q j
def rotQ (q : Int → Option Nat) (n : Int) : Int → Option Nat := fun j => if 0 ≤ j ∧ j < n - 1 then q (j + 1) else if j = n - 1 then q 0 else q j
abbrev rmX0_removeFirst : Room := { frames := 0, cells := 0, slots := 0, locals := 0 }
set_option maxRecDepth 100000 in
theorem k_Ma_remove {l : Launch} {D : DD} (hfl : l.stackTraces = false) {u : Mem} {b : Nat} (hO : MaO u b) (hz : 0 < mI u b 1 ∧ mI u b 1 ≤ 54) : CT l D yX0_removeFirst cX0_removeFirst 3 none rmX0_removeFirst [xA b] u (RV (sQ (sI u b 1 (mI u b 1 - 1)) (b + 1) (rotQ (mP u (b + 1)) (mI u b 1)))) := by
  refine CT.of hfl (by decide) (le_b rfl) ?_
  intro C hC hR hL hDD hN
  have hfC : (cxL C).stackTraces = false := by rw [hL]; exact hfl
  obtain ⟨N, hN⟩ : ∃ N : Nat, mI u b 1 = N := ⟨(mI u b 1).toNat, by omega⟩
  rw [hN] at hz hR
  have h0 : mP u (b + 1) 0 = some (qa u b 0) := hO.pq (j := 0) (by omega)
  have lp : ∀ (n : Nat) (i : Nat), (N - i = n) → (1 ≤ i) → (i ≤ N) → VW C 17 [some (xA b), some (xA (qa u b 0)), some (xI i)] [] (sQ u (b + 1) (shQ (mP u (b + 1)) (i - 1))) 0 0 := by
    intro n
    induction n using Nat.strongRecOn with
    | _ n ih =>
      intro i hn h1i hi
      refine r_iload_n hC dX0_removeFirst_17 rfl ?_
      refine r_aload_n hC dX0_removeFirst_18 rfl ?_
      refine r_getIv (j := 1) (v := N) hC dX0_removeFirst_19 fl_X0_18 rfl rfl hO.o hN ?_
      refine r_icmp_ge (t := 45) hC dX0_removeFirst_22 (by rfl) (by first | with_reducible exact rg_mI _ _ _ | assumption | with_reducible exact rf_at rf _ | with_reducible exact rg_and _ _ | exact ⟨by omega, by omega⟩) (by first | with_reducible exact rg_mI _ _ _ | assumption | with_reducible exact rf_at rf _ | with_reducible exact rg_and _ _ | exact ⟨by omega, by omega⟩) (fun h_22 => ?_) (fun h_22 => ?_)
      · skip
        refine r_aload_n hC dX0_removeFirst_45 rfl ?_
        refine r_dup hC dX0_removeFirst_46 rfl ?_
        refine r_getIv (j := 1) (v := N) hC dX0_removeFirst_47 fl_X0_18 rfl rfl hO.o hN ?_
        refine r_iconst hC dX0_removeFirst_50 ?_
        refine r_isub hC dX0_removeFirst_51 ?_
        refine r_putI (j := 1) hC dX0_removeFirst_52 fl_X0_18 rfl hO.o (by rintro _ ⟨⟩; rfl) (Or.inl rfl) ?_
        refine r_aload_n hC dX0_removeFirst_55 rfl ?_
        refine r_getR (j := 0) hC dX0_removeFirst_56 fl_X0_11 rfl rfl hO.o (pQ (u := u) (shQ (mP u (b + 1)) (i - 1)) rfl hO) ?_
        refine r_aload_n hC dX0_removeFirst_59 rfl ?_
        refine r_getIv (j := 1) (v := N - 1) hC dX0_removeFirst_60 fl_X0_18 rfl rfl hO.o (by rw [mI_sI_s, wr_id ⟨by omega, by omega⟩]) ?_
        refine r_aload_n hC dX0_removeFirst_63 rfl ?_
        refine r_aast hC dX0_removeFirst_64 hO.a (le_b rfl) (lt_b rfl) (hO.mq (j := 0) (by omega)).o rfl rfl ⟨by omega, by omega⟩ ?_
        refine r_vret hC hR dX0_removeFirst_65 (le_b rfl) (le_b rfl) ?_
        refine ⟨rfl, ?_⟩
        show sP (sQ (sI u b 1 (N - 1)) (b + 1) (shQ (mP u (b + 1)) (i - 1))) (b + 1) (N - 1) (some (qa u b 0)) = _
        rw [sP_sQ, show (i : Int) = N by omega]
        congr 1
        funext j
        unfold shQ rotQ
        by_cases e : j = (N : Int) - 1
        · rw [if_pos e, if_neg (by omega), if_pos e, h0]
        · rw [if_neg e, if_neg e]
      · skip
        refine r_aload_n hC dX0_removeFirst_25 rfl ?_
        refine r_getR (j := 0) hC dX0_removeFirst_26 fl_X0_11 rfl rfl hO.o (pQ (u := u) (shQ (mP u (b + 1)) (i - 1)) rfl hO) ?_
        refine r_iload_n hC dX0_removeFirst_29 rfl ?_
        refine r_iconst hC dX0_removeFirst_30 ?_
        refine r_isub hC dX0_removeFirst_31 ?_
        refine r_aload_n hC dX0_removeFirst_32 rfl ?_
        refine r_getR (j := 0) hC dX0_removeFirst_33 fl_X0_11 rfl rfl hO.o (pQ (u := u) (shQ (mP u (b + 1)) (i - 1)) rfl hO) ?_
        refine r_iload_n hC dX0_removeFirst_36 rfl ?_
        refine r_aald hC dX0_removeFirst_37 hO.a (le_b rfl) (lt_b rfl) ⟨by omega, by omega⟩ (r := some (qa u b i)) (by rw [mP_sQ]; unfold shQ; rw [if_neg (by omega)]; exact hO.pq (by omega)) ?_
        refine r_aast hC dX0_removeFirst_38 hO.a (le_b rfl) (lt_b rfl) (hO.mq (show i < 55 by omega)).o rfl rfl ⟨by omega, by omega⟩ ?_
        refine r_iinc (lv' := [_, _, _]) hC dX0_removeFirst_39 rfl (lt_b rfl) rfl (lt_b rfl) rfl ?_
        refine r_goto (t := 17) hC dX0_removeFirst_42 (by rfl) ?_
        refine vw_mem ?_ (ih _ (by omega) (i + 1) rfl (by omega) (by omega))
        rw [sP_sQ]
        congr 1
        funext j
        unfold shQ
        by_cases e : j = (i : Int) - 1
        · rw [if_pos e, if_pos (by omega), ← hO.pq (by omega)]; congr 1; omega
        · rw [if_neg e]
          by_cases e2 : 0 ≤ j ∧ j < (i : Int) - 1
          · rw [if_pos e2, if_pos (by omega)]
          · rw [if_neg e2, if_neg (by omega)]
  show VW C 0 [some (xA b), none, none] [] u 0 0
  refine r_aload_n hC dX0_removeFirst_0 rfl ?_
  refine r_getIv (j := 1) (v := N) hC dX0_removeFirst_1 fl_X0_18 rfl rfl hO.o hN ?_
  refine r_if_ne (t := 8) hC dX0_removeFirst_4 (by rfl) ⟨by omega, by omega⟩ (fun h_4 => ?_) (fun h_4 => ?_)
  · skip
    refine r_aload_n hC dX0_removeFirst_8 rfl ?_
    refine r_getR (j := 0) hC dX0_removeFirst_9 fl_X0_11 rfl rfl hO.o hO.p ?_
    refine r_iconst hC dX0_removeFirst_12 ?_
    refine r_aald hC dX0_removeFirst_13 hO.a (le_b rfl) (lt_b rfl) ⟨by omega, by omega⟩ h0 ?_
    refine r_astore_n (lv' := [_, _, _]) hC dX0_removeFirst_14 (lt_b rfl) rfl (lt_b rfl) rfl ?_
    refine r_iconst hC dX0_removeFirst_15 ?_
    refine r_istore_n (lv' := [_, _, _]) hC dX0_removeFirst_16 (lt_b rfl) rfl (lt_b rfl) rfl ?_
    refine vw_mem ?_ (lp _ 1 rfl (by omega) (by omega))
    rw [show shQ (mP u (b + 1)) (((1 : Nat) : Int) - 1) = mP u (b + 1) from by funext j; unfold shQ; rw [if_neg (by omega)], sQ_mP]
  · skip
    omega

def c_pos (u : Mem) (b : Nat) (d : Int) : Nat → Nat
  | 0 => 0
  | k + 1 => if d < mI u (qa u b k) 3 then c_pos u b d k else k + 1
theorem c_pos_le (u : Mem) (b : Nat) (d : Int) (k : Nat) : c_pos u b d k ≤ k := by
  induction k with
  | zero => exact Nat.le_refl _
  | succ k ih => simp only [c_pos]; split <;> omega
def insQ (q : Int → Option Nat) (n p : Int) : Int → Option Nat := fun j => if p < j ∧ j ≤ n then q (j - 1) else if j = p then q n else q j
def movQ (q : Int → Option Nat) (n p : Int) : Int → Option Nat := fun j => if p < j ∧ j ≤ n then q (j - 1) else q j
def poF (f : RW) (an sz : Int) : RW := fun j => if j = 2 then wr (f 2 + 1) else if an = 0 ∧ j = 4 then wr (f 4 + 1) else if an = 0 ∧ j = 5 then wr (f 5 + sz) else f j
theorem rf_poF {f : RW} (rf : RF f) (an sz : Int) : RF (poF f an sz) := fun j => by
  unfold poF; (repeat' split) <;> first | exact rg_wr _ | exact rf _
def poM (u : Mem) (b : Nat) (d lo : Int) : Mem :=
  let F := poF (mI u b) (mI u (qa u b (mI u b 1)) 1) (mI u (qa u b (mI u b 1)) 4)
  if 0 < lo ∧ (F 2).tmod lo = 0 then sA u b (up F 3 (F 3 + 1))
  else sQ (sI (sA u b (up F 1 (mI u b 1 + 1))) (qa u b (mI u b 1)) 3 d) (b + 1) (insQ (mP u (b + 1)) (mI u b 1) (c_pos u b d (mI u b 1).toNat))
abbrev rmX0_postDraft : Room := { frames := 0, cells := 0, slots := 0, locals := 0 }
set_option maxRecDepth 100000 in
theorem k_Ma_post {l : Launch} {D : DD} (hfl : l.stackTraces = false) {u : Mem} {b : Nat} {d lo : Int} (hO : MaO u b) (hd : rg d) (hlo : rg lo) (hz : 0 ≤ mI u b 1 ∧ mI u b 1 < 54) : CT l D yX0_postDraft cX0_postDraft 5 none rmX0_postDraft [xA b, xI d, xI lo] u (RV (poM u b d lo)) := by
  refine CT.of hfl (by decide) (le_b rfl) ?_
  intro C hC hR hL hDD hN
  have hfC : (cxL C).stackTraces = false := by rw [hL]; exact hfl
  obtain ⟨N, hN⟩ : ∃ N : Nat, mI u b 1 = N := ⟨(mI u b 1).toNat, by omega⟩
  obtain ⟨A, hA⟩ : ∃ A, A = qa u b N := ⟨_, rfl⟩
  have hD : MsO u A := by rw [hA]; exact hO.mq (by omega)
  have hbq := hO.bq (j := N) (by omega)
  rw [← hA] at hbq
  obtain ⟨F, hF⟩ : ∃ F, F = poF (mI u b) (mI u A 1) (mI u A 4) := ⟨_, rfl⟩
  have rF : RF F := by rw [hF]; exact rf_poF (rf_mI u b) _ _
  have hF1 : F 1 = N := by rw [hF]; unfold poF; rw [if_neg (by omega), if_neg (by omega), if_neg (by omega), hN]
  have hpo : poM u b d lo = if 0 < lo ∧ (F 2).tmod lo = 0 then sA u b (up F 3 (F 3 + 1)) else sQ (sI (sA u b (up F 1 (N + 1))) A 3 d) (b + 1) (insQ (mP u (b + 1)) N (c_pos u b d N)) := by
    unfold poM; simp only [hN, Int.toNat_natCast, ← hA, ← hF]
  rw [hpo] at hR
  rw [hN] at hz
  have hWb : mI (sI (sA u b F) A 3 d) b = F := by rw [up_mI_n _ _ _ (show b ≠ A by omega), mI_sA_f _ _ rF]
  have hW3 : ∀ j : Nat, j < N → mI (sI (sA u b F) A 3 d) (qa u b j) 3 = mI u (qa u b j) 3 := fun j hj => by
    have h1 := hO.nq (i := j) (j := N) (by omega) (by omega) (by omega)
    have h2 := hO.bq (j := j) (by omega)
    rw [← hA] at h1
    rw [up_mI_n _ _ _ h1.1, mI_sA_n _ _ (by omega)]
  have ex : ¬ (0 < lo ∧ (F 2).tmod lo = 0) → ∀ p : Nat, p ≤ N → c_pos u b d N = p → VW C 138 [some (xA b), some (xI d), some (xI lo), some (xA A), some (xI p)] [] (sQ (sI (sA u b F) A 3 d) (b + 1) (movQ (mP u (b + 1)) N p)) 0 0 := by
    intro hlost p hp hpp
    refine r_aload_n hC dX0_postDraft_138 rfl ?_
    refine r_getR (j := 0) hC dX0_postDraft_139 fl_X0_11 rfl rfl hO.o (pQ (u := u) (movQ (mP u (b + 1)) N p) rfl hO) ?_
    refine r_iload hC dX0_postDraft_142 rfl ?_
    refine r_aload_n hC dX0_postDraft_144 rfl ?_
    refine r_aast hC dX0_postDraft_145 hO.a (le_b rfl) (lt_b rfl) hD.o rfl rfl ⟨by omega, by omega⟩ ?_
    refine r_aload_n hC dX0_postDraft_146 rfl ?_
    refine r_dup hC dX0_postDraft_147 rfl ?_
    refine r_getIv (j := 1) (v := N) hC dX0_postDraft_148 fl_X0_18 rfl rfl hO.o (by show mI (sI (sA u b F) A 3 d) b 1 = _; rw [hWb, hF1]) ?_
    refine r_iconst hC dX0_postDraft_151 ?_
    refine r_iadd hC dX0_postDraft_152 ?_
    refine r_putI (j := 1) hC dX0_postDraft_153 fl_X0_18 rfl hO.o (by rintro _ ⟨⟩; rfl) (Or.inl rfl) ?_
    refine r_vret hC hR dX0_postDraft_156 (le_b rfl) (le_b rfl) ?_
    refine ⟨rfl, ?_⟩
    rw [if_neg hlost, hpp]
    show sP (sQ (sI (sI (sA u b F) A 3 d) b 1 (N + 1)) (b + 1) (movQ (mP u (b + 1)) N p)) (b + 1) p (some A) = _
    rw [sP_sQ]
    have e1 : sI (sI (sA u b F) A 3 d) b 1 (N + 1) = sI (sA u b (up F 1 (N + 1))) A 3 d := by
      rw [sI_sA_comm u F _ _ (show b ≠ A by omega), sA_up, ← sI_sA_comm u _ _ _ (show b ≠ A by omega)]
    rw [e1]
    congr 1
    funext j
    unfold movQ insQ
    by_cases q : j = (p : Int)
    · rw [if_pos q, if_neg (by omega), if_pos q, hO.pq (by omega), hA]
    · rw [if_neg q]
      by_cases q2 : (p : Int) < j ∧ j ≤ N
      · rw [if_pos q2, if_pos q2]
      · rw [if_neg q2, if_neg q2, if_neg q]
  have lp : ¬ (0 < lo ∧ (F 2).tmod lo = 0) → ∀ p : Nat, p ≤ N → c_pos u b d N = c_pos u b d p → VW C 95 [some (xA b), some (xI d), some (xI lo), some (xA A), some (xI p)] [] (sQ (sI (sA u b F) A 3 d) (b + 1) (movQ (mP u (b + 1)) N p)) 0 0 := by
    intro hlost p
    induction p with
    | zero =>
      intro hp hpp
      refine r_iload hC dX0_postDraft_95 rfl ?_
      refine r_if_le (t := 138) hC dX0_postDraft_97 (by rfl) ⟨by omega, by omega⟩ (fun h_97 => ?_) (fun h_97 => ?_)
      · skip
        exact ex hlost 0 hp hpp
      · skip
        omega
    | succ p ih =>
      intro hp hpp
      refine r_iload hC dX0_postDraft_95 rfl ?_
      refine r_if_le (t := 138) hC dX0_postDraft_97 (by rfl) ⟨by omega, by omega⟩ (fun h_97 => ?_) (fun h_97 => ?_)
      · skip
        first | (exfalso; omega) | exact ex hlost (p + 1) hp (by rw [hpp]; simp only [c_pos]; rw [if_neg (by omega)])
      · skip
        refine r_aload_n hC dX0_postDraft_100 rfl ?_
        refine r_getR (j := 0) hC dX0_postDraft_101 fl_X0_11 rfl rfl hO.o (pQ (u := u) (movQ (mP u (b + 1)) N (p + 1 : Nat)) rfl hO) ?_
        refine r_iload hC dX0_postDraft_104 rfl ?_
        refine r_iconst hC dX0_postDraft_106 ?_
        refine r_isub hC dX0_postDraft_107 ?_
        refine r_aald hC dX0_postDraft_108 hO.a (le_b rfl) (lt_b rfl) ⟨by omega, by omega⟩ (r := some (qa u b p)) (by rw [mP_sQ, show (((p + 1 : Nat) : Int) - 1) = (p : Int) by omega]; unfold movQ; rw [if_neg (by omega)]; exact hO.pq (by omega)) ?_
        refine r_getIv (j := 3) (v := mI u (qa u b p) 3) hC dX0_postDraft_109 fl_X0_41 rfl rfl (hO.mq (show p < 55 by omega)).o (hW3 p (by omega)) ?_
        refine r_iload_n hC dX0_postDraft_112 rfl ?_
        refine r_icmp_le (t := 138) hC dX0_postDraft_113 (by rfl) (by first | with_reducible exact rg_mI _ _ _ | assumption | with_reducible exact rf_at rf _ | with_reducible exact rg_and _ _ | exact ⟨by omega, by omega⟩) (by first | with_reducible exact rg_mI _ _ _ | assumption | with_reducible exact rf_at rf _ | with_reducible exact rg_and _ _ | exact ⟨by omega, by omega⟩) (fun h_113 => ?_) (fun h_113 => ?_)
        · skip
          first | (exfalso; omega) | exact ex hlost (p + 1) hp (by rw [hpp]; simp only [c_pos]; rw [if_neg (by omega)])
        · skip
          refine r_aload_n hC dX0_postDraft_116 rfl ?_
          refine r_getR (j := 0) hC dX0_postDraft_117 fl_X0_11 rfl rfl hO.o (pQ (u := u) (movQ (mP u (b + 1)) N (p + 1 : Nat)) rfl hO) ?_
          refine r_iload hC dX0_postDraft_120 rfl ?_
          refine r_aload_n hC dX0_postDraft_122 rfl ?_
          refine r_getR (j := 0) hC dX0_postDraft_123 fl_X0_11 rfl rfl hO.o (pQ (u := u) (movQ (mP u (b + 1)) N (p + 1 : Nat)) rfl hO) ?_
          refine r_iload hC dX0_postDraft_126 rfl ?_
          refine r_iconst hC dX0_postDraft_128 ?_
          refine r_isub hC dX0_postDraft_129 ?_
          refine r_aald hC dX0_postDraft_130 hO.a (le_b rfl) (lt_b rfl) ⟨by omega, by omega⟩ (r := some (qa u b p)) (by rw [mP_sQ, show (((p + 1 : Nat) : Int) - 1) = (p : Int) by omega]; unfold movQ; rw [if_neg (by omega)]; exact hO.pq (by omega)) ?_
          refine r_aast hC dX0_postDraft_131 hO.a (le_b rfl) (lt_b rfl) (hO.mq (show p < 55 by omega)).o rfl rfl ⟨by omega, by omega⟩ ?_
          refine r_iinc (lv' := [_, _, _, _, _]) hC dX0_postDraft_132 rfl (lt_b rfl) rfl (lt_b rfl) rfl ?_
          rw [show (((p + 1 : Nat) : Int) + -1) = (p : Int) by omega]
          refine r_goto (t := 95) hC dX0_postDraft_135 (by rfl) ?_
          refine vw_mem ?_ (ih (by omega) (by rw [hpp]; simp only [c_pos]; rw [if_pos (by omega)]))
          rw [sP_sQ]
          congr 1
          funext j
          unfold movQ
          by_cases q : j = ((p + 1 : Nat) : Int)
          · rw [if_pos q, if_pos (by omega), ← hO.pq (by omega)]; congr 1; omega
          · rw [if_neg q]
            by_cases q2 : ((p + 1 : Nat) : Int) < j ∧ j ≤ N
            · rw [if_pos q2, if_pos (by omega)]
            · rw [if_neg q2, if_neg (by omega)]
  have k74 : ¬ (0 < lo ∧ (F 2).tmod lo = 0) → VW C 74 [some (xA b), some (xI d), some (xI lo), some (xA A), none] [] (sA u b F) 0 0 := by
    intro hlost
    refine r_aload_n hC dX0_postDraft_74 rfl ?_
    refine r_getIv (j := 1) (v := N) hC dX0_postDraft_75 fl_X0_18 rfl rfl hO.o (by rw [mI_sA_f _ _ rF, hF1]) ?_
    refine r_bipush hC dX0_postDraft_78 (by rfl) ?_
    refine r_icmp_lt (t := 84) hC dX0_postDraft_80 (by rfl) ⟨by omega, by omega⟩ ⟨by omega, by omega⟩ (fun h_80 => ?_) (fun h_80 => ?_)
    · skip
      refine r_aload_n hC dX0_postDraft_84 rfl ?_
      refine r_iload_n hC dX0_postDraft_85 rfl ?_
      refine r_putI (j := 3) hC dX0_postDraft_86 fl_X0_41 rfl hD.o (by rintro _ ⟨⟩; rfl) (Or.inl rfl) ?_
      refine r_aload_n hC dX0_postDraft_89 rfl ?_
      refine r_getIv (j := 1) (v := N) hC dX0_postDraft_90 fl_X0_18 rfl rfl hO.o (by rw [hWb, hF1]) ?_
      refine r_istore (lv' := [_, _, _, _, _]) hC dX0_postDraft_93 (lt_b rfl) rfl (lt_b rfl) rfl ?_
      refine vw_mem ?_ (lp hlost N (Nat.le_refl _) rfl)
      rw [show movQ (mP u (b + 1)) N N = mP u (b + 1) from by funext j; unfold movQ; rw [if_neg (by omega)]]
      exact (sQ_mP (sI (sA u b F) A 3 d) (b + 1)).symm
    · skip
      refine r_vret hC hR dX0_postDraft_83 (le_b rfl) (le_b rfl) ?_
      exfalso; omega
  have k50 : VW C 50 [some (xA b), some (xI d), some (xI lo), some (xA A), none] [] (sA u b F) 0 0 := by
    refine r_iload_n hC dX0_postDraft_50 rfl ?_
    refine r_if_le (t := 74) hC dX0_postDraft_51 (by rfl) hlo (fun h_51 => ?_) (fun h_51 => ?_)
    · skip
      first | exact k74 (fun q => h_60 q.2) | exact k74 (fun q => by omega)
    · skip
      refine r_aload_n hC dX0_postDraft_54 rfl ?_
      refine r_getIv (j := 2) (v := F 2) hC dX0_postDraft_55 fl_X0_22 rfl rfl hO.o (by rw [mI_sA_f _ _ rF]) ?_
      refine r_iload_n hC dX0_postDraft_58 rfl ?_
      refine r_irem hC (rF 2) hlo (by omega) dX0_postDraft_59 ?_
      refine r_if_ne (t := 74) hC dX0_postDraft_60 (by rfl) (rg_tmod (rF 2) hlo (by omega)) (fun h_60 => ?_) (fun h_60 => ?_)
      · skip
        first | exact k74 (fun q => h_60 q.2) | exact k74 (fun q => by omega)
      · skip
        refine r_aload_n hC dX0_postDraft_63 rfl ?_
        refine r_dup hC dX0_postDraft_64 rfl ?_
        refine r_getIv (j := 3) (v := F 3) hC dX0_postDraft_65 fl_X0_25 rfl rfl hO.o (by rw [mI_sA_f _ _ rF]) ?_
        refine r_iconst hC dX0_postDraft_68 ?_
        refine r_iadd hC dX0_postDraft_69 ?_
        refine r_putI (j := 3) hC dX0_postDraft_70 fl_X0_25 rfl hO.o (by rintro _ ⟨⟩; rfl) (Or.inl rfl) ?_
        refine r_vret hC hR dX0_postDraft_73 (le_b rfl) (le_b rfl) ?_
        refine ⟨rfl, ?_⟩
        rw [if_pos ⟨by omega, h_60⟩, sA_up]
  show VW C 0 [some (xA b), some (xI d), some (xI lo), none, none] [] u 0 0
  refine r_aload_n hC dX0_postDraft_0 rfl ?_
  refine r_getR (j := 0) hC dX0_postDraft_1 fl_X0_11 rfl rfl hO.o hO.p ?_
  refine r_aload_n hC dX0_postDraft_4 rfl ?_
  refine r_getIv (j := 1) (v := N) hC dX0_postDraft_5 fl_X0_18 rfl rfl hO.o hN ?_
  refine r_aald hC dX0_postDraft_8 hO.a (le_b rfl) (lt_b rfl) ⟨by omega, by omega⟩ (r := some A) (by rw [hA]; exact hO.pq (by omega)) ?_
  refine r_astore_n (lv' := [_, _, _, _, _]) hC dX0_postDraft_9 (lt_b rfl) rfl (lt_b rfl) rfl ?_
  refine r_aload_n hC dX0_postDraft_10 rfl ?_
  refine r_dup hC dX0_postDraft_11 rfl ?_
  refine r_getI (j := 2) hC dX0_postDraft_12 fl_X0_22 rfl rfl hO.o ?_
  refine r_iconst hC dX0_postDraft_15 ?_
  refine r_iadd hC dX0_postDraft_16 ?_
  refine r_putI (j := 2) hC dX0_postDraft_17 fl_X0_22 rfl hO.o (by rintro _ ⟨⟩; rfl) (Or.inl rfl) ?_
  refine r_aload_n hC dX0_postDraft_20 rfl ?_
  refine r_getIv (j := 1) (v := mI u A 1) hC dX0_postDraft_21 fl_X0_44 rfl rfl hD.o (mI_sI_a _ _ _ _ (by omega)) ?_
  refine r_if_ne (t := 50) hC dX0_postDraft_24 (by rfl) (by first | with_reducible exact rg_mI _ _ _ | assumption | with_reducible exact rf_at rf _ | with_reducible exact rg_and _ _ | exact ⟨by omega, by omega⟩) (fun h_24 => ?_) (fun h_24 => ?_)
  · skip
    refine vw_mem ?_ k50
    rw [sI_mA u]
    try rw [sA_up, sA_up]
    refine sA_ext fun j => congrArg wr ?_
    rw [hF]
    unfold poF up
    (repeat' split) <;> first | rfl | (exfalso; omega) | omega
  · skip
    refine r_aload_n hC dX0_postDraft_27 rfl ?_
    refine r_dup hC dX0_postDraft_28 rfl ?_
    refine r_getIv (j := 4) (v := mI u b 4) hC dX0_postDraft_29 fl_X0_28 rfl rfl hO.o (mI_sI_k _ _ _ _ (by decide)) ?_
    refine r_iconst hC dX0_postDraft_32 ?_
    refine r_iadd hC dX0_postDraft_33 ?_
    refine r_putI (j := 4) hC dX0_postDraft_34 fl_X0_28 rfl hO.o (by rintro _ ⟨⟩; rfl) (Or.inl rfl) ?_
    refine r_aload_n hC dX0_postDraft_37 rfl ?_
    refine r_dup hC dX0_postDraft_38 rfl ?_
    refine r_getIv (j := 5) (v := mI u b 5) hC dX0_postDraft_39 fl_X0_31 rfl rfl hO.o (by rw [mI_sI_k _ _ _ _ (by decide), mI_sI_k _ _ _ _ (by decide)]) ?_
    refine r_aload_n hC dX0_postDraft_42 rfl ?_
    refine r_getIv (j := 4) (v := mI u A 4) hC dX0_postDraft_43 fl_X0_48 rfl rfl hD.o (by rw [mI_sI_a _ _ _ _ (by omega), mI_sI_a _ _ _ _ (by omega)]) ?_
    refine r_iadd hC dX0_postDraft_46 ?_
    refine r_putI (j := 5) hC dX0_postDraft_47 fl_X0_31 rfl hO.o (by rintro _ ⟨⟩; rfl) (Or.inl rfl) ?_
    refine vw_mem ?_ k50
    rw [sI_mA u]
    try rw [sA_up, sA_up]
    refine sA_ext fun j => congrArg wr ?_
    rw [hF]
    unfold poF up
    (repeat' split) <;> first | rfl | (exfalso; omega) | omega

def MaCpL (u : Mem) (b o : Nat) (n : Int) (w : Mem) : Prop := Fr u w (fun q => b + 2 ≤ q ∧ q < b + 112) (fun _ => False) ∧ ∀ i : Nat, (i : Int) < n → (∀ j : Int, 1 ≤ j → j ≤ 5 → mI w (qa u b i) j = mI u (qa u o i) j) ∧ ∀ j : Int, 0 ≤ j → j < 8 → mI w (qa u b i + 1) j = mI u (qa u o i + 1) j
def MaCp (u : Mem) (b o : Nat) (w : Mem) : Prop := Fr u w (fun q => b ≤ q ∧ q < b + 112) (fun _ => False) ∧ (∀ j : Int, 1 ≤ j → j ≤ 6 → mI w b j = mI u o j) ∧ ∀ i : Nat, (i : Int) < mI u o 1 → (∀ j : Int, 1 ≤ j → j ≤ 5 → mI w (qa u b i) j = mI u (qa u o i) j) ∧ ∀ j : Int, 0 ≤ j → j < 8 → mI w (qa u b i + 1) j = mI u (qa u o i + 1) j
theorem Fr.maO {u w : Mem} {S : Nat → Prop} {b : Nat} (h : Fr u w S (fun _ => False)) (hO : MaO u b) : MaO w b := hO.fr h.1 (h.mP id) (h.mP id) (fun _ _ => h.mP id)
theorem Fr.msO {u w : Mem} {S : Nat → Prop} {b : Nat} (h : Fr u w S (fun _ => False)) (hO : MsO u b) : MsO w b := ⟨by rw [h.mSh]; exact hO.1, by rw [h.mP id]; exact hO.2.1, by rw [h.mSh]; exact hO.2.2⟩
theorem Fr.qaE {u w : Mem} {S : Nat → Prop} {b : Nat} (h : Fr u w S (fun _ => False)) (j : Int) : qa w b j = qa u b j := by unfold qa; rw [h.mP id]
abbrev rmX0_copyFrom : Room := { frames := 2, cells := 0, slots := 0, locals := 61 }
set_option maxRecDepth 100000 in
theorem k_Ma_copy {l : Launch} {D : DD} (hfl : l.stackTraces = false) {u : Mem} {b o : Nat} (hO : MaO u b) (hQ : MaO u o) (hd : o + 112 ≤ b ∨ b + 112 ≤ o) (hz : 0 ≤ mI u o 1 ∧ mI u o 1 ≤ 54) (hk : ∀ i : Nat, (i : Int) < mI u o 1 → mI u (qa u o i) 1 = 0 ∨ mI u (qa u o i) 1 = 1) : CT l D yX0_copyFrom cX0_copyFrom 3 none rmX0_copyFrom [xA b, xA o] u (fun r w => r = none ∧ MaCp u b o w) := by
  refine CT.of hfl (by decide) (le_b rfl) ?_
  intro C hC hR hL hDD hN
  have hfC : (cxL C).stackTraces = false := by rw [hL]; exact hfl
  obtain ⟨N, hN⟩ : ∃ N : Nat, mI u o 1 = N := ⟨(mI u o 1).toNat, by omega⟩
  rw [hN] at hz hk
  have lp : ∀ (n : Nat) (i : Nat) (w : Mem), (N - i = n) → (i ≤ N) → (MaCpL u b o i w) → VW C 2 [some (xA b), some (xA o), some (xI i)] [] w 0 0 := by
    intro n
    induction n using Nat.strongRecOn with
    | _ n ih =>
      intro i w hn hi hw
      have hfr := hw.1
      have hMb : MaO w b := hfr.maO hO
      have hMo : MaO w o := hfr.maO hQ
      have hob : mI w o 1 = N := by rw [hfr.mI (by omega)]; exact hN
      refine r_iload_n hC dX0_copyFrom_2 rfl ?_
      refine r_aload_n hC dX0_copyFrom_3 rfl ?_
      refine r_getIv (j := 1) (v := N) hC dX0_copyFrom_4 fl_X0_18 rfl rfl hMo.o hob ?_
      refine r_icmp_ge (t := 31) hC dX0_copyFrom_7 (by rfl) (by first | with_reducible exact rg_mI _ _ _ | assumption | with_reducible exact rf_at rf _ | with_reducible exact rg_and _ _ | exact ⟨by omega, by omega⟩) (by first | with_reducible exact rg_mI _ _ _ | assumption | with_reducible exact rf_at rf _ | with_reducible exact rg_and _ _ | exact ⟨by omega, by omega⟩) (fun h_7 => ?_) (fun h_7 => ?_)
      · skip
        refine r_aload_n hC dX0_copyFrom_31 rfl ?_
        refine r_aload_n hC dX0_copyFrom_32 rfl ?_
        refine r_getI (j := 1) hC dX0_copyFrom_33 fl_X0_18 rfl rfl hMo.o ?_
        refine r_putI (j := 1) hC dX0_copyFrom_36 fl_X0_18 rfl hMb.o (by rintro _ ⟨⟩; rfl) (Or.inl rfl) ?_
        refine r_aload_n hC dX0_copyFrom_39 rfl ?_
        refine r_aload_n hC dX0_copyFrom_40 rfl ?_
        refine r_getI (j := 2) hC dX0_copyFrom_41 fl_X0_22 rfl rfl hMo.o ?_
        refine r_putI (j := 2) hC dX0_copyFrom_44 fl_X0_22 rfl hMb.o (by rintro _ ⟨⟩; rfl) (Or.inl rfl) ?_
        refine r_aload_n hC dX0_copyFrom_47 rfl ?_
        refine r_aload_n hC dX0_copyFrom_48 rfl ?_
        refine r_getI (j := 3) hC dX0_copyFrom_49 fl_X0_25 rfl rfl hMo.o ?_
        refine r_putI (j := 3) hC dX0_copyFrom_52 fl_X0_25 rfl hMb.o (by rintro _ ⟨⟩; rfl) (Or.inl rfl) ?_
        refine r_aload_n hC dX0_copyFrom_55 rfl ?_
        refine r_aload_n hC dX0_copyFrom_56 rfl ?_
        refine r_getI (j := 4) hC dX0_copyFrom_57 fl_X0_28 rfl rfl hMo.o ?_
        refine r_putI (j := 4) hC dX0_copyFrom_60 fl_X0_28 rfl hMb.o (by rintro _ ⟨⟩; rfl) (Or.inl rfl) ?_
        refine r_aload_n hC dX0_copyFrom_63 rfl ?_
        refine r_aload_n hC dX0_copyFrom_64 rfl ?_
        refine r_getI (j := 5) hC dX0_copyFrom_65 fl_X0_31 rfl rfl hMo.o ?_
        refine r_putI (j := 5) hC dX0_copyFrom_68 fl_X0_31 rfl hMb.o (by rintro _ ⟨⟩; rfl) (Or.inl rfl) ?_
        refine r_aload_n hC dX0_copyFrom_71 rfl ?_
        refine r_aload_n hC dX0_copyFrom_72 rfl ?_
        refine r_getI (j := 6) hC dX0_copyFrom_73 fl_X0_34 rfl rfl hMo.o ?_
        refine r_putI (j := 6) hC dX0_copyFrom_76 fl_X0_34 rfl hMb.o (by rintro _ ⟨⟩; rfl) (Or.inl rfl) ?_
        refine r_vret hC hR dX0_copyFrom_79 (le_b rfl) (le_b rfl) ?_
        have hfr := hw.1
        refine ⟨rfl, ?_, ?_, ?_⟩
        · repeat (first | exact hfr.weak (fun q hq => ⟨by omega, by omega⟩) (fun _ h => h) | refine Fr.sI ?_ _ _ (by constructor <;> omega))
        · intro j h1 h2
          have hob : mI w o = mI u o := hfr.mI (by omega)
          have hj : j = 1 ∨ j = 2 ∨ j = 3 ∨ j = 4 ∨ j = 5 ∨ j = 6 := by omega
          rcases hj with rfl | rfl | rfl | rfl | rfl | rfl <;> simp [mI_sI, wr_mI, hob, show o ≠ b by omega]
        · intro i hi
          rw [hN] at hi
          have hb := hO.bq (j := i) (by omega)
          have hs : ∀ (x : Mem) (k v : Int) (q : Nat), q ≠ b → mI (sI x b k v) q = mI x q := fun x k v q hq => up_mI_n x k v hq
          refine ⟨fun j h1 h2 => ?_, fun j h1 h2 => ?_⟩
          · rw [hs _ _ _ _ (by omega), hs _ _ _ _ (by omega), hs _ _ _ _ (by omega), hs _ _ _ _ (by omega), hs _ _ _ _ (by omega), hs _ _ _ _ (by omega)]
            exact (hw.2 i (by omega)).1 j h1 h2
          · rw [hs _ _ _ _ (by omega), hs _ _ _ _ (by omega), hs _ _ _ _ (by omega), hs _ _ _ _ (by omega), hs _ _ _ _ (by omega), hs _ _ _ _ (by omega)]
            exact (hw.2 i (by omega)).2 j h1 h2
      · skip
        refine r_aload_n hC dX0_copyFrom_10 rfl ?_
        refine r_getR (j := 0) hC dX0_copyFrom_11 fl_X0_11 rfl rfl hMb.o hMb.p ?_
        refine r_iload_n hC dX0_copyFrom_14 rfl ?_
        refine r_aald hC dX0_copyFrom_15 hMb.a (le_b rfl) (lt_b rfl) ⟨by omega, by omega⟩ (hMb.pq (by omega)) ?_
        refine r_aload_n hC dX0_copyFrom_16 rfl ?_
        refine r_getR (j := 0) hC dX0_copyFrom_17 fl_X0_11 rfl rfl hMo.o hMo.p ?_
        refine r_iload_n hC dX0_copyFrom_20 rfl ?_
        refine r_aald hC dX0_copyFrom_21 hMo.a (le_b rfl) (lt_b rfl) ⟨by omega, by omega⟩ (hMo.pq (by omega)) ?_
        have hbi := hO.bq (j := i) (by omega)
        have hoi := hQ.bq (j := i) (by omega)
        refine r_V0p hC dX0_copyFrom_22 mi_X1_copyFrom se_X1_copyFrom ml_X0_37 (rm := rmX1_copyFrom) rfl (hMb.mq (show i < 55 by omega)).o rfl rfl rfl rfl ⟨le_b rfl, le_b rfl⟩ (k_Ms_copy hfC (hMb.mq (show i < 55 by omega)) (hMo.mq (show i < 55 by omega)) (by rw [hfr.qaE, hfr.qaE]; omega) (by rw [hfr.qaE, hfr.qaE]; omega) (by rw [hfr.qaE, hfr.qaE]; omega) (by rw [hfr.qaE, hfr.mI (by omega)]; exact hk i (by omega))) ?_ rfl
        rintro r w1 ⟨rfl, hc⟩
        have hfr2 := hc.1
        have hbi := hO.bq (j := i) (by omega)
        have hoi := hQ.bq (j := i) (by omega)
        refine r_iinc (lv' := [_, _, _]) hC dX0_copyFrom_25 rfl (lt_b rfl) rfl (lt_b rfl) rfl ?_
        refine r_goto (t := 2) hC dX0_copyFrom_28 (by rfl) ?_
        refine ih _ (by omega) (i + 1) w1 rfl (by omega) ⟨?_, fun k hk2 => ?_⟩
        · exact hfr.trans (hfr2.weak (fun q hq => by rw [hfr.qaE] at hq; omega) (fun _ h => h))
        · have hbk := hO.bq (j := k) (by omega)
          by_cases e : k = i
          · subst e
            refine ⟨fun j h1 h2 => ?_, fun j h1 h2 => ?_⟩
            · rw [← hfr.qaE, hc.2.1 j h1 h2, hfr.qaE, hfr.mI (by omega)]
            · rw [← hfr.qaE, hc.2.2 j h1 h2, hfr.qaE, hfr.mI (by omega)]
          · have hn := hO.nq (i := k) (j := i) (by omega) (by omega) e
            obtain ⟨p1, p2⟩ := hw.2 k (by omega)
            refine ⟨fun j h1 h2 => ?_, fun j h1 h2 => ?_⟩
            · rw [hfr2.mI (by rw [hfr.qaE]; omega)]; exact p1 j h1 h2
            · rw [hfr2.mI (by rw [hfr.qaE]; omega)]; exact p2 j h1 h2
  show VW C 0 [some (xA b), some (xA o), none] [] u 0 0
  refine r_iconst hC dX0_copyFrom_0 ?_
  refine r_istore_n (lv' := [_, _, _]) hC dX0_copyFrom_1 (lt_b rfl) rfl (lt_b rfl) rfl ?_
  exact lp _ 0 u rfl (by omega) ⟨Fr.refl _ _ _, fun i hi => by omega⟩
