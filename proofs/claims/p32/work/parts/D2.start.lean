/-! ===== the start as an abstract memory ===== -/
theorem known_all {args : Array Value} {s : State} (hts : ∀ w ∈ wAll, w.before args s = true) : ∃ (dC : Nat → ClassId) (dI : Nat → Nat → Nat), ∀ (k : Nat) (q : vw_C), vwCl[k]? = some q → u_Kn s q.1 q.2.1 q.2.2 (dC k) (dI k) := by
  have h : ∀ k : Nat, ∃ z : ClassId × (Nat → Nat), ∀ q : vw_C, vwCl[k]? = some q → u_Kn s q.1 q.2.1 q.2.2 z.1 z.2 := by
    intro k
    have one : ∀ (q : vw_C), vwCl[k]? = some q → Cond.instantiable q.1 q.2.2 ∈ wAll → ∃ z : ClassId × (Nat → Nat), ∀ q : vw_C, vwCl[k]? = some q → u_Kn s q.1 q.2.1 q.2.2 z.1 z.2 := fun q hq hi => by
      obtain ⟨c, iS, h⟩ := u_known (C := q.1) (T := q.2.1) (N := q.2.2) hts ((clsOK k) q hq).2.1 (hts _ hi)
      exact ⟨(c, iS), fun q' hq' => by cases hq.symm.trans hq'; exact h⟩
    match k, one with
    | 0, one => exact one _ rfl cn_X0
    | 1, one => exact one _ rfl cn_X1
    | 2, one => exact one _ rfl cn_X2
    | 3, one => exact one _ rfl cn_X3
    | 4, one => exact one _ rfl cn_X4
    | 5, one => exact one _ rfl cn_X5
    | 6, one => exact one _ rfl cn_X6
    | 7, one => exact one _ rfl cn_X7
    | n + 8, _ => exact ⟨(0, fun _ => 0), fun q hq => by simp [vwCl] at hq⟩
  obtain ⟨f, hf⟩ := Classical.axiomOfChoice h
  exact ⟨fun k => (f k).1, fun k => (f k).2, hf⟩
theorem arr_one {args : Array Value} {s : State} {nm : String} (h : (Cond.arrayOver (.object nm)).before args s = true) : ∃ c : ClassId, ArrOfT s c (.object nm) ∧ va_RA s c (.object nm) := by
  obtain ⟨comp, c, k, h1, h2, h3, h4, h5⟩ := Cond.arrayOver_spec h
  exact ⟨c, fun n z => ⟨fun _ hh => (by cases hh), k, h3, comp, h4⟩, k, comp, h3, h4, h1, h5⟩
theorem arr_all {args : Array Value} {s : State} (hts : ∀ w ∈ lw_tbl, w.before args s = true) : ∃ aC : Nat → ClassId, ∀ k, k < 6 → ArrOfT s (aC k) (aTy k) ∧ va_RA s (aC k) (aTy k) := by
  have h : ∀ k : Nat, ∃ c : ClassId, k < 6 → ArrOfT s c (aTy k) ∧ va_RA s c (aTy k) := by
    intro k
    match k with
    | 0 =>
      obtain ⟨cA, kA, comp, h1, h2, h3⟩ := Cond.arrayClass_spec (hts _ (List.mem_filter.mp ka_int).1)
      exact ⟨cA, fun _ => ⟨fun n z => ⟨fun _ hh => (by cases hh), kA, h2, comp, h3⟩, h1⟩⟩
    | 1 =>
      obtain ⟨cA, kA, comp, h1, h2, h3⟩ := Cond.arrayClass_spec (hts _ (List.mem_filter.mp ka_int).1)
      exact ⟨cA, fun _ => ⟨fun n z => ⟨fun _ hh => (by cases hh), kA, h2, comp, h3⟩, h1⟩⟩
    | 2 => obtain ⟨c, h⟩ := arr_one (hts _ w_oRX5); exact ⟨c, fun _ => h⟩
    | 3 => obtain ⟨c, h⟩ := arr_one (hts _ w_oRX6); exact ⟨c, fun _ => h⟩
    | 4 => obtain ⟨c, h⟩ := arr_one (hts _ w_oRX3); exact ⟨c, fun _ => h⟩
    | 5 => obtain ⟨c, h⟩ := arr_one (hts _ w_oRX1); exact ⟨c, fun _ => h⟩
    | n + 6 => exact ⟨0, fun h => by omega⟩
  obtain ⟨f, hf⟩ := Classical.axiomOfChoice h
  exact ⟨f, hf⟩
theorem kx_start {args : Array Value} {s : State} (hts : ∀ w ∈ lw_tbl, w.before args s = true) (hgs : ∀ w ∈ flatC gnC, w.before args s = true) : KX s := by
  refine ⟨fun n hn => ?_, fun q hq => ?_, fun w hw hf => ?_, fun q hq => ?_⟩
  · simp only [List.mem_cons, List.not_mem_nil, or_false] at hn
    rcases hn with rfl | rfl | rfl | rfl
    · exact va_AO.of (hts _ w_oRX5)
    · exact va_AO.of (hts _ w_oRX6)
    · exact va_AO.of (hts _ w_oRX3)
    · exact va_AO.of (hts _ w_oRX1)
  · have one : ∀ (k : Nat) (t : String), Cond.stringRef "OutboxRelay" k t ∈ lw_tbl → Cond.exactly (.string "OutboxRelay" k) "java/lang/String" ∈ flatC gnC → ∃ a : Nat, vk_R "OutboxRelay" k t a s := fun k t h1 h2 => by
      obtain ⟨a, c, cA, kA, q1, -⟩ := Cond.exactly_spec (hgs _ h2)
      exact ⟨a, vk_R.of (hts _ h1) q1⟩
    simp only [txts, List.mem_cons, List.not_mem_nil, or_false] at hq
    rcases hq with rfl | rfl | rfl | rfl | rfl | rfl | rfl | rfl | rfl | rfl | rfl | rfl | rfl | rfl | rfl | rfl
    · exact one _ _ w_t103 g_t103
    · exact one _ _ w_t105 g_t105
    · exact one _ _ w_t118 g_t118
    · exact one _ _ w_t132 g_t132
    · exact one _ _ w_t143 g_t143
    · exact one _ _ w_t148 g_t148
    · exact one _ _ w_t153 g_t153
    · exact one _ _ w_t194 g_t194
    · exact one _ _ w_t196 g_t196
    · exact one _ _ w_t205 g_t205
    · exact one _ _ w_t246 g_t246
    · exact one _ _ w_t43 g_t43
    · exact one _ _ w_t60 g_t60
    · exact one _ _ w_t69 g_t69
    · exact one _ _ w_t75 g_t75
    · exact one _ _ w_t84 g_t84
  · refine va_Nw.of ?_ (hts w hw)
    cases w <;> first | rfl | cases hf
  · cases hq
theorem kd_start {args : Array Value} {s : State} (hts : ∀ w ∈ lw_tbl, w.before args s = true) (hgs : ∀ w ∈ flatC gnC, w.before args s = true) : ∃ (dC : Nat → ClassId) (dI : Nat → Nat → Nat) (aC : Nat → ClassId), ∀ (N : Nat) (sa : Nat → Nat), KD (N, dC, dI, aC, sa) s := by
  obtain ⟨dC, dI, h1⟩ := known_all (fun w hw => hts w (List.mem_filter.mp hw).1)
  obtain ⟨aC, h2⟩ := arr_all hts
  refine ⟨dC, dI, aC, fun N sa => ⟨⟨h1, fun k q hq => ?_⟩, kx_start hts hgs⟩⟩
  unfold tysD at hq
  rw [List.getElem?_map] at hq
  by_cases h : k < 6
  · rw [List.getElem?_range h] at hq
    cases hq
    exact h2 k h
  · rw [List.getElem?_eq_none (by simpa using h)] at hq
    cases hq
/-! ===== the start's memory ===== -/
theorem len_lt {args : Array Value} {s : State} {tm : Term} {t : Nat} {cell : Cell} {v : Value} (hv : (Term.length tm).eval args s none [] s = some v) (ht : tm.eval args s none [] s = some (.ref t)) (hat : s.arrayAt? t = some cell) : cell.slots.size < 2 ^ 31 := by
  simp only [Term.eval, ht, hat, Option.bind_eq_bind, Option.bind_some] at hv
  by_cases hlt : cell.slots.size < 2147483648
  · exact hlt
  · simp [hlt] at hv
theorem st_arr {args : Array Value} {s : State} {nm : String} {v : Nat → Int32} (h1 : (Cond.arrayOf (.static "OutboxRelay" nm "[I") .int).before args s = true) (h2 : (Cond.eq (.length (.static "OutboxRelay" nm "[I")) (.int 7)).before args s = true) (h3 : ∀ j : Nat, j < 7 → (Cond.eq (.elem (.static "OutboxRelay" nm "[I") (.int (Int32.ofNat j))) (.int (v j))).before args s = true) : ∃ (t : Nat) (cell : Cell), (Term.static "OutboxRelay" nm "[I").eval args s none [] s = some (.ref t) ∧ s.heap[t]? = some cell ∧ s.isArrayOf cell .int ∧ cell.vm ≠ .unknown ∧ cell.slots.size = 7 ∧ ∀ j : Nat, j < 7 → cell.slots[j]? = some (.int (v j)) := by
  have hlen := va_eqt h2
  obtain ⟨t, ht, cell, c1, c2, c3, c4, c5, c6, -⟩ := va_Tof (s := s) (args := args) (tm := .static "OutboxRelay" nm "[I") (ty := .int) (N := 7) (f := fun j => .int (v j)) (A := fun q => s.heap.size ≤ q) (by decide) h1 hlen (fun j hj => va_eqt (h3 j hj)) (fun a ha => Nat.not_le.mpr ha)
  obtain ⟨t2, cell2, ht2, hat, -⟩ := Term.length_spec hlen
  obtain ⟨hcell, -⟩ := State.arrayAt?_spec hat
  cases ht.symm.trans ht2
  cases c1.symm.trans hcell
  have hsz := len_lt hlen ht hat
  exact ⟨t, cell, ht, c1, c2, c3, (nI_eq hsz (by decide)).mp c5, c6⟩
def h_int (H : Heap) (a : Nat) (k : Int) : Int32 := match H[a]? with
  | some ce => (match ce.slots[k.toNat]? with
    | some (.int v) => v
    | _ => 0)
  | none => 0
theorem h_int_at {H : Heap} {a j : Nat} {cell : Cell} {v : Int32} (h1 : H[a]? = some cell) (h2 : cell.slots[j]? = some (.int v)) : h_int H a j = v := by
  unfold h_int
  rw [h1]
  dsimp only
  rw [show ((j : Int)).toNat = j from rfl, h2]
theorem row0_at : ∀ j : Nat, j < 7 → ((s_val 0).getD j 0).toInt = m_row0 (10 + (j : Int)) := by decide +kernel
theorem least_at : ∀ j : Nat, j < 7 → ((s_val 1).getD j 0).toInt = s_least (j : Int) := by decide +kernel
theorem most_at : ∀ j : Nat, j < 7 → ((s_val 2).getD j 0).toInt = s_most (j : Int) := by decide +kernel
theorem start_mem {s : State} {b L : Nat} {xs : Nat → Int32} (hts : ∀ w ∈ lw_tbl, w.before #[Value.ref b] s = true) (hgs : ∀ w ∈ flatC gnC, w.before #[Value.ref b] s = true) (hL : L ≤ 260) (hX : va_X b L xs s s.heap) (hbl : b < s.heap.size) : ∃ (D : DD) (u : Mem), D.1 = s.heap.size ∧ KD D s ∧ Rel D s u s.heap ∧ mN u = s.heap.size ∧ mSh u b = some (.inr (9, L)) ∧ (∀ x, s.heap.size ≤ x → Sta D u x ∧ StaM D u x) := by
  have hA : ∀ a : Nat, a < s.heap.size → ¬ (fun q : Nat => s.heap.size ≤ q) a := fun a ha => Nat.not_le.mpr ha
  obtain ⟨t0, e0, v0, a1, a2, a3, a4, a5⟩ := st_arr (v := fun j => (s_val 0).getD j 0) (hgs _ g_a0) (hgs _ g_l0) (fun j hj => by
    rcases (show j = 0 ∨ j = 1 ∨ j = 2 ∨ j = 3 ∨ j = 4 ∨ j = 5 ∨ j = 6 by omega) with rfl | rfl | rfl | rfl | rfl | rfl | rfl
    · exact hgs _ g_e00
    · exact hgs _ g_e01
    · exact hgs _ g_e02
    · exact hgs _ g_e03
    · exact hgs _ g_e04
    · exact hgs _ g_e05
    · exact hgs _ g_e06)
  obtain ⟨t1, e1, v1, b1, b2, b3, b4, b5⟩ := st_arr (v := fun j => (s_val 1).getD j 0) (hgs _ g_a1) (hgs _ g_l1) (fun j hj => by
    rcases (show j = 0 ∨ j = 1 ∨ j = 2 ∨ j = 3 ∨ j = 4 ∨ j = 5 ∨ j = 6 by omega) with rfl | rfl | rfl | rfl | rfl | rfl | rfl
    · exact hgs _ g_e10
    · exact hgs _ g_e11
    · exact hgs _ g_e12
    · exact hgs _ g_e13
    · exact hgs _ g_e14
    · exact hgs _ g_e15
    · exact hgs _ g_e16)
  obtain ⟨t2, e2, v2, c1, c2, c3, c4, c5⟩ := st_arr (v := fun j => (s_val 2).getD j 0) (hgs _ g_a2) (hgs _ g_l2) (fun j hj => by
    rcases (show j = 0 ∨ j = 1 ∨ j = 2 ∨ j = 3 ∨ j = 4 ∨ j = 5 ∨ j = 6 by omega) with rfl | rfl | rfl | rfl | rfl | rfl | rfl
    · exact hgs _ g_e20
    · exact hgs _ g_e21
    · exact hgs _ g_e22
    · exact hgs _ g_e23
    · exact hgs _ g_e24
    · exact hgs _ g_e25
    · exact hgs _ g_e26)
  have l0 : t0 < s.heap.size := (Array.getElem?_eq_some_iff.mp a1).1
  have l1 : t1 < s.heap.size := (Array.getElem?_eq_some_iff.mp b1).1
  have l2 : t2 < s.heap.size := (Array.getElem?_eq_some_iff.mp c1).1
  have hb : (Term.arg 0).eval #[Value.ref b] s none [] s = some (.ref b) := rfl
  have n0 : b ≠ t0 := va_neR (hgs _ g_n0) hb v0
  have n1 : b ≠ t1 := va_neR (hgs _ g_n1) hb v1
  have n2 : b ≠ t2 := va_neR (hgs _ g_n2) hb v2
  obtain ⟨dC, dI, aC, hKD⟩ := kd_start hts hgs
  obtain ⟨sh, hsh⟩ : ∃ sh : Nat → Option (Nat ⊕ (Nat × Nat)), sh = fun a => if a = t0 ∨ a = t1 ∨ a = t2 then some (.inr (9, 7)) else if a = b then some (.inr (9, L)) else none := ⟨_, rfl⟩
  obtain ⟨u, hu⟩ : ∃ u : Mem, u = (sh, h_int s.heap, fun _ _ => none, fun _ _ => 0, s.heap.size) := ⟨_, rfl⟩
  obtain ⟨D, hD⟩ : ∃ D : DD, D = (s.heap.size, dC, dI, aC, fun k => match k with | 0 => t0 | 1 => t1 | _ => t2) := ⟨_, rfl⟩
  have s0 : mSh u t0 = some (.inr (9, 7)) := by rw [hu]; show sh t0 = _; rw [hsh]; exact if_pos (Or.inl rfl)
  have s1 : mSh u t1 = some (.inr (9, 7)) := by rw [hu]; show sh t1 = _; rw [hsh]; exact if_pos (Or.inr (Or.inl rfl))
  have s2 : mSh u t2 = some (.inr (9, 7)) := by rw [hu]; show sh t2 = _; rw [hsh]; exact if_pos (Or.inr (Or.inr rfl))
  have sb : mSh u b = some (.inr (9, L)) := by
    rw [hu]; show sh b = _; rw [hsh]
    show (if b = t0 ∨ b = t1 ∨ b = t2 then _ else if b = b then _ else _) = _
    rw [if_neg (fun q => q.elim n0 (fun q => q.elim n1 n2)), if_pos rfl]
  have so : ∀ a, a ≠ t0 → a ≠ t1 → a ≠ t2 → a ≠ b → mSh u a = none := fun a q0 q1 q2 q3 => by
    rw [hu]; show sh a = _; rw [hsh]
    show (if a = t0 ∨ a = t1 ∨ a = t2 then _ else if a = b then _ else _) = _
    rw [if_neg (fun q => q.elim q0 (fun q => q.elim q1 q2)), if_neg q3]
  have hI : ∀ a k, u.2.1 a k = h_int s.heap a k := fun a k => by rw [hu]
  have hN : mN u = s.heap.size := by rw [hu]; rfl
  have hD1 : D.1 = s.heap.size := by rw [hD]
  have d0 : D.2.2.2.2 0 = t0 := by rw [hD]; rfl
  have d1 : D.2.2.2.2 1 = t1 := by rw [hD]; rfl
  have d2 : D.2.2.2.2 2 = t2 := by rw [hD]; rfl
  have nine : ∀ (a n : Nat) (cell : Cell) (v : Nat → Int32), mSh u a = some (.inr (9, n)) → n < 2147483648 → s.heap[a]? = some cell → s.isArrayOf cell .int → cell.vm ≠ .unknown → cell.slots.size = n → (∀ j : Nat, j < n → cell.slots[j]? = some (.int (v j))) → RelAt D s u s.heap a := by
    intro a n cell v q0 q1 q2 q3 q4 q5 q6
    unfold RelAt
    rw [q0]
    dsimp only
    rw [if_pos rfl]
    exact ⟨q1, by rw [hD1]; exact (Array.getElem?_eq_some_iff.mp q2).1, cell, q2, q3, q4, q5, fun j hj => by rw [hI, h_int_at q2 (q6 j hj)]; exact q6 j hj⟩
  have hEV : EV D s s.heap := by
    refine ⟨fun k hk => ?_, ?_, ?_, ?_⟩
    · rw [hD1]
      rcases (show k = 0 ∨ k = 1 ∨ k = 2 by omega) with rfl | rfl | rfl
      · rw [d0]; exact va_Zref (hts _ w_s0) (hts _ w_in) v0 hA
      · rw [d1]; exact va_Zref (hts _ w_s1) (hts _ w_in) v1 hA
      · rw [d2]; exact va_Zref (hts _ w_s2) (hts _ w_in) v2 hA
    · rw [hD1]; exact vx_Zqof (hts _ w_U) (hts _ w_inT) (hgs _ g_U) hA
    · rw [hD1]; exact vx_Zqof (hts _ w_S) (hts _ w_inT) (hgs _ g_S) hA
    · obtain ⟨a, c, cell, k, q1, q2, q3, q4, q5, q6, -⟩ := Cond.exactly_spec (hgs _ g_x0)
      cases v0.symm.trans q1
      refine ⟨cell, by rw [d0]; exact q3, ?_, by rw [hD1, d0]; exact Nat.not_le.mpr l0⟩
      have hk := ((hKD D.1 D.2.2.2.2).1.2 0 (aC 0, .int) rfl).2
      have e : s.vm.findClass "[I" = some (aC 0) := hk
      rw [q6, hD]
      exact Option.some.inj (q2.symm.trans e)
  refine ⟨D, u, hD1, by rw [hD]; exact hKD _ _, ⟨hN.symm, by rw [hD1, hN]; exact Nat.le_refl _, fun a ha => ?_, hEV, fun a => ?_⟩, hN, sb, fun x hx => ⟨⟨by rw [d0]; omega, by rw [d0]; exact s0, fun i hi => ?_⟩, ⟨by rw [d1]; omega, by rw [d1]; exact s1, fun i h0 hi => ?_⟩, by rw [d2]; omega, by rw [d2]; exact s2, fun i h0 hi => ?_⟩⟩
  · rw [hN] at ha
    exact so a (by omega) (by omega) (by omega) (by omega)
  · by_cases q0 : a = t0
    · rw [q0]; exact nine _ _ _ _ s0 (by decide) a1 a2 a3 a4 a5
    by_cases q1 : a = t1
    · rw [q1]; exact nine _ _ _ _ s1 (by decide) b1 b2 b3 b4 b5
    by_cases q2 : a = t2
    · rw [q2]; exact nine _ _ _ _ s2 (by decide) c1 c2 c3 c4 c5
    by_cases q3 : a = b
    · obtain ⟨scr, x1, x2, x3, x4, x5⟩ := hX
      rw [q3]; exact nine _ _ _ _ sb (by omega) x1 x2 x3 x4 x5
    · unfold RelAt
      rw [so a q0 q1 q2 q3]
      trivial
  · rw [d0]
    show (u.2.1 t0 i).toInt = _
    rw [hI, h_int_at a1 (a5 i hi)]
    exact row0_at i hi
  · obtain ⟨n, rfl⟩ := Int.eq_ofNat_of_zero_le h0
    rw [d1]
    show (u.2.1 t1 n).toInt = _
    rw [hI, h_int_at b1 (b5 n (by omega))]
    exact least_at n (by omega)
  · obtain ⟨n, rfl⟩ := Int.eq_ofNat_of_zero_le h0
    rw [d2]
    show (u.2.1 t2 n).toInt = _
    rw [hI, h_int_at c1 (c5 n (by omega))]
    exact most_at n (by omega)
