/-! ===== the start as an abstract memory ===== -/
theorem known_all {args : Array Value} {s : State} (hts : ∀ w ∈ wAll, w.before args s = true) : ∃ (dC : Nat → ClassId) (dI : Nat → Nat → Nat), ∀ (k : Nat) (q : vw_C), vwCl[k]? = some q → u_Kn s q.1 q.2.1 q.2.2 (dC k) (dI k) := by
  have h : ∀ k : Nat, ∃ z : ClassId × (Nat → Nat), ∀ q : vw_C, vwCl[k]? = some q → u_Kn s q.1 q.2.1 q.2.2 z.1 z.2 := by
    intro k
    have one : ∀ (q : vw_C), vwCl[k]? = some q → Cond.instantiable q.1 q.2.2 ∈ wAll → ∃ z : ClassId × (Nat → Nat), ∀ q : vw_C, vwCl[k]? = some q → u_Kn s q.1 q.2.1 q.2.2 z.1 z.2 := fun q hq hi => by
      obtain ⟨c, iS, h⟩ := u_known (C := q.1) (T := q.2.1) (N := q.2.2) hts ((clsOK k) q hq).2.1 (hts _ hi)
      exact ⟨(c, iS), fun q' hq' => by cases hq.symm.trans hq'; exact h⟩
    match k, one with
    | 0, one => exact one _ rfl cn_X0
    | 1, one => exact one _ rfl cn_X1
    | 2, one => exact one _ rfl cn_X2
    | 3, one => exact one _ rfl cn_X3
    | 4, one => exact one _ rfl cn_X4
    | 5, one => exact one _ rfl cn_X5
    | 6, one => exact one _ rfl cn_X6
    | 7, one => exact one _ rfl cn_X7
    | 8, one => exact one _ rfl cn_X8
    | n + 9, _ => exact ⟨(0, fun _ => 0), fun q hq => by simp [vwCl] at hq⟩
  obtain ⟨f, hf⟩ := Classical.axiomOfChoice h
  exact ⟨fun k => (f k).1, fun k => (f k).2, hf⟩
theorem arr_one {args : Array Value} {s : State} {nm : String} (h : (Cond.arrayOver (.object nm)).before args s = true) : ∃ c : ClassId, ArrOfT s c (.object nm) ∧ va_RA s c (.object nm) := by
  obtain ⟨comp, c, k, h1, h2, h3, h4, h5⟩ := Cond.arrayOver_spec h
  exact ⟨c, fun n z => ⟨fun _ hh => (by cases hh), k, h3, comp, h4⟩, k, comp, h3, h4, h1, h5⟩
theorem arr_all {args : Array Value} {s : State} (hts : ∀ w ∈ lw_tbl, w.before args s = true) : ∃ aC : Nat → ClassId, ∀ k, k < 6 → ArrOfT s (aC k) (aTy k) ∧ va_RA s (aC k) (aTy k) := by
  have h : ∀ k : Nat, ∃ c : ClassId, k < 6 → ArrOfT s c (aTy k) ∧ va_RA s c (aTy k) := by
    intro k
    match k with
    | 0 =>
      obtain ⟨cA, kA, comp, h1, h2, h3⟩ := Cond.arrayClass_spec (hts _ (List.mem_filter.mp ka_int).1)
      exact ⟨cA, fun _ => ⟨fun n z => ⟨fun _ hh => (by cases hh), kA, h2, comp, h3⟩, h1⟩⟩
    | 1 =>
      obtain ⟨cA, kA, comp, h1, h2, h3⟩ := Cond.arrayClass_spec (hts _ (List.mem_filter.mp ka_long).1)
      exact ⟨cA, fun _ => ⟨fun n z => ⟨fun _ hh => (by cases hh), kA, h2, comp, h3⟩, h1⟩⟩
    | 2 => obtain ⟨c, h⟩ := arr_one (hts _ w_oRX5); exact ⟨c, fun _ => h⟩
    | 3 => obtain ⟨c, h⟩ := arr_one (hts _ w_oRX6); exact ⟨c, fun _ => h⟩
    | 4 => obtain ⟨c, h⟩ := arr_one (hts _ w_oRX3); exact ⟨c, fun _ => h⟩
    | 5 => obtain ⟨c, h⟩ := arr_one (hts _ w_oRX1); exact ⟨c, fun _ => h⟩
    | n + 6 => exact ⟨0, fun h => by omega⟩
  obtain ⟨f, hf⟩ := Classical.axiomOfChoice h
  exact ⟨f, hf⟩
theorem kx_start {args : Array Value} {s : State} (hts : ∀ w ∈ lw_tbl, w.before args s = true) (hgs : ∀ w ∈ flatC gnC, w.before args s = true) : KX s := by
  refine ⟨fun n hn => ?_, fun q hq => ?_, fun w hw hf => ?_, fun q hq => ?_⟩
  · simp only [List.mem_cons, List.not_mem_nil, or_false] at hn
    rcases hn with rfl | rfl | rfl | rfl
    · exact va_AO.of (hts _ w_oRX5)
    · exact va_AO.of (hts _ w_oRX6)
    · exact va_AO.of (hts _ w_oRX3)
    · exact va_AO.of (hts _ w_oRX1)
  · have one : ∀ (k : Nat) (t : String), Cond.stringRef "OutboxRelay" k t ∈ lw_tbl → Cond.exactly (.string "OutboxRelay" k) "java/lang/String" ∈ flatC gnC → ∃ a : Nat, vk_R "OutboxRelay" k t a s := fun k t h1 h2 => by
      obtain ⟨a, c, cA, kA, q1, -⟩ := Cond.exactly_spec (hgs _ h2)
      exact ⟨a, vk_R.of (hts _ h1) q1⟩
    simp only [txts, List.mem_cons, List.not_mem_nil, or_false] at hq
    rcases hq with rfl | rfl | rfl | rfl | rfl | rfl | rfl | rfl | rfl | rfl | rfl | rfl | rfl | rfl | rfl | rfl | rfl | rfl | rfl | rfl | rfl | rfl
    · exact one _ _ w_t103 g_t103
    · exact one _ _ w_t105 g_t105
    · exact one _ _ w_t118 g_t118
    · exact one _ _ w_t132 g_t132
    · exact one _ _ w_t143 g_t143
    · exact one _ _ w_t148 g_t148
    · exact one _ _ w_t153 g_t153
    · exact one _ _ w_t159 g_t159
    · exact one _ _ w_t164 g_t164
    · exact one _ _ w_t176 g_t176
    · exact one _ _ w_t190 g_t190
    · exact one _ _ w_t192 g_t192
    · exact one _ _ w_t194 g_t194
    · exact one _ _ w_t196 g_t196
    · exact one _ _ w_t205 g_t205
    · exact one _ _ w_t240 g_t240
    · exact one _ _ w_t246 g_t246
    · exact one _ _ w_t43 g_t43
    · exact one _ _ w_t60 g_t60
    · exact one _ _ w_t69 g_t69
    · exact one _ _ w_t75 g_t75
    · exact one _ _ w_t84 g_t84
  · refine va_Nw.of ?_ (hts w hw)
    cases w <;> first | rfl | cases hf
  · simp only [ncL, List.mem_cons, List.not_mem_nil, or_false] at hq
    rcases hq with rfl | rfl | rfl | rfl | rfl | rfl
    · exact va_Nc.of (hgs _ g_xISxIA)
    · exact va_Nc.of (hgs _ g_xISxIO)
    · exact va_Nc.of (hgs _ g_xIAxIS)
    · exact va_Nc.of (hgs _ g_xIAxIO)
    · exact va_Nc.of (hgs _ g_xIOxIS)
    · exact va_Nc.of (hgs _ g_xIOxIA)
theorem kd_start {args : Array Value} {s : State} (hts : ∀ w ∈ lw_tbl, w.before args s = true) (hgs : ∀ w ∈ flatC gnC, w.before args s = true) : ∃ (dC : Nat → ClassId) (dI : Nat → Nat → Nat) (aC : Nat → ClassId), ∀ (N : Nat) (sa : Nat → Nat), KD (N, dC, dI, aC, sa) s := by
  obtain ⟨dC, dI, h1⟩ := known_all (fun w hw => hts w (List.mem_filter.mp hw).1)
  obtain ⟨aC, h2⟩ := arr_all hts
  refine ⟨dC, dI, aC, fun N sa => ⟨⟨h1, fun k q hq => ?_⟩, kx_start hts hgs⟩⟩
  unfold tysD at hq
  rw [List.getElem?_map] at hq
  by_cases h : k < 6
  · rw [List.getElem?_range h] at hq
    cases hq
    exact h2 k h
  · rw [List.getElem?_eq_none (by simpa using h)] at hq
    cases hq
