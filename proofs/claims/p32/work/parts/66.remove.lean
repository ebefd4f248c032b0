/-! ===== the first message goes ===== -/
theorem takeOff_at {r : RW} {n N : Nat} (hN : r 9 = N) (hn : n < N) (hN2 : N ≤ 60) : (∀ j, j ≠ 9 → (j < 811 ∨ 811 + 7 * (N : Int) ≤ j) → m_takeOff r n j = r j) ∧ m_takeOff r n 9 = (N : Int) - 1 ∧ ∀ k : Nat, k < N - 1 → ∀ x : Int, 0 ≤ x → x ≤ 6 → m_way (m_takeOff r n) k x = m_way r (if k < n then k else k + 1 : Nat) x := by
  refine ⟨fun j h9 hj => ?_, ?_, fun k hk x h0 h1 => ?_⟩
  · unfold m_takeOff; rw [if_neg h9, hN, if_neg (by omega), if_neg (by omega)]
  · unfold m_takeOff; rw [if_pos rfl, hN]
  · unfold m_way m_takeOff
    rw [if_neg (by omega), hN, if_neg (by omega)]
    by_cases q : k < n
    · rw [if_neg (by omega), if_pos q]
    · rw [if_pos (by omega), if_neg q]; congr 1; omega
def LexMin (r : RW) (N n : Nat) : Prop := n < N ∧ ∀ m, m < N → m ≠ n → Lex r n m
theorem LexMin.keep {r r' : RW} {N n : Nat} (h : LexMin r N n) (hr : ∀ j, 811 ≤ j → r' j = r j) : LexMin r' N n := ⟨h.1, fun m hm hne => by
  have := h.2 m hm hne
  unfold Lex at this ⊢
  rw [way_keep hr (by omega) (by decide), way_keep hr (by omega) (by decide)]; exact this⟩
theorem RSl.first {u : Mem} {b : Nat} {r : RW} {N : Nat} (h : RSl u b r) (hN : r 9 = N) (h0 : 0 < N) : ∃ n, LexMin r N n := by
  obtain ⟨-, -, -, -, -, -, s, hs, -⟩ := h
  rw [hN, Int.toNat_natCast] at hs
  refine ⟨s 0, hs.1 0 h0, fun m hm hne => ?_⟩
  obtain ⟨j, hj, ej⟩ := hs.2.1 m hm
  have : 0 < j := by
    rcases Nat.eq_zero_or_pos j with z | z
    · subst z; exact absurd ej.symm hne
    · exact z
  have := hs.2.2 0 j this hj
  rw [ej] at this; exact this
theorem Sig.zero {r : RW} {N n : Nat} {s : Nat → Nat} (hs : Sig r N s) (h : LexMin r N n) : s 0 = n := by
  have h0 : 0 < N := by have := h.1; omega
  apply Decidable.byContradiction
  intro e
  have h1 := h.2 (s 0) (hs.1 0 h0) e
  obtain ⟨j, hj, ej⟩ := hs.2.1 n h.1
  have hj0 : 0 < j := by
    rcases Nat.eq_zero_or_pos j with z | z
    · subst z; exact absurd ej e
    · exact z
  have h2 := hs.2.2 0 j hj0 hj
  rw [ej] at h2
  unfold Lex at h1 h2
  omega
theorem RSl.head {u : Mem} {b : Nat} {r : RW} {N n : Nat} (h : RSl u b r) (hN : r 9 = N) (hm : LexMin r N n) : RSm u (qa u b 0) r n := by
  obtain ⟨-, -, -, -, -, -, s, hs, h8⟩ := h
  rw [hN, Int.toNat_natCast] at hs h8
  have := h8 0 (by have := hm.1; omega)
  rw [hs.zero hm] at this; exact this
def rotP (N j : Nat) : Nat := if j < N - 1 then j + 1 else if j = N - 1 then 0 else j
theorem rotQ_at (q : Int → Option Nat) {N : Nat} (hN : 0 < N) (j : Nat) : rotQ q N j = q (rotP N j) := by
  unfold rotQ rotP
  by_cases h : j < N - 1
  · rw [if_pos (by omega), if_pos h]; congr 1
  · rw [if_neg (by omega), if_neg h]
    by_cases e : j = N - 1
    · rw [if_pos (by omega), if_pos e]; rfl
    · rw [if_neg (by omega), if_neg e]
theorem rs_remove {u : Mem} {a : Nat} {r : RW} (hS : RS u a r) (hB : IB r) {N n : Nat} (hN : r 9 = N) (hm : LexMin r N n) (hlen : ∀ m : Nat, m < N → m_way r m 3 ≤ 8) : RS (sQ (sI u (a + 34) 1 ((N : Int) - 1)) (a + 34 + 1) (rotQ (mP u (a + 34 + 1)) N)) a (m_takeOff r n) ∧ qa (sQ (sI u (a + 34) 1 ((N : Int) - 1)) (a + 34 + 1) (rotQ (mP u (a + 34 + 1)) N)) (a + 34) ((N : Int) - 1) = qa u (a + 34) 0 := by
  have hM := hS.o.l
  have h54 := hB.ni
  have hnN := hm.1
  obtain ⟨W, hW⟩ : ∃ W, W = sQ (sI u (a + 34) 1 ((N : Int) - 1)) (a + 34 + 1) (rotQ (mP u (a + 34 + 1)) N) := ⟨_, rfl⟩
  rw [← hW]
  obtain ⟨l1, l2, l3, l4, l5, l6, s, hs, hmm⟩ := hS.l
  rw [hN, Int.toNat_natCast] at hs hmm
  have s0 := hs.zero hm
  obtain ⟨t1, t9, t3⟩ := takeOff_at hN hnN (by omega)
  have hf : Fr u W (fun q => q = a + 34) (fun q => q = a + 35) := by rw [hW]; refine Fr.sQ (Fr.sI (Fr.refl _ _ _) _ _ ?_) _ ?_ <;> omega
  have hWP : ∀ j : Nat, mP W (a + 34 + 1) j = mP u (a + 34 + 1) (rotP N j) := fun j => by rw [hW, mP_sQ]; exact rotQ_at _ (by omega) j
  have hqj : ∀ j : Nat, qa W (a + 34) j = qa u (a + 34) (rotP N j) := fun j => qa_perm (hWP j)
  have hWb : mI W (a + 34) = up (mI u (a + 34)) 1 ((N : Int) - 1) := by rw [hW, mI_sQ, up_mI]
  have hsh : ∀ j, j + 1 < N → s (j + 1) ≠ n := fun j hj e => by
    have := hs.ne (i := 0) (j := j + 1) (by omega) hj
    rw [s0, e] at this; exact this rfl
  refine ⟨hS.mail hB hf.mSh (fun q hq => hf.mP hq) (fun q h1 h2 => hf.mI (by omega)) (hM.2.2.2.perm (s := rotP N) (fun j hj => ?_) (fun i j hi hj e => ?_) (fun j _ => hWP j)) (fun j h1 h2 => ?_) ⟨?_, ?_, ?_, ?_, ?_, ?_, fun j => if s (j + 1) < n then s (j + 1) else s (j + 1) - 1, ⟨fun j hj => ?_, fun m hm' => ?_, fun i j hij hj => ?_⟩, fun j hj => ?_⟩, ?_⟩
  · unfold rotP; split
    · omega
    · split <;> omega
  · unfold rotP at e
    (repeat' split at e) <;> omega
  · exact t1 j (by omega) (by omega)
  · rw [hWb, up_s, t9, wr_id ⟨by omega, by omega⟩]
  · rw [hWb, up_n _ _ (by decide), t1 4 (by decide) (by omega)]; exact l2
  · rw [hWb, up_n _ _ (by decide), t1 5 (by decide) (by omega)]; exact l3
  · rw [hWb, up_n _ _ (by decide), t1 6 (by decide) (by omega)]; exact l4
  · rw [hWb, up_n _ _ (by decide), t1 8 (by decide) (by omega)]; exact l5
  · rw [hWb, up_n _ _ (by decide), t1 7 (by decide) (by omega)]; exact l6
  · rw [t9, show ((N : Int) - 1).toNat = N - 1 by omega] at hj ⊢
    have h1 := hs.1 (j + 1) (by omega)
    have h2 := hsh j (by omega)
    dsimp only; split <;> omega
  · rw [t9, show ((N : Int) - 1).toNat = N - 1 by omega] at hm' ⊢
    obtain ⟨j, hj, ej⟩ := hs.2.1 (if m < n then m else m + 1) (by split <;> omega)
    have hj0 : 0 < j := by
      rcases Nat.eq_zero_or_pos j with z | z
      · subst z; rw [s0] at ej; split at ej <;> omega
      · exact z
    refine ⟨j - 1, by omega, ?_⟩
    dsimp only
    rw [show j - 1 + 1 = j by omega, ej]
    (repeat' split) <;> omega
  · rw [t9, show ((N : Int) - 1).toNat = N - 1 by omega] at hj
    have hl := hs.2.2 (i + 1) (j + 1) (by omega) (by omega)
    have a1 := hs.1 (i + 1) (by omega)
    have a2 := hs.1 (j + 1) (by omega)
    have b1 := hsh i (by omega)
    have b2 := hsh j (by omega)
    have key : ∀ x, x < N → x ≠ n → m_way (m_takeOff r n) ((if x < n then x else x - 1 : Nat) : Int) 2 = m_way r x 2 := fun x hx hne => by
      rw [t3 _ (by split <;> omega) 2 (by decide) (by decide)]
      congr 1
      (repeat' split) <;> omega
    dsimp only
    unfold Lex at hl ⊢
    rw [key _ a1 b1, key _ a2 b2]
    rcases hl with z | ⟨z1, z2⟩
    · exact Or.inl z
    · refine Or.inr ⟨z1, ?_⟩
      split <;> split <;> omega
  · rw [t9, show ((N : Int) - 1).toNat = N - 1 by omega] at hj
    rw [hqj j, show rotP N j = j + 1 from by unfold rotP; rw [if_pos hj]]
    have hbx := hM.bq (j := j + 1) (by omega)
    obtain ⟨m1, m2, m3, m4, m5, m6⟩ := hmm (j + 1) (by omega)
    have a1 := hs.1 (j + 1) (by omega)
    have b1 := hsh j (by omega)
    have key : ∀ x : Int, 0 ≤ x → x ≤ 6 → m_way (m_takeOff r n) ((if s (j + 1) < n then s (j + 1) else s (j + 1) - 1 : Nat) : Int) x = m_way r (s (j + 1)) x := fun x h0 h1 => by
      rw [t3 _ (by split <;> omega) x h0 h1]
      congr 1
      (repeat' split) <;> omega
    dsimp only
    unfold RSm
    rw [hf.mI (by omega), hf.mI (q := qa u (a + 34) ((j + 1 : Nat) : Int) + 1) (by omega), key 0 (by decide) (by decide), key 1 (by decide) (by decide), key 2 (by decide) (by decide), key 3 (by decide) (by decide), key 4 (by decide) (by decide)]
    exact ⟨m1, m2, m3, m4, m5, fun k hk => by
      have h8 := hlen _ a1
      unfold m_rowOf
      rw [key _ (by have := Int.tdiv_nonneg (a := (k : Int)) (b := 4) (by omega) (by decide); omega) (by rw [Int.tdiv_eq_ediv_of_nonneg (by omega)]; omega)]
      exact m6 k hk⟩
  · have := hqj (N - 1)
    rw [show ((N - 1 : Nat) : Int) = (N : Int) - 1 by omega] at this
    rw [this, show rotP N (N - 1) = 0 from by unfold rotP; rw [if_neg (by omega), if_pos rfl]]; rfl
/-- a free message may say anything -/
theorem rs_draft {u w : Mem} {a : Nat} {r : RW} (hS : RS u a r) (hB : IB r) {N : Nat} (hN : r 9 = N) {q0 : Nat} (hq0 : q0 = qa u (a + 34) N) (hf : Fr u w (fun q => q = q0 ∨ q = q0 + 1) (fun _ => False)) : RS w a r := by
  have hM := hS.o.l
  have h54 := hB.ni
  have hbN := hM.bq (j := N) (by omega)
  rw [← hq0] at hbN
  obtain ⟨l1, l2, l3, l4, l5, l6, s, hs, hm⟩ := hS.l
  refine hS.mail hB hf.mSh (fun q _ => hf.mP id) (fun q h1 h2 => hf.mI (by omega)) (by unfold QuO; rw [hf.mP id]; exact hM.2.2.2) (fun _ _ _ => rfl) ?_
  unfold RSl
  rw [hf.mI (by omega)]
  refine ⟨l1, l2, l3, l4, l5, l6, s, hs, fun j hj => ?_⟩
  rw [hN, Int.toNat_natCast] at hj
  have hnx := hM.nq (i := j) (j := N) (by omega) (by omega) (by omega)
  rw [← hq0] at hnx
  rw [qa_eq (hf.mP id)]
  have := hm j (by rw [hN, Int.toNat_natCast]; exact hj)
  exact this.keep (by omega) (hf.mI (by omega)) (hf.mI (by omega)) (fun _ _ => rfl)
/-- an answer comes -/
def m_ansR (g : RW) (c x : Int) : RW :=
  let g1 := up g 7 (g 7 + 1)
  let g2 := up g1 (697 + 38 * c + 8) (if x ≤ m_of g1 c 8 then m_of g1 c 8 else x)
  if x < m_of g2 c 10 then g2 else up g2 (697 + 38 * c + 9) 0
theorem ansR_at {g : RW} (rf : RF g) {c : Nat} (hc : c < 3) {x : Int} (hx : rg x) : (∀ j, j ≠ 7 → j ≠ 697 + 38 * (c : Int) + 8 → j ≠ 697 + 38 * (c : Int) + 9 → m_ansR g c x j = g j) ∧ m_ansR g c x 7 = wr (g 7 + 1) ∧ m_of (m_ansR g c x) c 8 = (if x ≤ m_of g c 8 then m_of g c 8 else x) ∧ m_of (m_ansR g c x) c 9 = (if x < m_of g c 10 then m_of g c 9 else 0) := by
  unfold m_ansR
  have e8 : m_of (up g 7 (g 7 + 1)) c 8 = m_of g c 8 := by unfold m_of; exact up_n _ _ (by omega)
  have e10 : ∀ X, m_of (up (up g 7 (g 7 + 1)) (697 + 38 * (c : Int) + 8) X) c 10 = m_of g c 10 := fun X => by unfold m_of; rw [up_n _ _ (by omega), up_n _ _ (by omega)]
  simp only [e8, e10]
  have h8 : wr (if x ≤ m_of g c 8 then m_of g c 8 else x) = (if x ≤ m_of g c 8 then m_of g c 8 else x) := by
    split
    · exact wr_id (rg_of rf _ _)
    · exact wr_id hx
  by_cases q : x < m_of g c 10
  · rw [if_pos q, if_pos q]
    refine ⟨fun j h1 h2 h3 => by rw [up_n _ _ h2, up_n _ _ h1], by rw [up_n _ _ (by omega), up_s], ?_, ?_⟩
    · unfold m_of; rw [up_s]; exact h8
    · unfold m_of; rw [up_n _ _ (by omega), up_n _ _ (by omega)]
  · rw [if_neg q, if_neg q]
    refine ⟨fun j h1 h2 h3 => by rw [up_n _ _ h3, up_n _ _ h2, up_n _ _ h1], by rw [up_n _ _ (by omega), up_n _ _ (by omega), up_s], ?_, ?_⟩
    · unfold m_of; rw [up_n _ _ (by omega), up_s]; exact h8
    · unfold m_of; rw [up_s]; rfl
theorem rf_acF {f : RW} (rf : RF f) {n : Int} (hn : rg n) : RF (c_acF f n) := fun j => by
  unfold c_acF
  (repeat' split) <;> first | exact hn | exact rg_0 | exact rf _
theorem rs_answer {u : Mem} {a : Nat} {g : RW} (hS : RS u a g) (hB : IB g) {c : Nat} (hc : c < 3) {x : Int} (hx : rg x) (hx0 : 0 ≤ x) : RS (sA (sI u (a + 34) 6 (g 7 + 1)) (a + 28 + 2 * c) (c_acF (mI u (a + 28 + 2 * c)) x)) a (m_ansR g c x) ∧ Fr u (sA (sI u (a + 34) 6 (g 7 + 1)) (a + 28 + 2 * c) (c_acF (mI u (a + 28 + 2 * c)) x)) (fun q => q = a + 34 ∨ q = a + 28 + 2 * c) (fun _ => False) := by
  have rf := hB.rf
  obtain ⟨t1, t7, t8, t9⟩ := ansR_at rf hc hx
  obtain ⟨W, hW⟩ : ∃ W, W = sA (sI u (a + 34) 6 (g 7 + 1)) (a + 28 + 2 * c) (c_acF (mI u (a + 28 + 2 * c)) x) := ⟨_, rfl⟩
  rw [← hW]
  have hf : Fr u W (fun q => q = a + 34 ∨ q = a + 28 + 2 * c) (fun _ => False) := by rw [hW]; exact Fr.sA (Fr.sI (Fr.refl _ _ _) _ _ (Or.inl rfl)) _ (Or.inr rfl)
  have hWc : mI W (a + 28 + 2 * c) = c_acF (mI u (a + 28 + 2 * c)) x := by rw [hW, mI_sA_f _ _ (rf_acF (rf_mI _ _) hx)]
  have hWm : mI W (a + 34) = up (mI u (a + 34)) 6 (g 7 + 1) := by rw [hW, mI_sA_n _ _ (by omega), up_mI]
  have hM := hS.o.l
  have h54 := hB.ni
  refine ⟨⟨hf.stO hS.o, ⟨?_, ?_⟩, fun i hi => ?_, fun p hp => ?_, ?_, fun d hd => ?_, ?_⟩, hf⟩
  · rw [hf.mI (by omega), t1 0 (by omega) (by omega) (by omega)]; exact hS.tick
  · rw [hf.mI (by omega), t1 1 (by omega) (by omega) (by omega)]; exact hS.writ
  · rw [hf.mI (by omega), t1 _ (by omega) (by omega) (by omega)]; exact hS.set hi
  · exact (hS.t hp).keep (fun q h1 h2 => hf.mI (by omega)) (fun j h1 h2 => t1 j (by omega) (by omega) (by omega)) (hB.pl p hp).2.1.2
  · exact hS.r.keep (fun q h1 h2 => hf.mI (by omega)) (fun j hj => t1 j (by omega) (by omega) (by omega)) hB.co.1.2
  · by_cases e : d = c
    · subst e
      obtain ⟨c1, c2, c3, c4, c5, c6, c7, c8, c9, c10, c11, c12, c13, c14⟩ := hS.c hd
      have h10 := (hB.re d hd).2.2.2.2.2.2
      have h20 := (hB.re d hd).2.2.1
      have o : ∀ y : Int, y ≠ 8 → y ≠ 9 → 0 ≤ y → y < 38 → m_of (m_ansR g d x) d y = m_of g d y := fun y h1 h2 h3 h4 => by unfold m_of; exact t1 _ (by omega) (by omega) (by omega)
      have q : ∀ j : Int, j ≠ 10 → j ≠ 11 → c_acF (mI u (a + 28 + 2 * d)) x j = mI u (a + 28 + 2 * d) j := fun j h1 h2 => by unfold c_acF; rw [if_neg h1, if_neg h2]
      unfold RSc
      rw [hWc, hf.mI (q := a + 28 + 2 * d + 1) (by omega)]
      rw [q 1 (by decide) (by decide), q 2 (by decide) (by decide), q 3 (by decide) (by decide), q 4 (by decide) (by decide), q 5 (by decide) (by decide), q 6 (by decide) (by decide), q 7 (by decide) (by decide), q 8 (by decide) (by decide), q 9 (by decide) (by decide), q 12 (by decide) (by decide), q 13 (by decide) (by decide)]
      rw [o 0 (by decide) (by decide) (by decide) (by decide), o 1 (by decide) (by decide) (by decide) (by decide), o 2 (by decide) (by decide) (by decide) (by decide), o 3 (by decide) (by decide) (by decide) (by decide), o 4 (by decide) (by decide) (by decide) (by decide), o 5 (by decide) (by decide) (by decide) (by decide), o 6 (by decide) (by decide) (by decide) (by decide), o 7 (by decide) (by decide) (by decide) (by decide), o 10 (by decide) (by decide) (by decide) (by decide), o 11 (by decide) (by decide) (by decide) (by decide), o 12 (by decide) (by decide) (by decide) (by decide), t8, t9]
      refine ⟨c1, c2, c3, c4, c5, c6, c7, c8, c9, ?_, ?_, c12, c13, fun j hj => by rw [o _ (by omega) (by omega) (by omega) (by omega)]; exact c14 j hj⟩
      · unfold c_acF; rw [if_pos rfl, c10]; split <;> split <;> omega
      · unfold c_acF; rw [if_neg (by decide), if_pos rfl, c11]
        rcases c13 with z | ⟨z1, z2⟩
        · rw [z]; split <;> split <;> omega
        · rw [z1, z2]; split <;> split <;> omega
    · exact (hS.c hd).keep (hf.mI (by omega)) (hf.mI (by omega)) (fun j h1 h2 => t1 j (by omega) (by omega) (by omega)) (by have := (hB.re d hd).2.2.1; omega)
  · obtain ⟨l1, l2, l3, l4, l5, l6, s, hs, hm⟩ := hS.l
    have r9 : m_ansR g c x 9 = g 9 := t1 9 (by omega) (by omega) (by omega)
    unfold RSl
    rw [hWm, r9, t7]
    refine ⟨by rw [up_n _ _ (by decide)]; exact l1, by rw [up_n _ _ (by decide), t1 4 (by omega) (by omega) (by omega)]; exact l2, by rw [up_n _ _ (by decide), t1 5 (by omega) (by omega) (by omega)]; exact l3, by rw [up_n _ _ (by decide), t1 6 (by omega) (by omega) (by omega)]; exact l4, by rw [up_n _ _ (by decide), t1 8 (by omega) (by omega) (by omega)]; exact l5, by rw [up_s], s, hs.keep (fun j hj => t1 j (by omega) (by omega) (by omega)), fun j hj => ?_⟩
    have hbx := hM.bq (j := j) (by omega)
    rw [qa_eq (hf.mP id)]
    exact (hm j hj).keep (by omega) (hf.mI (by omega)) (hf.mI (by omega)) (fun y hy => t1 y (by omega) (by omega) (by omega))
