/-! ===== settings, wants, the first row ===== -/
theorem inv_set {r : RW} {T : Int} (h : Inv r T) {s v : Int} (hq : q_set r s v = 0) : Inv (up r (10 + s) v) T := by
  obtain ⟨⟨i0, i1⟩, i2, i3, i4, i5⟩ := h.ti
  have hs : 0 ≤ s ∧ s ≤ 6 := by
    apply Decidable.byContradiction; intro z
    unfold q_set at hq; rw [if_pos z] at hq; omega
  have hv : s_least s ≤ v ∧ v ≤ s_most s := by
    apply Decidable.byContradiction; intro z
    unfold q_set at hq; rw [if_neg (by omega), if_pos (Or.inl z)] at hq; omega
  have rG := rf_up h.rf (10 + s) v
  have e : ∀ j, j ≠ 10 + s → (up r (10 + s) v) j = r j := fun j hj => up_n _ _ hj
  have es : (up r (10 + s) v) (10 + s) = v := by
    rw [up_s]
    refine wr_id ⟨?_, ?_⟩
    · have := hv.1; unfold s_least at this; split at this <;> omega
    · have := hv.2; unfold s_most at this; (repeat' split at this) <;> omega
  generalize up r (10 + s) v = g at rG e es ⊢
  have eo : ∀ (c : Nat) (x : Int), 0 ≤ x → m_of g c x = m_of r c x := fun c x hx0 => by unfold m_of; exact e _ (by omega)
  refine h.low rG (fun j hj => e j (by omega)) (by rw [e 4 (by omega)]; exact i3) (by rw [e 6 (by omega)]; exact i4) (fun c hc => by rw [eo c 3 (by decide)]; exact i5 c hc) ?_ ?_ (fun c hc => ?_) ?_
  · have := h.co
    unfold ICo at this
    rw [e 9 (by omega), e 5 (by omega), e 4 (by omega), e 6 (by omega), e 8 (by omega)]
    exact this.2.2.2
  · obtain ⟨b0, b1, b2, b3, b4, b5, b6⟩ := h.se
    have e' : ∀ k : Int, k ≠ s → g (10 + k) = r (10 + k) := fun k hk => e _ (by omega)
    have e0 := e' 0; have e1 := e' 1; have e2 := e' 2; have e3 := e' 3; have e4 := e' 4; have e5 := e' 5; have e6 := e' 6
    simp only [Int.reduceAdd, ne_eq] at e0 e1 e2 e3 e4 e5 e6
    unfold ISe
    unfold s_least s_most at hv
    rcases (show s = 0 ∨ s = 1 ∨ s = 2 ∨ s = 3 ∨ s = 4 ∨ s = 5 ∨ s = 6 by omega) with z | z | z | z | z | z | z <;> subst z <;> simp at hv e0 e1 e2 e3 e4 e5 e6 es <;> refine ⟨?_, ?_, ?_, ?_, ?_, ?_, ?_⟩ <;> omega
  · have := h.re c hc
    rw [eo c 0 (by decide), eo c 1 (by decide), eo c 2 (by decide), eo c 8 (by decide), eo c 9 (by decide), eo c 11 (by decide), eo c 10 (by decide), e 0 (by omega)]
    exact this
  · exact h.me.keep (e 0 (by omega)) (e 2 (by omega)) (e 9 (by omega)) (fun j hj => e j (by omega))
theorem inv_want {r : RW} {T : Int} (h : Inv r T) {c : Nat} (hc : c < 3) {t : Int} (ht : 0 ≤ t ∧ t ≤ 15) : Inv (up r (697 + 38 * (c : Int) + 0) t) T := by
  obtain ⟨⟨i0, i1⟩, i2, i3, i4, i5⟩ := h.ti
  have rG := rf_up h.rf (697 + 38 * (c : Int) + 0) t
  have e : ∀ j, j ≠ 697 + 38 * (c : Int) → (up r (697 + 38 * (c : Int) + 0) t) j = r j := fun j hj => up_n _ _ (by omega)
  have es : m_of (up r (697 + 38 * (c : Int) + 0) t) c 0 = t := by unfold m_of; rw [up_s]; exact wr_id ⟨by omega, by omega⟩
  generalize up r (697 + 38 * (c : Int) + 0) t = g at rG e es ⊢
  have eo : ∀ (d : Nat) (x : Int), 0 < x → x < 38 → m_of g d x = m_of r d x := fun d x hx0 hx1 => by unfold m_of; exact e _ (by omega)
  refine h.low rG (fun j hj => e j (by omega)) (by rw [e 4 (by omega)]; exact i3) (by rw [e 6 (by omega)]; exact i4) (fun c hc => by rw [eo c 3 (by decide) (by decide)]; exact i5 c hc) ?_ ?_ (fun d hd => ?_) ?_
  · have := h.co
    unfold ICo at this
    rw [e 9 (by omega), e 5 (by omega), e 4 (by omega), e 6 (by omega), e 8 (by omega)]
    exact this.2.2.2
  · have := h.se
    unfold ISe at *
    rw [e 10 (by omega), e 11 (by omega), e 12 (by omega), e 13 (by omega), e 14 (by omega), e 15 (by omega), e 16 (by omega)]
    exact this
  · have := h.re d hd
    rw [eo d 1 (by decide) (by decide), eo d 2 (by decide) (by decide), eo d 8 (by decide) (by decide), eo d 9 (by decide) (by decide), eo d 11 (by decide) (by decide), eo d 10 (by decide) (by decide), e 0 (by omega)]
    refine ⟨?_, this.2⟩
    by_cases z : d = c
    · subst z; rw [es]; exact ht
    · have : m_of g d 0 = m_of r d 0 := by unfold m_of; exact e _ (by omega)
      rw [this]; exact (h.re d hd).1
  · exact h.me.keep (e 0 (by omega)) (e 2 (by omega)) (e 9 (by omega)) (fun j hj => e j (by omega))
set_option maxRecDepth 100000 in
theorem row0_few : (m_row0 0 = 0 ∧ m_row0 1 = 0 ∧ m_row0 2 = 0 ∧ m_row0 3 = 0 ∧ m_row0 4 = 0 ∧ m_row0 5 = 0 ∧ m_row0 6 = 0 ∧ m_row0 8 = 0 ∧ m_row0 9 = 0) ∧ (m_row0 10 = 0 ∧ m_row0 11 = 2 ∧ m_row0 12 = 3 ∧ m_row0 13 = 6 ∧ m_row0 14 = 0 ∧ m_row0 15 = 1 ∧ m_row0 16 = 4) := by decide +kernel
set_option maxRecDepth 100000 in
theorem row0_its : ∀ p : Fin 4, m_its m_row0 p.val 0 = 0 ∧ m_its m_row0 p.val 1 = 0 := by decide +kernel
set_option maxRecDepth 100000 in
theorem row0_of : ∀ c : Fin 3, m_of m_row0 c.val 0 = 15 ∧ m_of m_row0 c.val 1 = -1 ∧ m_of m_row0 c.val 2 = 0 ∧ m_of m_row0 c.val 3 = 0 ∧ m_of m_row0 c.val 4 = 0 ∧ m_of m_row0 c.val 5 = 0 ∧ m_of m_row0 c.val 6 = 0 ∧ m_of m_row0 c.val 7 = 0 ∧ m_of m_row0 c.val 8 = -1 ∧ m_of m_row0 c.val 9 = 0 ∧ m_of m_row0 c.val 10 = 0 ∧ m_of m_row0 c.val 11 = 0 ∧ m_of m_row0 c.val 12 = 0 := by decide +kernel
theorem inv_row0 : Inv m_row0 0 := by
  obtain ⟨⟨z0, z1, z2, z3, z4, z5, z6, z8, z9⟩, y0, y1, y2, y3, y4, y5, y6⟩ := row0_few
  have hi := fun (p : Nat) (hp : p < 4) => row0_its ⟨p, hp⟩
  have ho := fun (c : Nat) (hc : c < 3) => row0_of ⟨c, hc⟩
  refine ⟨rf_row0, ⟨by omega, by omega, by omega, by omega, fun c hc => ?_⟩, ?_, ?_, fun p hp => ?_, fun j hj => by omega, ⟨fun k j _ hj => by omega, fun p hp hop => ?_⟩, fun c hc => ?_, ⟨fun _ => 0, fun n hn => by omega⟩⟩
  · have := (ho c hc).2.2.2.1; dsimp only at this; omega
  · unfold ICo m_kept; omega
  · unfold ISe; omega
  · have := hi p hp
    dsimp only at this
    exact ⟨Or.inl this.1, by omega, fun i hi => by omega⟩
  · have := (hi p hp).1
    dsimp only at this; omega
  · obtain ⟨a0, a1, a2, a3, a4, a5, a6, a7, a8, a9, a10, a11, a12⟩ := ho c hc
    dsimp only at a0 a1 a2 a8 a9 a10 a11
    omega
/-- the class's setting, want -/
theorem rs_set {u : Mem} {a : Nat} {r : RW} (hS : RS u a r) (hB : IB r) {s : Nat} (hs : s < 7) (v : Int) (h0 : s = 0 → r 2 = 0) : RS (sI u (a + 1) s v) a (up r (10 + (s : Int)) v) := by
  have hf : Fr u (sI u (a + 1) s v) (fun q => q = a + 1) (fun _ => False) := Fr.sI (Fr.refl _ _ _) _ _ rfl
  have e : ∀ j, j ≠ 10 + (s : Int) → up r (10 + (s : Int)) v j = r j := fun j hj => up_n _ _ hj
  refine ⟨hf.stO hS.o, ⟨by rw [hf.mI (by omega), e 0 (by omega)]; exact hS.tick, by rw [hf.mI (by omega), e 1 (by omega)]; exact hS.writ⟩, fun i hi => ?_, fun p hp => ?_, ?_, fun d hd => ?_, ?_⟩
  · by_cases z : i = s
    · subst z; rw [mI_sI_s, up_s]
    · rw [mI_sI_k _ _ _ _ (by omega), e _ (by omega)]; exact hS.set hi
  · exact (hS.t hp).keep (fun q h1 h2 => hf.mI (by omega)) (fun j h1 h2 => e j (by omega)) (hB.pl p hp).2.1.2
  · by_cases z : s = 0
    · have z2 := h0 z
      have b3 := hB.co.2.1
      obtain ⟨g1, g2, g3, g4, o, g5, g6⟩ := hS.r
      have hk : m_kept r = 0 := by unfold m_kept; omega
      have hk' : m_kept (up r (10 + (s : Int)) v) = 0 := by unfold m_kept; rw [e 2 (by omega), e 3 (by omega)]; omega
      refine ⟨by rw [hf.mI (by omega), e 2 (by omega)]; exact g1, by rw [hf.mI (by omega), hk', ← hk]; exact g2, by rw [hf.mI (by omega), e 3 (by omega)]; exact g3, fun k hk => by rw [e 2 (by omega)] at hk; omega, o, ?_, fun j hj => by rw [hk'] at hj; exact absurd hj (by simp)⟩
      rw [hk']
      exact ⟨fun j hj => absurd hj (by simp), fun i j _ hj => absurd hj (by simp), fun k hk => by rw [e 2 (by omega)] at hk; omega⟩
    · exact hS.r.keep (fun q h1 h2 => hf.mI (by omega)) (fun j hj => e j (by omega)) hB.co.1.2
  · exact (hS.c hd).keep (hf.mI (by omega)) (hf.mI (by omega)) (fun j h1 h2 => e j (by omega)) (by have := (hB.re d hd).2.2.1; omega)
  · exact hS.l.keep hS.o.l (fun q h1 h2 => hf.mI (by omega)) (hf.mP id) (fun j hj => e j (by omega)) hB.ni
theorem rs_want {u : Mem} {a : Nat} {r : RW} (hS : RS u a r) (hB : IB r) {c : Nat} (hc : c < 3) (t : Int) : RS (sI u (a + 28 + 2 * c) 2 t) a (up r (697 + 38 * (c : Int) + 0) t) := by
  have hf : Fr u (sI u (a + 28 + 2 * c) 2 t) (fun q => q = a + 28 + 2 * c) (fun _ => False) := Fr.sI (Fr.refl _ _ _) _ _ rfl
  have e : ∀ j, j ≠ 697 + 38 * (c : Int) → up r (697 + 38 * (c : Int) + 0) t j = r j := fun j hj => up_n _ _ (by omega)
  refine ⟨hf.stO hS.o, ⟨by rw [hf.mI (by omega), e 0 (by omega)]; exact hS.tick, by rw [hf.mI (by omega), e 1 (by omega)]; exact hS.writ⟩, fun i hi => by rw [hf.mI (by omega), e _ (by omega)]; exact hS.set hi, fun p hp => ?_, ?_, fun d hd => ?_, ?_⟩
  · exact (hS.t hp).keep (fun q h1 h2 => hf.mI (by omega)) (fun j h1 h2 => e j (by omega)) (hB.pl p hp).2.1.2
  · exact hS.r.keep (fun q h1 h2 => hf.mI (by omega)) (fun j hj => e j (by omega)) hB.co.1.2
  · by_cases z : d = c
    · subst z
      obtain ⟨c1, c2, c3, c4, c5, c6, c7, c8, c9, c10, c11, c12, c13, c14⟩ := hS.c hd
      have q : ∀ y : Int, 0 < y → m_of (up r (697 + 38 * (d : Int) + 0) t) d y = m_of r d y := fun y h1 => by unfold m_of; exact e _ (by omega)
      have k : ∀ j : Int, j ≠ 2 → mI (sI u (a + 28 + 2 * d) 2 t) (a + 28 + 2 * d) j = mI u (a + 28 + 2 * d) j := fun j hj => mI_sI_k _ _ _ _ hj
      unfold RSc
      rw [hf.mI (q := a + 28 + 2 * d + 1) (by omega), k 1 (by decide), k 3 (by decide), k 4 (by decide), k 5 (by decide), k 6 (by decide), k 7 (by decide), k 8 (by decide), k 9 (by decide), k 10 (by decide), k 11 (by decide), k 12 (by decide), k 13 (by decide), q 1 (by decide), q 2 (by decide), q 3 (by decide), q 4 (by decide), q 5 (by decide), q 6 (by decide), q 7 (by decide), q 8 (by decide), q 9 (by decide), q 10 (by decide), q 11 (by decide), q 12 (by decide)]
      exact ⟨c1, by rw [mI_sI_s]; unfold m_of; rw [up_s], c3, c4, c5, c6, c7, c8, c9, c10, c11, c12, c13, fun j hj => by rw [q _ (by omega)]; exact c14 j hj⟩
    · exact (hS.c hd).keep (hf.mI (by omega)) (hf.mI (by omega)) (fun j h1 h2 => e j (by omega)) (by have := (hB.re d hd).2.2.1; omega)
  · exact hS.l.keep hS.o.l (fun q h1 h2 => hf.mI (by omega)) (hf.mP id) (fun j hj => e j (by omega)) hB.ni
