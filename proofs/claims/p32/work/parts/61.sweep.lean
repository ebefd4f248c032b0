/-! the class's sweeping -/
def SwI (u : Mem) (a : Nat) (r : RW) (N : Nat) (o : Nat → Nat) (i left : Nat) (w : Mem) : Prop := Fr u w (fun q => q = a + 26 ∨ q = a + 28 ∨ q = a + 30 ∨ q = a + 32) (fun _ => False) ∧ (∃ o' : Nat → Nat, (∀ j : Nat, j < left → mI w (a + 26) j = o' j) ∧ (∀ j, j < left → ∃ x, x < i ∧ o' j = o x ∧ ¬ swS r (o x)) ∧ (∀ x y, x < y → y < left → m_num r (o' x) < m_num r (o' y)) ∧ ∀ x, x < i → ¬ swS r (o x) → ∃ j, j < left ∧ o' j = o x) ∧ (∀ j : Nat, i ≤ j → j < N → mI w (a + 26) j = o j) ∧ (left : Int) + sumN (fun x => if swS r (o x) then 1 else 0) i = i ∧ ∀ c : Nat, c < 3 → mI w (a + 28 + 2 * c) = up (mI u (a + 28 + 2 * c)) 9 (mI u (a + 28 + 2 * c) 9 + sumN (fun x => if swS r (o x) then c_los r (o x) c else 0) i)
theorem swI_v {u w : Mem} {a : Nat} {r : RW} {N i left : Nat} {o : Nat → Nat} (hV : RSv u a r) (h : SwI u a r N o i left w) : RSv w a r := hV.fr h.1 (fun q h1 h2 => by omega) (fun c hc => by
  rw [h.2.2.2.2 c hc, up_n _ _ (by decide), up_n _ _ (by decide)]; exact ⟨rfl, rfl⟩)
theorem up_up (f : RW) (k x y : Int) : up (up f k x) k y = up f k y := by
  funext j; unfold up; split <;> rfl
theorem up_wr (f : RW) (k x : Int) : up f k (wr x) = up f k x := by
  funext j; unfold up; rw [wr_wr]
/-- a row goes -/
theorem swI_go {u w w1 : Mem} {a : Nat} {r : RW} {N i left : Nat} {o : Nat → Nat} (h : SwI u a r N o i left w) (hq : swS r (o i)) (hl : LosT w a r (o i) 3 w1) : SwI u a r N o (i + 1) left w1 := by
  obtain ⟨h1, ⟨o', a1, a2, a3, a4⟩, h3, h4, h5⟩ := h
  have hf := hl.1
  have e26 : mI w1 (a + 26) = mI w (a + 26) := hf.mI (by omega)
  refine ⟨h1.trans (hf.weak (fun q hq => by omega) (fun _ z => z)), ⟨o', fun j hj => by rw [e26]; exact a1 j hj, fun j hj => ?_, a3, fun x hx hn => ?_⟩, fun j hj1 hj2 => by rw [e26]; exact h3 j (by omega) hj2, ?_, fun c hc => ?_⟩
  · obtain ⟨x, hx, y⟩ := a2 j hj; exact ⟨x, by omega, y⟩
  · by_cases e : x = i
    · subst e; exact absurd hq hn
    · exact a4 x (by omega) hn
  · simp only [sumN]; rw [if_pos hq]; omega
  · rw [hl.2 c hc, if_pos hc, h5 c hc, up_up, up_s]
    rw [show ∀ A B : Int, up (mI u (a + 28 + 2 * c)) 9 (wr A + B) = up (mI u (a + 28 + 2 * c)) 9 (A + B) from fun A B => by rw [← up_wr, wr_add_l, up_wr]]
    simp only [sumN]; rw [if_pos hq, Int.add_assoc]
/-- a row stays -/
theorem swI_stay {u w : Mem} {a : Nat} {r : RW} {N i left : Nat} {o : Nat → Nat} (hO : Ord r N o) (hi : i < N) (h200 : (o i : Int) < 2000) (h : SwI u a r N o i left w) (hq : ¬ swS r (o i)) (hli : left ≤ i) : SwI u a r N o (i + 1) (left + 1) (sI w (a + 26) left (o i)) := by
  obtain ⟨h1, ⟨o', a1, a2, a3, a4⟩, h3, h4, h5⟩ := h
  refine ⟨h1.sI _ _ (Or.inl rfl), ⟨fun j => if j = left then o i else o' j, fun j hj => ?_, fun j hj => ?_, fun x y hxy hy => ?_, fun x hx hn => ?_⟩, fun j hj1 hj2 => ?_, ?_, fun c hc => ?_⟩
  · rw [mI_sI]
    by_cases e : j = left
    · subst e; rw [if_pos ⟨rfl, rfl⟩]; dsimp only; rw [if_pos rfl, wr_id ⟨by omega, by omega⟩]
    · rw [if_neg (fun z => e (by omega))]; dsimp only; rw [if_neg e]; exact a1 j (by omega)
  · by_cases e : j = left
    · exact ⟨i, by omega, by dsimp only; rw [if_pos e], hq⟩
    · obtain ⟨x, hx, y⟩ := a2 j (by omega); exact ⟨x, by omega, by dsimp only; rw [if_neg e]; exact y⟩
  · dsimp only
    rw [if_neg (show ¬ x = left by omega)]
    by_cases e : y = left
    · rw [if_pos e]
      obtain ⟨z, hz, ez, -⟩ := a2 x (by omega)
      rw [ez]; exact hO.2.1 z i hz hi
    · rw [if_neg e]; exact a3 x y hxy (by omega)
  · by_cases e : x = i
    · subst e; exact ⟨left, by omega, by dsimp only; rw [if_pos rfl]⟩
    · obtain ⟨j, hj, ej⟩ := a4 x (by omega) hn; exact ⟨j, by omega, by dsimp only; rw [if_neg (by omega)]; exact ej⟩
  · rw [mI_sI_k _ _ _ _ (by omega)]; exact h3 j (by omega) hj2
  · simp only [sumN]; rw [if_neg hq]; omega
  · rw [up_mI_n _ _ _ (by omega), h5 c hc]
    simp only [sumN]; rw [if_neg hq, Int.add_zero]
theorem rs_sweep {u w : Mem} {a : Nat} {r : RW} (hS : RS u a r) (hB : IB r) {N left : Nat} {o : Nat → Nat} (hO : Ord r N o) (hN : m_kept r = N) (h : SwI u a r N o N left w) : m_sweepsC r = (N : Int) - left ∧ RS (sI (sI w (a + 19) 8 left) (a + 19) 9 (r 3 + ((N : Int) - left))) a (m_sweeps r) := by
  have rf := hB.rf
  have hRo := hB.ro
  have b2 := hB.co.1
  have b3 := hB.co.2.1
  have bk := hB.co.2.2.1
  obtain ⟨K, hK⟩ : ∃ K : Nat, r 2 = K := ⟨(r 2).toNat, by omega⟩
  obtain ⟨s1, s2, s3, s4⟩ := sweepL_at rf hRo K (by omega) b2.2
  obtain ⟨h1, ⟨o', a1, a2, a3, a4⟩, h3, h4, h5⟩ := h
  have hbij : ∀ f : Nat → Int, sumN (fun x => if swS r (o x) then f (o x) else 0) N = sumN (fun k => if swS r k then f k else 0) K := fun f => by
    have := sumN_bij (fun k => if swS r k then f k else 0) K N o (fun k => decide (m_mark r k 0 = false)) (fun j hj => by have := hO.1 j hj; exact ⟨by omega, by simp [this.2]⟩) (fun i j hij hj e => by have := hO.inj (by omega) hj e; omega) (fun k hk q => hO.2.2 k (by omega) (by simpa using q))
    rw [this]
    refine sumN_congr K fun k hk => ?_
    by_cases q : m_mark r k 0 = false
    · rw [if_pos (by simp [q])]
    · rw [if_neg (by simpa using q), if_neg (fun z => q z.1)]
  have hns : m_sweepN r K = (N : Int) - left := by
    rw [s4, ← hbij (fun _ => 1)]; omega
  have hnr := m_sweepN_rg r K
  have hC : m_sweepsC r = (N : Int) - left := by unfold m_sweepsC; rw [hK, Int.toNat_natCast]; exact hns
  have hG : m_sweeps r = up (m_sweepL r K) 3 (r 3 + ((N : Int) - left)) := by
    unfold m_sweeps; rw [hK, Int.toNat_natCast, hns, s1 3 (by omega) (fun c hc => by omega)]
  have hlN : (left : Int) ≤ N := by omega
  have hkN : r 2 - r 3 = N := by rw [← hN]; rfl
  have hr3 : m_sweeps r 3 = r 3 + ((N : Int) - left) := by rw [hG, up_s, wr_id ⟨by omega, by omega⟩]
  have hlo : ∀ j, j ≠ 3 → (j < 97 ∨ 697 ≤ j) → (∀ c : Nat, c < 3 → j ≠ 697 + 38 * (c : Int) + 12) → m_sweeps r j = r j := fun j h3 h1 h2 => by rw [hG, up_n _ _ h3]; exact s1 j h1 h2
  have hr2 : m_sweeps r 2 = r 2 := hlo 2 (by omega) (by omega) (fun c hc => by omega)
  have hk' : m_kept (m_sweeps r) = left := by unfold m_kept; rw [hr2, hr3]; omega
  have hrow : ∀ k : Nat, (k : Int) < r 2 → m_sweeps r (97 + 3 * k) = r (97 + 3 * k) ∧ m_sweeps r (97 + 3 * k + 1) = r (97 + 3 * k + 1) ∧ m_sweeps r (97 + 3 * k + 2) = if swS r k then b_or (r (97 + 3 * k + 2)) (b_shl 1 0) else r (97 + 3 * k + 2) := fun k hk => by
    rw [hG, up_n _ _ (by omega), up_n _ _ (by omega), up_n _ _ (by omega)]
    obtain ⟨k1, k2, k3⟩ := s2 k hk
    refine ⟨k1, k2, ?_⟩
    rw [k3]
    by_cases z : swS r k
    · rw [if_pos ⟨by omega, z⟩, if_pos z]
    · rw [if_neg (fun y => z y.2), if_neg z]
  have hnum : ∀ k : Nat, (k : Int) < r 2 → m_num (m_sweeps r) k = m_num r k := fun k hk => num_keep (hlo 10 (by omega) (by omega) (fun c hc => by omega)) (hrow k hk).2.1
  have hmk : ∀ k : Nat, (k : Int) < r 2 → (m_mark (m_sweeps r) k 0 = false ↔ m_mark r k 0 = false ∧ ¬ swS r k) := fun k hk => by
    unfold m_mark
    rw [(hrow k hk).2.2]
    by_cases z : swS r k
    · rw [if_pos z]
      have := (or1_of (hRo k hk).2.2).1 0 (by decide)
      rw [if_pos rfl] at this
      rw [show ((0 : Nat) : Int) = 0 from rfl] at this
      rw [this]
      simp [z]
    · rw [if_neg z]
      constructor
      · intro e; exact ⟨e, z⟩
      · intro e; exact e.1
  have hf : Fr u (sI (sI w (a + 19) 8 left) (a + 19) 9 (r 3 + ((N : Int) - left))) (fun q => q = a + 19 ∨ q = a + 26 ∨ q = a + 28 ∨ q = a + 30 ∨ q = a + 32) (fun _ => False) := Fr.sI (Fr.sI (h1.weak (fun q hq => by omega) (fun _ z => z)) _ _ (Or.inl rfl)) _ _ (Or.inl rfl)
  have hw19 : ∀ q, q ≠ a + 19 → mI (sI (sI w (a + 19) 8 left) (a + 19) 9 (r 3 + ((N : Int) - left))) q = mI w q := fun q hq => by rw [up_mI_n _ _ _ hq, up_mI_n _ _ _ hq]
  refine ⟨hC, hf.stO hS.o, ⟨?_, ?_⟩, fun i hi => ?_, fun p hp => ?_, ⟨?_, ?_, ?_, fun k hk => ?_, o', ?_, fun j hj => ?_⟩, fun c hc => ?_, ?_⟩
  · rw [hf.mI (by omega), hlo 0 (by omega) (by omega) (fun c hc => by omega)]; exact hS.tick
  · rw [hf.mI (by omega), hlo 1 (by omega) (by omega) (fun c hc => by omega)]; exact hS.writ
  · rw [hf.mI (by omega), hlo _ (by omega) (by omega) (fun c hc => by omega)]; exact hS.set hi
  · exact (hS.t hp).keep (fun q q1 q2 => hf.mI (by omega)) (fun j j1 j2 => hlo j (by omega) (by omega) (fun c hc => by omega)) (hB.pl p hp).2.1.2
  · rw [mI_sI_k _ _ _ _ (by decide), mI_sI_k _ _ _ _ (by decide), h1.mI (by omega), hr2]; exact hS.r.1
  · rw [mI_sI_k _ _ _ _ (by decide), mI_sI_s, wr_id ⟨by omega, by omega⟩, hk']
  · rw [mI_sI_s, hr3, wr_id ⟨by omega, by omega⟩]
  · rw [hr2] at hk
    obtain ⟨b1, b4, b5, b6, b7, b8⟩ := hS.r.2.2.2.1 k hk
    obtain ⟨k1, k2, k3⟩ := hrow k hk
    have e : ∀ t, 1 ≤ t → t < 7 → mI (sI (sI w (a + 19) 8 left) (a + 19) 9 (r 3 + ((N : Int) - left))) (a + 19 + t) = mI u (a + 19 + t) := fun t t1 t2 => hf.mI (by omega)
    rw [e 1 (by omega) (by omega), e 2 (by omega) (by omega), e 3 (by omega) (by omega), e 4 (by omega) (by omega), e 5 (by omega) (by omega), e 6 (by omega) (by omega), hnum k hk, k3]
    unfold m_write m_topic m_value
    rw [k1, k2]
    have ho := or1_of (hRo k hk).2.2
    refine ⟨b1, b4, b5, b6, ?_, ?_⟩
    · rw [b7]; split
      · exact ho.2.1.symm
      · rfl
    · rw [b8]; split
      · exact ho.2.2.1.symm
      · rfl
  · rw [hk', Int.toNat_natCast]
    refine ⟨fun j hj => ?_, fun x y hxy hy => ?_, fun k hk hk0 => ?_⟩
    · obtain ⟨x, hx, ex, nx⟩ := a2 j hj
      have hox := hO.1 x hx
      rw [ex, hr2]
      exact ⟨hox.1, (hmk _ hox.1).mpr ⟨hox.2, nx⟩⟩
    · obtain ⟨x1, hx1, ex, -⟩ := a2 x (by omega)
      obtain ⟨y1, hy1, ey, -⟩ := a2 y hy
      have := a3 x y hxy hy
      rw [ex, ey] at this ⊢
      rw [hnum _ (hO.1 x1 hx1).1, hnum _ (hO.1 y1 hy1).1]; exact this
    · rw [hr2] at hk
      have := (hmk k hk).mp hk0
      obtain ⟨x, hx, ex⟩ := hO.2.2 k hk this.1
      obtain ⟨j, hj, ej⟩ := a4 x hx (by rw [ex]; exact this.2)
      exact ⟨j, hj, by rw [ej, ex]⟩
  · rw [hk', Int.toNat_natCast] at hj
    rw [hw19 _ (by omega)]; exact a1 j hj
  · have hcc := hS.c hc
    have hof : ∀ x : Int, x ≠ 12 → 0 ≤ x → x < 38 → m_of (m_sweeps r) c x = m_of r c x := fun x hx x0 x1 => by unfold m_of; exact hlo _ (by omega) (by omega) (fun d hd => by omega)
    have h12 : m_of (m_sweeps r) c 12 = wr (m_of r c 12 + sumN (fun k => if swS r k then c_los r k c else 0) K) := by
      have := s3 c hc
      unfold m_of at this ⊢
      rw [hG, up_n _ _ (by omega)]; exact this
    obtain ⟨c1, c2, c3, c4, c5, c6, c7, c8, c9, c10, c11, c12, c13, c14⟩ := hcc
    unfold RSc
    rw [hw19 _ (by omega), h5 c hc, hw19 (a + 28 + 2 * c + 1) (by omega), h1.mI (show ¬ (a + 28 + 2 * c + 1 = a + 26 ∨ a + 28 + 2 * c + 1 = a + 28 ∨ a + 28 + 2 * c + 1 = a + 30 ∨ a + 28 + 2 * c + 1 = a + 32) by omega)]
    rw [up_s, h12, c9, hbij (fun k => c_los r k c)]
    rw [up_n _ _ (by decide), up_n _ _ (by decide), up_n _ _ (by decide), up_n _ _ (by decide), up_n _ _ (by decide), up_n _ _ (by decide), up_n _ _ (by decide), up_n _ _ (by decide), up_n _ _ (by decide), up_n _ _ (by decide), up_n _ _ (by decide), up_n _ _ (by decide)]
    rw [hof 2 (by decide) (by decide) (by decide), hof 0 (by decide) (by decide) (by decide), hof 1 (by decide) (by decide) (by decide), hof 3 (by decide) (by decide) (by decide), hof 4 (by decide) (by decide) (by decide), hof 5 (by decide) (by decide) (by decide), hof 6 (by decide) (by decide) (by decide), hof 7 (by decide) (by decide) (by decide), hof 8 (by decide) (by decide) (by decide), hof 9 (by decide) (by decide) (by decide), hof 11 (by decide) (by decide) (by decide), hof 10 (by decide) (by decide) (by decide)]
    have h20 := (hB.re c hc).2.2.1
    exact ⟨c1, c2, c3, c4, c5, c6, c7, c8, rfl, c10, c11, c12, c13, fun j hj => by rw [hof _ (by omega) (by omega) (by omega)]; exact c14 j hj⟩
  · exact hS.l.keep hS.o.l (fun q q1 q2 => hf.mI (by omega)) (hf.mP id) (fun j hj => hlo j (by omega) (by omega) (fun c hc => by omega)) hB.ni
abbrev rmX5_sweepRows : Room := { frames := 3, cells := 0, slots := 0, locals := 66 }
set_option maxRecDepth 100000 in
theorem k_St_sweep {l : Launch} {D : DD} (hfl : l.stackTraces = false) {u : Mem} {a : Nat} {r : RW} (hS : RS u a r) (hB : IB r)  : CT l D yX5_sweepRows cX5_sweepRows 5 (some .int) rmX5_sweepRows [xA a] u (fun o w => o = some (xI (m_sweepsC r)) ∧ RS w a (m_sweeps r) ∧ Blk u w a) := by
  have b2 := hB.co.1
  have b3 := hB.co.2.1
  have bk := hB.co.2.2.1
  have rf := hB.rf
  obtain ⟨o, hO, ho⟩ := hS.r.2.2.2.2
  obtain ⟨N, hNk⟩ : ∃ N : Nat, m_kept r = N := ⟨(m_kept r).toNat, by unfold m_kept at *; omega⟩
  rw [show (m_kept r).toNat = N by omega] at hO ho
  have h8 : mI u (a + 19) 8 = N := by rw [← hNk]; exact hS.r.2.1
  have bkN : N ≤ 60 := by omega
  refine CT.of hfl (by decide) (le_b rfl) ?_
  intro C hC hR hL hDD hN
  have hfC : (cxL C).stackTraces = false := by rw [hL]; exact hfl
  have lp : ∀ (n : Nat) (i left : Nat) (w : Mem) (w4 : Option SV), (N - i = n) → (i ≤ N) → (SwI u a r N o i left w) → VW C 12 [some (xA a), some (xI left), some (xI N), some (xI i), w4] [] w 0 0 := by
    intro n
    induction n using Nat.strongRecOn with
    | _ n ih =>
      intro i left w w4 hn hi hw
      have hVw := swI_v hS.v hw
      have hoi : i < N → (o i : Int) < r 2 := fun z => (hO.1 i z).1
      have hle : left ≤ i := by
        have := sumN_rg (f := fun x => if swS r (o x) then 1 else 0) (lo := 0) (hi := 1) i (fun k hk => by split <;> decide)
        have := hw.2.2.2.1
        omega
      refine r_iload_n hC dX5_sweepRows_12 rfl ?_
      refine r_iload_n hC dX5_sweepRows_13 rfl ?_
      refine r_icmp_ge (t := 68) hC dX5_sweepRows_14 (by rfl) (by first | with_reducible exact rg_mI _ _ _ | assumption | with_reducible exact rf_at rf _ | with_reducible exact rg_of rf _ _ | with_reducible exact rg_its rf _ _ | with_reducible exact rg_way rf _ _ | with_reducible exact rg_and _ _ | with_reducible exact rg_or _ _ | exact ⟨by omega, by omega⟩) (by first | with_reducible exact rg_mI _ _ _ | assumption | with_reducible exact rf_at rf _ | with_reducible exact rg_of rf _ _ | with_reducible exact rg_its rf _ _ | with_reducible exact rg_way rf _ _ | with_reducible exact rg_and _ _ | with_reducible exact rg_or _ _ | exact ⟨by omega, by omega⟩) (fun h_14 => ?_) (fun h_14 => ?_)
      · skip
        refine r_aload_n hC dX5_sweepRows_68 rfl ?_
        refine r_getR (j := 2) hC dX5_sweepRows_69 fl_X5_33 rfl rfl hVw.1.o hVw.1.p2 ?_
        refine r_iload_n hC dX5_sweepRows_72 rfl ?_
        refine r_putI (j := 8) hC dX5_sweepRows_73 fl_X5_92 rfl hVw.1.r.o (by rintro _ ⟨⟩; rfl) (Or.inl rfl) ?_
        refine r_aload_n hC dX5_sweepRows_76 rfl ?_
        refine r_getR (j := 2) hC dX5_sweepRows_77 fl_X5_33 rfl rfl hVw.1.o hVw.1.p2 ?_
        refine r_dup hC dX5_sweepRows_80 rfl ?_
        refine r_getIv (j := 9) (v := r 3) hC dX5_sweepRows_81 fl_X5_237 rfl rfl hVw.1.r.o (by rw [mI_sI_k _ _ _ _ (by decide), hw.1.mI (by omega)]; exact hS.r.2.2.1) ?_
        refine r_iload_n hC dX5_sweepRows_84 rfl ?_
        refine r_iload_n hC dX5_sweepRows_85 rfl ?_
        refine r_isub hC dX5_sweepRows_86 ?_
        refine r_iadd hC dX5_sweepRows_87 ?_
        refine r_putI (j := 9) hC dX5_sweepRows_88 fl_X5_237 rfl hVw.1.r.o (by rintro _ ⟨⟩; rfl) (Or.inl rfl) ?_
        refine r_iload_n hC dX5_sweepRows_91 rfl ?_
        refine r_iload_n hC dX5_sweepRows_92 rfl ?_
        refine r_isub hC dX5_sweepRows_93 ?_
        refine r_iret hC hR dX5_sweepRows_94 (le_b rfl) (le_b rfl) ?_
        have hNi : i = N := by omega
        subst hNi
        obtain ⟨q1, q2⟩ := rs_sweep hS hB hO hNk hw
        have e9 : mI w (a + 19) 9 = r 3 := by rw [hw.1.mI (by omega)]; exact hS.r.2.2.1
        refine ⟨by rw [q1], ?_, ?_⟩
        · exact q2
        · exact Fr.blk (S := fun q => a ≤ q ∧ q < a + 146) (Fr.sI (Fr.sI (hw.1.weak (fun q hq => by omega) (fun _ z => z)) _ _ (by omega)) _ _ (by omega)) (fun _ z => z)
      · skip
        refine r_aload_n hC dX5_sweepRows_17 rfl ?_
        refine r_getR (j := 2) hC dX5_sweepRows_18 fl_X5_33 rfl rfl hVw.1.o hVw.1.p2 ?_
        refine r_getR (j := 6) hC dX5_sweepRows_21 fl_X5_206 rfl rfl hVw.1.r.o hVw.1.r.p6 ?_
        refine r_iload_n hC dX5_sweepRows_24 rfl ?_
        refine r_ialdv (v := o i) hC dX5_sweepRows_25 hVw.1.r.a6 ⟨by omega, by omega⟩ (hw.2.2.1 i (Nat.le_refl _) (by omega)) ?_
        refine r_istore (lv' := [_, _, _, _, _]) hC dX5_sweepRows_26 (lt_b rfl) rfl (lt_b rfl) rfl ?_
        refine r_aload_n hC dX5_sweepRows_28 rfl ?_
        refine r_iload hC dX5_sweepRows_29 rfl ?_
        refine r_V0 hC dX5_sweepRows_31 mi_X5_answeredBy se_X5_answeredBy ml_X5_231 (rm := rmX5_answeredBy) rfl hVw.1.o rfl rfl rfl rfl ⟨le_b rfl, le_b rfl⟩ (k_Sv_ansBy hfC hVw hB (hoi (by omega))) ?_ rfl
        refine r_bipush hC dX5_sweepRows_34 (by rfl) ?_
        refine r_icmp_ne (t := 48) hC dX5_sweepRows_36 (by rfl) (rg_ansBy _ _) ⟨by omega, by omega⟩ (fun h_36 => ?_) (fun h_36 => ?_)
        · skip
          refine r_aload_n hC dX5_sweepRows_48 rfl ?_
          refine r_getR (j := 2) hC dX5_sweepRows_49 fl_X5_33 rfl rfl hVw.1.o hVw.1.p2 ?_
          refine r_getR (j := 6) hC dX5_sweepRows_52 fl_X5_206 rfl rfl hVw.1.r.o hVw.1.r.p6 ?_
          refine r_iload_n hC dX5_sweepRows_55 rfl ?_
          refine r_iload hC dX5_sweepRows_56 rfl ?_
          refine r_iast hC dX5_sweepRows_58 hVw.1.r.a6 ⟨by omega, by omega⟩ ?_
          refine r_iinc (lv' := [_, _, _, _, _]) hC dX5_sweepRows_59 rfl (lt_b rfl) rfl (lt_b rfl) rfl ?_
          refine r_iinc (lv' := [_, _, _, _, _]) hC dX5_sweepRows_62 rfl (lt_b rfl) rfl (lt_b rfl) rfl ?_
          refine r_goto (t := 12) hC dX5_sweepRows_65 (by rfl) ?_
          refine ih _ (by omega) (i + 1) (left + 1) _ _ rfl (by omega) ?_
          exact swI_stay hO (by omega) (by have := hoi (by omega); omega) hw (fun z => h_36 z.2) hle
        · skip
          refine r_aload_n hC dX5_sweepRows_39 rfl ?_
          refine r_iload hC dX5_sweepRows_40 rfl ?_
          refine r_V0p hC dX5_sweepRows_42 mi_X5_loseUnseen se_X5_loseUnseen ml_X5_234 (rm := rmX5_loseUnseen) rfl hVw.1.o rfl rfl rfl rfl ⟨le_b rfl, le_b rfl⟩ (k_Sv_lose hfC hVw hB (hoi (by omega))) ?_ rfl
          rintro _ w1 ⟨rfl, hl⟩
          refine r_goto (t := 62) hC dX5_sweepRows_45 (by rfl) ?_
          refine r_iinc (lv' := [_, _, _, _, _]) hC dX5_sweepRows_62 rfl (lt_b rfl) rfl (lt_b rfl) rfl ?_
          refine r_goto (t := 12) hC dX5_sweepRows_65 (by rfl) ?_
          refine ih _ (by omega) (i + 1) left w1 _ rfl (by omega) ?_
          exact swI_go hw ⟨(hO.1 i (by omega)).2, h_36⟩ hl
  show VW C 0 [some (xA a), none, none, none, none] [] u 0 0
  refine r_iconst hC dX5_sweepRows_0 ?_
  refine r_istore_n (lv' := [_, _, _, _, _]) hC dX5_sweepRows_1 (lt_b rfl) rfl (lt_b rfl) rfl ?_
  refine r_aload_n hC dX5_sweepRows_2 rfl ?_
  refine r_getR (j := 2) hC dX5_sweepRows_3 fl_X5_33 rfl rfl hS.o.o hS.o.p2 ?_
  refine r_getIv (j := 8) (v := N) hC dX5_sweepRows_6 fl_X5_92 rfl rfl hS.o.r.o h8 ?_
  refine r_istore_n (lv' := [_, _, _, _, _]) hC dX5_sweepRows_9 (lt_b rfl) rfl (lt_b rfl) rfl ?_
  refine r_iconst hC dX5_sweepRows_10 ?_
  refine r_istore_n (lv' := [_, _, _, _, _]) hC dX5_sweepRows_11 (lt_b rfl) rfl (lt_b rfl) rfl ?_
  refine lp _ 0 0 u _ rfl (by omega) ⟨Fr.refl _ _ _, ⟨o, fun j hj => by omega, fun j hj => by omega, fun x y h1 h2 => by omega, fun x hx => by omega⟩, fun j h1 h2 => ho j h2, rfl, fun c hc => ?_⟩
  simp only [sumN]; exact (up_self (rf_mI _ _) 9).symm
