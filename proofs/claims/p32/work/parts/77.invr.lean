/-! ===== what holds holds on: rows and mail ===== -/
theorem inv_commits {r : RW} {T : Int} (h : Inv r T) (p : Int) : Inv (m_commits r p) T := by
  unfold m_commits
  split
  · exact h
  · rename_i hz
    split
    · exact h
    · rename_i hy
      obtain ⟨q, hq, rfl, hop⟩ := open_nat (r := r) (p := p) (by cases w : m_open r p; exact absurd w hz; rfl)
      obtain ⟨n, hn⟩ : ∃ n : Nat, m_its r q 1 = n := ⟨(m_its r q 1).toNat, by have := (h.pl q hq).2.1.1; omega⟩
      have h6 := (h.pl q hq).2.1.2
      have b2 := h.co.1
      obtain ⟨K, hK⟩ : ∃ K : Nat, r 2 = K := ⟨(r 2).toNat, by omega⟩
      rw [hn, Int.toNat_natCast]
      obtain ⟨c2, co, cn⟩ := commitL_at h.rf hq hK n (by omega) (by omega)
      have hB := ib_commitL h.b hq hK (h.pl q hq).2.2 (n := n) (by omega) (by omega) (by omega)
      have rG := rf_up hB.rf (17 + 20 * (q : Int) + 0) 0
      have e0 : m_its (up (m_commitL r q n) (17 + 20 * (q : Int) + 0) 0) q 0 = 0 := by unfold m_its; rw [up_s]; rfl
      have eg : ∀ j, j ≠ 17 + 20 * (q : Int) → (up (m_commitL r q n) (17 + 20 * (q : Int) + 0) 0) j = m_commitL r q n j := fun j h1 => up_n _ _ (by omega)
      generalize up (m_commitL r q n) (17 + 20 * (q : Int) + 0) 0 = G at rG e0 eg ⊢
      generalize m_commitL r q n = g at c2 co cn hB eg
      have e : ∀ j, j ≠ 2 → j ≠ 17 + 20 * (q : Int) → (j < 97 + 3 * (K : Int) ∨ 97 + 3 * ((K : Int) + n) ≤ j) → G j = r j := fun j h1 h2 h3 => by rw [eg j h2]; exact co j h1 h3
      have G2 : G 2 = K + n := by rw [eg 2 (by omega)]; exact c2
      have eo : ∀ (c : Nat) (x : Int), 0 ≤ x → m_of G c x = m_of r c x := fun c x hx0 => by unfold m_of; exact e _ (by omega) (by omega) (by omega)
      have ei : ∀ (p : Nat) (x : Int), p < 4 → (p ≠ q ∨ x ≠ 0) → 0 ≤ x → x < 20 → m_its G p x = m_its r p x := fun p x h4 hp h0 h1 => by unfold m_its; exact e _ (by omega) (by omega) (by omega)
      have wold : ∀ k : Nat, k < K → m_write G k = m_write r k := fun k hk => by unfold m_write; exact e _ (by omega) (by omega) (by omega)
      have wnew : ∀ i : Nat, i < n → m_write G (((K + i : Nat) : Int)) = m_its r q (4 + 3 * i) := fun i hi => by
        unfold m_write
        rw [eg _ (by omega), show 97 + 3 * ((K + i : Nat) : Int) + 1 = 97 + 3 * ((K : Int) + i) + 1 by omega]; exact (cn i hi).2.1
      obtain ⟨⟨i0, i1⟩, i2, i3, i4, i5⟩ := h.ti
      refine ⟨rG, ⟨by rw [e 0 (by omega) (by omega) (by omega)]; exact ⟨i0, i1⟩, by rw [e 1 (by omega) (by omega) (by omega)]; exact i2, by rw [e 0 (by omega) (by omega) (by omega), e 4 (by omega) (by omega) (by omega)]; exact i3, by rw [e 0 (by omega) (by omega) (by omega), e 6 (by omega) (by omega) (by omega)]; exact i4, fun c hc => by rw [e 0 (by omega) (by omega) (by omega), eo c 3 (by decide)]; exact i5 c hc⟩, ?_, ?_, fun p hp => ?_, fun j hj => ?_, ⟨fun k j hkj hj => ?_, fun p hp hop1 i hi => ⟨fun k hk => ?_, fun p' hp' hop' j hj hne => ?_⟩⟩, fun c hc => ?_, ?_⟩
      · have := hB.co
        unfold ICo m_kept at *
        rw [eg 2 (by omega), eg 3 (by omega), eg 9 (by omega), eg 5 (by omega), eg 4 (by omega), eg 6 (by omega), eg 8 (by omega)]
        exact this
      · have := h.se
        unfold ISe at *
        rw [e 10 (by omega) (by omega) (by omega), e 11 (by omega) (by omega) (by omega), e 12 (by omega) (by omega) (by omega), e 13 (by omega) (by omega) (by omega), e 14 (by omega) (by omega) (by omega), e 15 (by omega) (by omega) (by omega), e 16 (by omega) (by omega) (by omega)]
        exact this
      · obtain ⟨a1, a2, a3⟩ := h.pl p hp
        rw [ei p 1 hp (by omega) (by decide) (by decide), e 1 (by omega) (by omega) (by omega)]
        refine ⟨?_, a2, fun i hi => by rw [ei p _ hp (by omega) (by omega) (by omega), ei p _ hp (by omega) (by omega) (by omega), ei p _ hp (by omega) (by omega) (by omega)]; exact a3 i hi⟩
        by_cases z : p = q
        · subst z; rw [e0]; exact Or.inl rfl
        · rw [ei p 0 hp (Or.inl z) (by decide) (by decide)]; exact a1
      · have := hB.ro j (by rw [← eg 2 (by omega)]; exact hj)
        unfold m_write at *
        rw [eg (97 + 3 * (j : Int)) (by omega), eg (97 + 3 * (j : Int) + 1) (by omega), eg (97 + 3 * (j : Int) + 2) (by omega), eg 1 (by omega)]
        exact this
      · rw [G2] at hj
        by_cases y : j < K
        · rw [wold k (by omega), wold j y]; exact h.di.1 k j hkj (by omega)
        · have ej := wnew (j - K) (by omega)
          rw [show K + (j - K) = j by omega] at ej
          rw [ej]
          by_cases x : k < K
          · rw [wold k x]; exact (h.di.2 q hq hop (j - K) (by omega)).1 k (by omega)
          · have ek := wnew (k - K) (by omega)
            rw [show K + (k - K) = k by omega] at ek
            rw [ek]; exact (h.di.2 q hq hop (k - K) (by omega)).2 q hq hop (j - K) (by omega) (by omega)
      · have z : p ≠ q := fun y => by subst y; rw [e0] at hop1; omega
        rw [ei p 0 hp (Or.inl z) (by decide) (by decide)] at hop1
        rw [ei p 1 hp (Or.inl z) (by decide) (by decide)] at hi
        have h6 := (h.pl p hp).2.1.2
        rw [ei p _ hp (Or.inl z) (by omega) (by omega)]
        rw [G2] at hk
        by_cases x : k < K
        · rw [wold k x]; exact (h.di.2 p hp hop1 i hi).1 k (by omega)
        · have ek := wnew (k - K) (by omega)
          rw [show K + (k - K) = k by omega] at ek
          rw [ek]; exact (h.di.2 q hq hop (k - K) (by omega)).2 p hp hop1 i hi (Or.inl (fun y => z y.symm))
      · have z : p ≠ q := fun y => by subst y; rw [e0] at hop1; omega
        have z' : p' ≠ q := fun y => by subst y; rw [e0] at hop'; omega
        rw [ei p 0 hp (Or.inl z) (by decide) (by decide)] at hop1
        rw [ei p 1 hp (Or.inl z) (by decide) (by decide)] at hi
        rw [ei p' 0 hp' (Or.inl z') (by decide) (by decide)] at hop'
        rw [ei p' 1 hp' (Or.inl z') (by decide) (by decide)] at hj
        have h6 := (h.pl p hp).2.1.2
        have h6' := (h.pl p' hp').2.1.2
        rw [ei p _ hp (Or.inl z) (by omega) (by omega), ei p' _ hp' (Or.inl z') (by omega) (by omega)]
        exact (h.di.2 p hp hop1 i hi).2 p' hp' hop' j hj hne
      · have := h.re c hc
        rw [eo c 0 (by decide), eo c 1 (by decide), eo c 2 (by decide), eo c 8 (by decide), eo c 9 (by decide), eo c 11 (by decide), eo c 10 (by decide), e 0 (by omega) (by omega) (by omega)]
        exact this
      · obtain ⟨og, ho⟩ := h.me
        have hw : ∀ j, 811 ≤ j → G j = r j := fun j hj => e j (by omega) (by omega) (by omega)
        have ew : ∀ (m : Nat) (x : Int), 0 ≤ x → m_way G m x = m_way r m x := fun m x h0 => way_keep hw (by omega) h0
        refine ⟨og, fun m hm => ?_⟩
        rw [e 9 (by omega) (by omega) (by omega)] at hm
        obtain ⟨⟨a1, a2, a3, a4, a5, a6, a7, a8, a9, a10⟩, b, c⟩ := ho m hm
        refine ⟨?_, fun z => by rw [e 0 (by omega) (by omega) (by omega)] at z; rw [ew m 1 (by decide)]; exact b z, fun m' hm' hne => by rw [e 9 (by omega) (by omega) (by omega)] at hm'; rw [ew m 1 (by decide), ew m' 1 (by decide)]; exact c m' hm' hne⟩
        unfold IMe1
        rw [e 0 (by omega) (by omega) (by omega), G2, ew m 0 (by decide), ew m 1 (by decide), ew m 2 (by decide), ew m 3 (by decide), ew m 4 (by decide)]
        refine ⟨a1, a2, a3, a4, a5, fun k hk => ?_, a7, a8, a9, a10⟩
        rw [rowOf_keep hw (by omega) (by omega)]
        have := a6 k hk
        omega
theorem inv_sweeps {r : RW} {T : Int} (h : Inv r T) {N : Nat} {o : Nat → Nat} (hO : Ord r N o) (hN : m_kept r = N) : Inv (m_sweeps r) T := by
  have b2 := h.co.1
  have b3 := h.co.2.1
  have bk := h.co.2.2.1
  obtain ⟨K, hK⟩ : ∃ K : Nat, r 2 = K := ⟨(r 2).toNat, by omega⟩
  obtain ⟨s1, s2, s3, s4⟩ := sweepL_at h.rf h.ro K (by omega) b2.2
  have hbij : sumN (fun x => if swS r (o x) then (1 : Int) else 0) N = sumN (fun k => if swS r k then 1 else 0) K := by
    have := sumN_bij (fun k => if swS r k then 1 else 0) K N o (fun k => decide (m_mark r k 0 = false)) (fun j hj => by have := hO.1 j hj; exact ⟨by omega, by simp [this.2]⟩) (fun i j hij hj e => by have := hO.inj (by omega) hj e; omega) (fun k hk q => hO.2.2 k (by omega) (by simpa using q))
    rw [this]
    refine sumN_congr K fun k hk => ?_
    by_cases q : m_mark r k 0 = false
    · rw [if_pos (by simp [q])]
    · rw [if_neg (by simpa using q), if_neg (fun z => q z.1)]
  have hcr := sumN_rg (f := fun x => if swS r (o x) then (1 : Int) else 0) (lo := 0) (hi := 1) N (fun k _ => by split <;> decide)
  rw [hbij, ← s4] at hcr
  have hkN : r 2 - r 3 = N := by rw [← hN]; rfl
  have rG := rf_sweeps h.rf
  have hL3 := s1 3 (by omega) (fun c hc => by omega)
  have hGe : m_sweeps r = up (m_sweepL r K) 3 (r 3 + m_sweepN r K) := by unfold m_sweeps; rw [hK, Int.toNat_natCast, hL3]
  have G3 : m_sweeps r 3 = r 3 + m_sweepN r K := by rw [hGe, up_s, wr_id ⟨by omega, by omega⟩]
  have e : ∀ j, j ≠ 3 → (j < 97 ∨ 697 ≤ j) → (∀ c : Nat, c < 3 → j ≠ 697 + 38 * (c : Int) + 12) → m_sweeps r j = r j := fun j h3 h1 h2 => by rw [hGe, up_n _ _ h3]; exact s1 j h1 h2
  have er : ∀ k : Nat, k < K → m_sweeps r (97 + 3 * k) = r (97 + 3 * k) ∧ m_sweeps r (97 + 3 * k + 1) = r (97 + 3 * k + 1) ∧ m_sweeps r (97 + 3 * k + 2) = if k < K ∧ swS r k then b_or (r (97 + 3 * k + 2)) (b_shl 1 0) else r (97 + 3 * k + 2) := fun k hk => by
    rw [hGe, up_n _ _ (by omega), up_n _ _ (by omega), up_n _ _ (by omega)]; exact s2 k (by omega)
  generalize m_sweeps r = G at rG G3 e er ⊢
  have el : ∀ j, j ≠ 3 → j < 97 → G j = r j := fun j h1 h2 => e j h1 (Or.inl h2) (fun c hc => by omega)
  have eo : ∀ (c : Nat) (x : Int), c < 3 → 0 ≤ x → x < 12 → m_of G c x = m_of r c x := fun c x hc h0 h1 => by unfold m_of; exact e _ (by omega) (by omega) (fun d hd => by omega)
  have ei : ∀ (p : Nat) (x : Int), p < 4 → 0 ≤ x → x < 20 → m_its G p x = m_its r p x := fun p x h4 h0 h1 => by unfold m_its; exact el _ (by omega) (by omega)
  have ew : ∀ k : Nat, k < K → m_write G k = m_write r k := fun k hk => (er k hk).2.1
  obtain ⟨⟨i0, i1⟩, i2, i3, i4, i5⟩ := h.ti
  refine ⟨rG, ⟨by rw [el 0 (by decide) (by decide)]; exact ⟨i0, i1⟩, by rw [el 1 (by decide) (by decide)]; exact i2, by rw [el 0 (by decide) (by decide), el 4 (by decide) (by decide)]; exact i3, by rw [el 0 (by decide) (by decide), el 6 (by decide) (by decide)]; exact i4, fun c hc => by rw [el 0 (by decide) (by decide), eo c 3 hc (by decide) (by decide)]; exact i5 c hc⟩, ?_, ?_, fun p hp => ?_, fun j hj => ?_, ⟨fun k j hkj hj => ?_, fun p hp hop1 i hi => ⟨fun k hk => ?_, fun p' hp' hop' j hj hne => ?_⟩⟩, fun c hc => ?_, ?_⟩
  · have := h.co
    unfold ICo m_kept at *
    rw [el 2 (by decide) (by decide), G3, el 9 (by decide) (by decide), el 5 (by decide) (by decide), el 4 (by decide) (by decide), el 6 (by decide) (by decide), el 8 (by decide) (by decide)]
    exact ⟨this.1, ⟨by omega, by omega⟩, by omega, this.2.2.2⟩
  · have := h.se
    unfold ISe at *
    rw [el 10 (by decide) (by decide), el 11 (by decide) (by decide), el 12 (by decide) (by decide), el 13 (by decide) (by decide), el 14 (by decide) (by decide), el 15 (by decide) (by decide), el 16 (by decide) (by decide)]
    exact this
  · obtain ⟨a1, a2, a3⟩ := h.pl p hp
    rw [ei p 0 hp (by decide) (by decide), ei p 1 hp (by decide) (by decide), el 1 (by decide) (by decide)]
    exact ⟨a1, a2, fun i hi => by rw [ei p _ hp (by omega) (by omega), ei p _ hp (by omega) (by omega), ei p _ hp (by omega) (by omega)]; exact a3 i hi⟩
  · rw [el 2 (by decide) (by decide)] at hj
    obtain ⟨a1, a2, a3⟩ := h.ro j hj
    obtain ⟨b1, b2', b3'⟩ := er j (by omega)
    rw [ew j (by omega), b1, b3', el 1 (by decide) (by decide)]
    refine ⟨a1, a2, ?_⟩
    split
    · exact (or1_of a3).2.2.2
    · exact a3
  · rw [el 2 (by decide) (by decide)] at hj
    rw [ew k (by omega), ew j (by omega)]; exact h.di.1 k j hkj hj
  · rw [el 2 (by decide) (by decide)] at hk
    rw [ei p 0 hp (by decide) (by decide)] at hop1
    rw [ei p 1 hp (by decide) (by decide)] at hi
    have h6 := (h.pl p hp).2.1.2
    rw [ew k (by omega), ei p _ hp (by omega) (by omega)]
    exact (h.di.2 p hp hop1 i hi).1 k hk
  · rw [ei p 0 hp (by decide) (by decide)] at hop1
    rw [ei p 1 hp (by decide) (by decide)] at hi
    rw [ei p' 0 hp' (by decide) (by decide)] at hop'
    rw [ei p' 1 hp' (by decide) (by decide)] at hj
    have h6 := (h.pl p hp).2.1.2
    have h6' := (h.pl p' hp').2.1.2
    rw [ei p _ hp (by omega) (by omega), ei p' _ hp' (by omega) (by omega)]
    exact (h.di.2 p hp hop1 i hi).2 p' hp' hop' j hj hne
  · have := h.re c hc
    rw [eo c 0 hc (by decide) (by decide), eo c 1 hc (by decide) (by decide), eo c 2 hc (by decide) (by decide), eo c 8 hc (by decide) (by decide), eo c 9 hc (by decide) (by decide), eo c 11 hc (by decide) (by decide), eo c 10 hc (by decide) (by decide), el 0 (by decide) (by decide)]
    exact this
  · exact h.me.keep (el 0 (by decide) (by decide)) (el 2 (by decide) (by decide)) (el 9 (by decide) (by decide)) (fun j hj => e j (by omega) (by omega) (fun c hc => by omega))
/-- where neither places nor rows nor messages change -/
theorem Inv.low {r g : RW} {T : Int} (h : Inv r T) (hg : RF g) (he : ∀ j, ((0 ≤ j ∧ j ≤ 3) ∨ (17 ≤ j ∧ j < 697)) → g j = r j) (h4 : g 4 ≤ 60 * r 0) (h6 : g 6 ≤ 3 * r 0) (ho : ∀ c : Nat, c < 3 → 0 ≤ m_of g c 3 ∧ m_of g c 3 ≤ 500 * r 0) (hco : 0 ≤ g 9 ∧ 0 ≤ g 5 ∧ g 5 + g 9 ≤ g 4 ∧ 0 ≤ g 6 ∧ g 6 ≤ g 8 ∧ g 8 ≤ 8 * g 6) (hse : ISe g) (hre : IRe g) (hme : IMe g 1 3) : Inv g T := by
  obtain ⟨⟨i0, i1⟩, i2, i3, i4, i5⟩ := h.ti
  have e0 := he 0 (by omega)
  have e1 := he 1 (by omega)
  have e2 := he 2 (by omega)
  have e3 := he 3 (by omega)
  have b2 := h.co.1
  have ew : ∀ k : Nat, (k : Int) < r 2 → m_write g k = m_write r k := fun k hk => by unfold m_write; exact he _ (by omega)
  have ei : ∀ (p : Nat) (x : Int), p < 4 → 0 ≤ x → x < 20 → m_its g p x = m_its r p x := fun p x h4 h0 h1 => by unfold m_its; exact he _ (by omega)
  refine ⟨hg, ⟨by rw [e0]; exact ⟨i0, i1⟩, by rw [e1]; exact i2, by rw [e0]; exact h4, by rw [e0]; exact h6, fun c hc => by rw [e0]; exact ho c hc⟩, ?_, hse, fun p hp => ?_, fun j hj => ?_, ⟨fun k j hkj hj => ?_, fun p hp hop1 i hi => ⟨fun k hk => ?_, fun p' hp' hop' j hj hne => ?_⟩⟩, hre, hme⟩
  · have := h.co
    unfold ICo m_kept at *
    rw [e2, e3]
    exact ⟨this.1, this.2.1, this.2.2.1, hco⟩
  · obtain ⟨a1, a2, a3⟩ := h.pl p hp
    rw [ei p 0 hp (by decide) (by decide), ei p 1 hp (by decide) (by decide), e1]
    exact ⟨a1, a2, fun i hi => by rw [ei p _ hp (by omega) (by omega), ei p _ hp (by omega) (by omega), ei p _ hp (by omega) (by omega)]; exact a3 i hi⟩
  · rw [e2] at hj
    have := h.ro j hj
    rw [ew j hj, he (97 + 3 * (j : Int)) (by omega), he (97 + 3 * (j : Int) + 2) (by omega), e1]
    exact this
  · rw [e2] at hj
    rw [ew k (by omega), ew j (by omega)]; exact h.di.1 k j hkj hj
  · rw [e2] at hk
    rw [ei p 0 hp (by decide) (by decide)] at hop1
    rw [ei p 1 hp (by decide) (by decide)] at hi
    have h6 := (h.pl p hp).2.1.2
    rw [ew k (by omega), ei p _ hp (by omega) (by omega)]
    exact (h.di.2 p hp hop1 i hi).1 k hk
  · rw [ei p 0 hp (by decide) (by decide)] at hop1
    rw [ei p 1 hp (by decide) (by decide)] at hi
    rw [ei p' 0 hp' (by decide) (by decide)] at hop'
    rw [ei p' 1 hp' (by decide) (by decide)] at hj
    have h6 := (h.pl p hp).2.1.2
    have h6' := (h.pl p' hp').2.1.2
    rw [ei p _ hp (by omega) (by omega), ei p' _ hp' (by omega) (by omega)]
    exact (h.di.2 p hp hop1 i hi).2 p' hp' hop' j hj hne
theorem ranked0 {r : RW} {N n : Nat} {s : Nat → Nat} (hN : r 9 = N) (hs : Sig r N s) (h0 : 0 < N) (hm : LexMin r N n) : m_ranked r 0 = n := by
  have := ranked_at (n := N) (by rw [hN]; omega) hs 0 h0
  rw [← hs.zero hm]; exact this
theorem inv_lose {r : RW} {T : Int} (h : Inv r T) {N n : Nat} (hN : r 9 = N) (hr : m_ranked r 0 = n) (hn : n < N) : Inv (m_lose r) T := by
  have h54 := h.nine
  obtain ⟨t1, t9, t3⟩ := takeOff_at hN hn (by omega)
  have hM1 := h.me.off hN hn (by omega)
  have hB1 := ib_takeOff h.b hN hn
  obtain ⟨⟨i0, i1⟩, i2, i3, i4, i5⟩ := h.ti
  have hco := h.co.2.2.2
  unfold m_lose
  rw [hr]
  have rG := rf_up hB1.rf 5 ((m_takeOff r n) 5 + 1)
  have e5 : (up (m_takeOff r n) 5 ((m_takeOff r n) 5 + 1)) 5 = r 5 + 1 := by
    have := t1 5 (by decide) (by omega)
    rw [up_s, this]
    have := h.rf 4
    exact wr_id ⟨by omega, by have := this.2; omega⟩
  have eu : ∀ j, j ≠ 5 → (up (m_takeOff r n) 5 ((m_takeOff r n) 5 + 1)) j = m_takeOff r n j := fun j hj => up_n _ _ hj
  generalize up (m_takeOff r n) 5 ((m_takeOff r n) 5 + 1) = G at rG e5 eu ⊢
  have e : ∀ j, j ≠ 5 → j ≠ 9 → j < 811 → G j = r j := fun j h5 h9 hj => by rw [eu j h5]; exact t1 j h9 (by omega)
  have eo : ∀ (c : Nat) (x : Int), c < 3 → 0 ≤ x → x < 38 → m_of G c x = m_of r c x := fun c x hc h0 h1 => by unfold m_of; exact e _ (by omega) (by omega) (by omega)
  refine h.low rG (fun j hj => e j (by omega) (by omega) (by omega)) (by rw [e 4 (by decide) (by decide) (by decide)]; exact i3) (by rw [e 6 (by decide) (by decide) (by decide)]; exact i4) (fun c hc => by rw [eo c 3 hc (by decide) (by decide)]; exact i5 c hc) ?_ ?_ (fun c hc => ?_) ?_
  · rw [e5, eu 9 (by decide), t9, e 4 (by decide) (by decide) (by decide), e 6 (by decide) (by decide) (by decide), e 8 (by decide) (by decide) (by decide)]; omega
  · have := h.se
    unfold ISe at *
    rw [e 10 (by decide) (by decide) (by decide), e 11 (by decide) (by decide) (by decide), e 12 (by decide) (by decide) (by decide), e 13 (by decide) (by decide) (by decide), e 14 (by decide) (by decide) (by decide), e 15 (by decide) (by decide) (by decide), e 16 (by decide) (by decide) (by decide)]
    exact this
  · have := h.re c hc
    rw [eo c 0 hc (by decide) (by decide), eo c 1 hc (by decide) (by decide), eo c 2 hc (by decide) (by decide), eo c 8 hc (by decide) (by decide), eo c 9 hc (by decide) (by decide), eo c 11 hc (by decide) (by decide), eo c 10 hc (by decide) (by decide), e 0 (by decide) (by decide) (by decide)]
    exact this
  · exact hM1.keep (eu 0 (by decide)) (eu 2 (by decide)) (eu 9 (by decide)) (fun j hj => eu j (by omega))
