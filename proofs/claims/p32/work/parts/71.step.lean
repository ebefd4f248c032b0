/-! ===== a step of a tick ===== -/
theorem m_eff_by {g r : RW} (f : Nat → Int) (h : ∀ d : Nat, d < 3 → m_of g d 3 = m_of r d 3 + f d) : m_eff g = m_eff r + (f 0 + f 1 + f 2) := by
  have h0 := h 0 (by decide)
  have h1 := h 1 (by decide)
  have h2 := h 2 (by decide)
  have f0 : ((0 : Nat) : Int) = 0 := rfl
  have f1 : ((1 : Nat) : Int) = 1 := rfl
  have f2 : ((2 : Nat) : Int) = 2 := rfl
  rw [f0] at h0
  rw [f1] at h1
  rw [f2] at h2
  unfold m_eff
  rw [h0, h1, h2]; omega
theorem m_eff_same {g r : RW} (h : ∀ d : Nat, d < 3 → m_of g d 3 = m_of r d 3) : m_eff g = m_eff r := by
  rw [m_eff_by (g := g) (r := r) (fun _ => 0) (fun d hd => by rw [h d hd]; exact (Int.add_zero _).symm)]
  exact Int.add_zero _
theorem ib_ansR {g : RW} (hB : IB g) {c : Nat} (hc : c < 3) {x : Int} (hx : rg x) (hx0 : 0 ≤ x) (hgf : RF (m_ansR g c x)) : IB (m_ansR g c x) := by
  obtain ⟨t1, t7, t8, t9⟩ := ansR_at hB.rf hc hx
  obtain ⟨rf, ⟨c1, c2, c3, c4⟩, se, pl, ro, re, ni⟩ := hB
  have e := fun j (h7 : j ≠ 7) (hj : j < 697 ∨ 811 ≤ j) => t1 j h7 (by omega) (by omega)
  refine ⟨hgf, ⟨by rw [e 2 (by omega) (by omega)]; exact c1, by rw [e 2 (by omega) (by omega), e 3 (by omega) (by omega)]; exact c2, by unfold m_kept at *; rw [e 2 (by omega) (by omega), e 3 (by omega) (by omega)]; exact c3, by rw [e 9 (by omega) (by omega), e 5 (by omega) (by omega), e 4 (by omega) (by omega), e 6 (by omega) (by omega), e 8 (by omega) (by omega)]; exact c4⟩, ?_, fun p hp => ?_, fun j hj => ?_, fun d hd => ?_, by rw [e 9 (by omega) (by omega)]; exact ni⟩
  · unfold ISe at *; rw [e 10 (by omega) (by omega), e 11 (by omega) (by omega), e 12 (by omega) (by omega), e 13 (by omega) (by omega), e 14 (by omega) (by omega), e 15 (by omega) (by omega), e 16 (by omega) (by omega)]; exact se
  · have ep : ∀ x' : Int, 0 ≤ x' → x' < 20 → m_its (m_ansR g c x) p x' = m_its g p x' := fun x' h1 h2 => by unfold m_its; exact e _ (by omega) (by omega)
    obtain ⟨a1, a2, a3⟩ := pl p hp
    rw [ep 0 (by omega) (by omega), ep 1 (by omega) (by omega), e 1 (by omega) (by omega)]
    exact ⟨a1, a2, fun i hi => by rw [ep _ (by omega) (by omega), ep _ (by omega) (by omega), ep _ (by omega) (by omega)]; exact a3 i hi⟩
  · rw [e 2 (by omega) (by omega)] at hj
    unfold m_write
    rw [e (97 + 3 * (j : Int)) (by omega) (by omega), e (97 + 3 * (j : Int) + 1) (by omega) (by omega), e 1 (by omega) (by omega), e (97 + 3 * (j : Int) + 2) (by omega) (by omega)]; exact ro j hj
  · by_cases z : d = c
    · subst z
      have q : ∀ y : Int, y ≠ 8 → y ≠ 9 → 0 ≤ y → m_of (m_ansR g d x) d y = m_of g d y := fun y h1 h2 h3 => by unfold m_of; exact t1 _ (by omega) (by omega) (by omega)
      obtain ⟨r1, r2, r3, r4, r5, r6, r7⟩ := re d hd
      rw [q 0 (by decide) (by decide) (by decide), q 1 (by decide) (by decide) (by decide), q 2 (by decide) (by decide) (by decide), t8, t9, q 10 (by decide) (by decide) (by decide), q 11 (by decide) (by decide) (by decide), e 0 (by omega) (by omega)]
      refine ⟨r1, r2, r3, ?_, ?_, r6, r7⟩
      · split <;> omega
      · split
        · exact r5
        · exact Or.inl rfl
    · have eo : ∀ x' : Int, 0 ≤ x' → x' < 38 → m_of (m_ansR g c x) d x' = m_of g d x' := fun x' h1 h2 => by unfold m_of; exact t1 _ (by omega) (by omega) (by omega)
      rw [eo 0 (by omega) (by omega), eo 1 (by omega) (by omega), eo 2 (by omega) (by omega), eo 8 (by omega) (by omega), eo 9 (by omega) (by omega), eo 11 (by omega) (by omega), eo 10 (by omega) (by omega), e 0 (by omega) (by omega)]; exact re d hd
theorem rf_ansR {g : RW} (h : RF g) (c x : Int) : RF (m_ansR g c x) := by
  obtain ⟨y, hy⟩ : ∃ y : Int, m_ansR g c x = (if x < m_of (up (up g 7 (g 7 + 1)) (697 + 38 * c + 8) y) c 10 then up (up g 7 (g 7 + 1)) (697 + 38 * c + 8) y else up (up (up g 7 (g 7 + 1)) (697 + 38 * c + 8) y) (697 + 38 * c + 9) 0) := ⟨_, rfl⟩
  rw [hy]
  split
  · exact rf_up (rf_up h _ _) _ _
  · exact rf_up (rf_up (rf_up h _ _) _ _) _ _
theorem answer_is {r : RW} {n c : Nat} (h : m_way r n 1 = c) : m_answerComes r n = m_ansR (m_takeOff r n) c (m_way r n 4) := by
  unfold m_answerComes m_ansR; rw [h]
theorem batch_is {r b : RW} {n c L : Nat} (h : m_way r n 1 = c) (hL : m_way r n 3 = L) (hlo : ∀ j, 811 ≤ j → m_bcL r n c L j = r j) : m_batchComes r b n = m_sends (m_takeOff (m_bcL r n c L) n) b 1 c ((0 : Nat) : Int) (m_way r n 4) := by
  unfold m_batchComes; rw [h, hL, Int.toNat_natCast]
  rw [way_keep hlo (by omega) (by decide)]; rfl
/-- a message is sent: what holds, holds on -/
theorem sends_mid {r b : RW} {T lo e e' D : Int} {N mn : Nat} {kd c gr t : Int} {og : Nat → Int} (hB : IB r) (hG : IMeG r lo e og) (hN : r 9 = N) (hN2 : N ≤ 53) (hmn : mn ≤ 8) (hkd : kd = 0 ∨ kd = 1) (hc : 0 ≤ c ∧ c ≤ 2) (hgr : rg gr) (hgr0 : 0 ≤ gr) (hb : ∀ k : Nat, k < mn → 0 ≤ b k ∧ b k < r 2) (hlo : lo ≤ 1) (he : e ≤ e') (ht : t ≤ r 0) (ht9 : kd = 0 → r 0 + r 11 ≤ t + 9) (ht18 : r 0 + r 11 ≤ t + 18) (hz : kd = 1 → mn = 0) (hte : t = r 0 → c < e') (hd : ∀ n : Nat, n < N → og n ≠ t ∨ m_way r n 1 ≠ c) (i0 : 1 ≤ r 0) (i1 : r 0 ≤ T) (i2 : 0 ≤ r 1 ∧ r 1 ≤ T) (i3 : r 4 ≤ 60 * (r 0 - 1) + D) (i4 : r 6 ≤ 3 * (r 0 - 1) + e') (i5 : ∀ d : Nat, d < 3 → 0 ≤ m_of r d 3 ∧ m_of r d 3 ≤ 500 * (r 0 - 1) + 8 * (D + 1)) (hT : T ≤ 2000000) (hD : 0 ≤ D ∧ D ≤ 60) (he3 : 0 ≤ e' ∧ e' ≤ 3) : Mid (m_sends r b kd c mn gr) T lo e' (D + 1) ∧ TF r (m_sends r b kd c mn gr) ∧ m_sends r b kd c mn gr 0 = r 0 ∧ dcN (m_sends r b kd c mn gr) = dcN r ∧ ∀ d : Nat, d < 3 → m_of (m_sends r b kd c mn gr) d 3 = m_of r d 3 := by
  have rf := hB.rf
  have b2 := hB.co.1
  have hcc := hB.co.2.2.2
  have hse := hB.se.2.1
  obtain ⟨s1, s2⟩ := sends_at (b := b) rf hN (by omega) hmn (show rg kd by rcases hkd with z | z <;> rw [z] <;> exact ⟨by decide, by decide⟩) (show rg c from ⟨by omega, by omega⟩) hgr (fun k hk => by have := hb k hk; omega)
  have hw4 : wr (r 4 + 1) = r 4 + 1 := wr_id ⟨by omega, by omega⟩
  have rg' := rf_sends rf b kd c mn gr
  by_cases hl : m_isLost r
  · have hs := s1 hl
    rw [hs] at rg' ⊢
    have e4 : (up (up r 4 (r 4 + 1)) 5 (r 5 + 1)) 4 = r 4 + 1 := by rw [up_n _ _ (by decide), up_s, hw4]
    have e5 : (up (up r 4 (r 4 + 1)) 5 (r 5 + 1)) 5 = r 5 + 1 := by rw [up_s]; exact wr_id ⟨by omega, by omega⟩
    have eo : ∀ j, j ≠ 4 → j ≠ 5 → (up (up r 4 (r 4 + 1)) 5 (r 5 + 1)) j = r j := fun j h1 h2 => by rw [up_n _ _ h2, up_n _ _ h1]
    refine ⟨⟨ib_low hB rg' (fun j _ _ h4 h5 _ _ _ => eo j h4 h5) (by rw [eo 9 (by decide) (by decide)]; omega) (by rw [e4, e5, eo 9 (by decide) (by decide)]; omega) (by rw [eo 6 (by decide) (by decide), eo 8 (by decide) (by decide)]; omega), ⟨og, ?_⟩, ?_⟩, ⟨fun j hj => eo j (by omega) (by omega), fun k hk => by unfold m_write; exact eo _ (by omega) (by omega)⟩, eo 0 (by decide) (by decide), dc_keep (eo 0 (by decide) (by decide)) (eo 9 (by decide) (by decide)) (fun j hj => eo j (by omega) (by omega)), fun d hd => by unfold m_of; exact eo _ (by omega) (by omega)⟩
    · have := IMeG.keep hG (g := up (up r 4 (r 4 + 1)) 5 (r 5 + 1)) (eo 0 (by decide) (by decide)) (eo 2 (by decide) (by decide)) (eo 9 (by decide) (by decide)) (fun j hj => eo j (by omega) (by omega))
      exact fun n hn => ⟨(this n hn).1, fun z => by have := (this n hn).2.1 z; omega, (this n hn).2.2⟩
    · unfold ITm
      rw [eo 0 (by decide) (by decide), eo 1 (by decide) (by decide), e4, eo 6 (by decide) (by decide)]
      exact ⟨⟨i0, i1⟩, i2, by omega, i4, fun d hd => by unfold m_of; rw [eo _ (by omega) (by omega)]; have := i5 d hd; unfold m_of at this; omega⟩
  · obtain ⟨g1, g4, g9, w0, w1, w2, w3, w4, w5⟩ := s2 hl
    rw [hw4] at g4
    rw [wr_id (show rg (r 0 + r 11) from ⟨by omega, by omega⟩)] at w2
    have hway : ∀ n : Nat, n < N → ∀ x : Int, 0 ≤ x → x ≤ 6 → m_way (m_sends r b kd c mn gr) n x = m_way r n x := fun n hn x h0 h1 => by
      unfold m_way; rw [g1 _ (by omega) (by omega) (by omega)]
    have eo : ∀ j, j < 811 → j ≠ 4 → j ≠ 9 → m_sends r b kd c mn gr j = r j := fun j h h4 h9 => g1 j h4 h9 (by omega)
    refine ⟨⟨ib_low hB rg' (fun j h h9 h4 _ _ _ _ => eo j h h4 h9) (by rw [g9]; omega) (by rw [g4, g9, eo 5 (by decide) (by decide) (by decide)]; omega) (by rw [eo 6 (by decide) (by decide) (by decide), eo 8 (by decide) (by decide) (by decide)]; omega), ?_, ?_⟩, ⟨fun j hj => eo j (by omega) (by omega) (by omega), fun k hk => by unfold m_write; exact eo _ (by omega) (by omega) (by omega)⟩, eo 0 (by decide) (by decide) (by decide), dc_add hN g9 (eo 0 (by decide) (by decide) (by decide)) (fun n hn => hway n hn 2 (by decide) (by decide)) (by rw [w2]; omega), fun d hd => by unfold m_of; exact eo _ (by omega) (by omega) (by omega)⟩
    · refine IMe.add og hG hN g9 (eo 0 (by decide) (by decide) (by decide)) (eo 2 (by decide) (by decide) (by decide)) hway he (t := t) ?_ (by rw [w1]; exact hte) (by rw [w1]; exact hd)
      unfold IMe1
      rw [w0, w1, w2, w3, w4, eo 0 (by decide) (by decide) (by decide), eo 2 (by decide) (by decide) (by decide)]
      exact ⟨hkd, hc, ⟨by omega, by omega⟩, ⟨by omega, by omega⟩, hgr0, fun k hk => by rw [w5 k (by omega)]; exact hb k (by omega), ht, ht9, ht18, fun z => by rw [hz z]; rfl⟩
    · unfold ITm
      rw [eo 0 (by decide) (by decide) (by decide), eo 1 (by decide) (by decide) (by decide), g4, eo 6 (by decide) (by decide) (by decide)]
      exact ⟨⟨i0, i1⟩, i2, by omega, i4, fun d hd => by unfold m_of; rw [eo _ (by omega) (by omega) (by omega)]; have := i5 d hd; unfold m_of at this; omega⟩
/-- the first due message comes -/
theorem step_mid {r b : RW} {T D : Int} {N n : Nat} (hM : Mid r T 0 0 D) (hN : r 9 = N) (hm : LexMin r N n) (hd : m_way r n 2 ≤ r 0) (hT : T ≤ 2000000) (hD : 0 ≤ D ∧ D ≤ 60) : Mid (m_stepN r b n) T 0 0 (D + 1) ∧ TF r (m_stepN r b n) ∧ m_stepN r b n 0 = r 0 ∧ dcN (m_stepN r b n) = dcN r - 1 ∧ BP r n ∧ m_eff (m_stepN r b n) = m_eff r + c_eff r n (m_way r n 1) (m_way r n 3).toNat := by
  obtain ⟨hB, ⟨og, hG⟩, hI⟩ := hM
  have hMK : MK r := IMe.mk ⟨og, hG⟩
  have hnN := hm.1
  have h54 := hB.ni
  have b2 := hB.co.1
  obtain ⟨hkd, hwh, hln, hgr, hrw, hz⟩ := hMK n (by omega)
  obtain ⟨c, hcw⟩ : ∃ c : Nat, m_way r n 1 = c := ⟨(m_way r n 1).toNat, by omega⟩
  have hc : c < 3 := by omega
  obtain ⟨L, hL⟩ : ∃ L : Nat, m_way r n 3 = L := ⟨(m_way r n 3).toNat, by omega⟩
  have hgrr : rg (m_way r n 4) := rg_way hB.rf _ _
  have hog := hG n (by omega)
  have hBP : BP r n := by
    refine ⟨by omega, by omega, by omega, by omega, fun k h0 hk => ?_, ?_, hB.se.2.2.2.2.2.2.2⟩
    · have := hrw k.toNat (by omega)
      rw [show ((k.toNat : Nat) : Int) = k by omega] at this; omega
    · rw [hcw]; exact (hB.re c hc).2.2.1
  obtain ⟨⟨i0, i1⟩, i2, i3, i4, i5⟩ := hI
  by_cases q : m_way r n 0 = 0
  · obtain ⟨l1, l2, l3, l4, -⟩ := bcL_at hB (n := n) hc (L := L) (by omega) (fun k hk => hrw k (by omega)) L (Nat.le_refl _)
    have lw := fun j (hj : 811 ≤ j) => l2 j (Or.inr hj)
    have hst : m_stepN r b n = m_sends (m_takeOff (m_bcL r n c L) n) b 1 c ((0 : Nat) : Int) (m_way r n 4) := by
      unfold m_stepN; rw [if_pos q]; exact batch_is hcw hL lw
    have hN0 : m_bcL r n c L 9 = N := by rw [l2 9 (by omega)]; exact hN
    obtain ⟨t1, t9, t3⟩ := takeOff_at hN0 hnN (by omega)
    have hG0 : IMeG (m_bcL r n c L) 0 0 og := IMeG.keep hG (l2 0 (by omega)) (l2 2 (by omega)) (l2 9 (by omega)) lw
    have hG1 := IMeG.off hG0 hN0 hnN (by omega)
    have hB1 := ib_takeOff l1 hN0 hnN
    have eff := c_eff_rg r n c L
    have k0 : m_takeOff (m_bcL r n c L) n 0 = r 0 := by rw [t1 0 (by decide) (by omega)]; exact l2 0 (by omega)
    have k11 : m_takeOff (m_bcL r n c L) n 11 = r 11 := by rw [t1 11 (by decide) (by omega)]; exact l2 11 (by omega)
    have hse := hB.se.2.1
    have e3 : ∀ d : Nat, d < 3 → m_of (m_takeOff (m_bcL r n c L) n) d 3 = m_of (m_bcL r n c L) d 3 := fun d hd => by unfold m_of; exact t1 _ (by omega) (by omega)
    have j5 : ∀ d : Nat, d < 3 → 0 ≤ m_of (m_takeOff (m_bcL r n c L) n) d 3 ∧ m_of (m_takeOff (m_bcL r n c L) n) d 3 ≤ 500 * (r 0 - 1) + 8 * (D + 1) := fun d hd => by
      rw [e3 d hd, (l3 d hd).2.2.2.2]
      have h5 := i5 d hd
      by_cases z : d = c
      · subst z; rw [if_pos rfl, wr_id ⟨by omega, by omega⟩]; omega
      · rw [if_neg z]; omega
    rw [hst]
    have key := sends_mid (r := m_takeOff (m_bcL r n c L) n) (b := b) (T := T) (lo := 0) (e := 0) (e' := 0) (D := D) (N := N - 1) (mn := 0) (kd := 1) (c := c) (gr := m_way r n 4) (t := og n) hB1 hG1 (by rw [t9]; omega) (by omega) (by omega) (Or.inr rfl) ⟨by omega, by omega⟩ hgrr hgr (fun k hk => by omega) (by decide) (Int.le_refl _) (by rw [k0]; exact hog.1.2.2.2.2.2.2.1) (fun z => by omega) (by
      rw [k0, k11]
      have h8 := hog.1.2.2.2.2.2.2.2.1 q
      have h3 := hog.1.2.2.1
      omega) (fun _ => rfl) (fun z => by rw [k0] at z; have := hog.2.1 z; omega) (fun m hm' => by
      rw [t3 m (by omega) 1 (by decide) (by decide)]
      have hne : (if m < n then m else m + 1) ≠ n := by split <;> omega
      have := (hG0 (if m < n then m else m + 1) (by rw [hN0]; split <;> omega)).2.2 n (by rw [hN0]; omega) hne
      rw [way_keep lw (n := (n : Int)) (by omega) (by decide), hcw] at this
      exact this) (by rw [k0]; exact i0) (by rw [k0]; exact i1) (by rw [t1 1 (by decide) (by omega), l2 1 (by omega)]; exact i2) (by rw [k0, t1 4 (by decide) (by omega), l2 4 (by omega)]; exact i3) (by rw [k0, t1 6 (by decide) (by omega), l2 6 (by omega)]; exact i4) (fun d hd => by rw [k0]; exact j5 d hd) hT hD ⟨by decide, by decide⟩
    have hTF : TF r (m_takeOff (m_bcL r n c L) n) := ⟨fun j hj => by rw [t1 j (by omega) (by omega)]; exact l2 j (by omega), fun k hk => by
      have : m_write (m_takeOff (m_bcL r n c L) n) k = m_write (m_bcL r n c L) k := by unfold m_write; exact t1 _ (by omega) (by omega)
      rw [this]; exact l4 k hk⟩
    refine ⟨key.1, hTF.trans key.2.1, key.2.2.1.trans k0, ?_, hBP, ?_⟩
    · rw [key.2.2.2.1, dc_off hN0 hnN (by omega) (by rw [way_keep lw (by omega) (by decide), l2 0 (by omega)]; exact hd), dc_keep (l2 0 (by omega)) (l2 9 (by omega)) lw]
    · have hall : ∀ d : Nat, d < 3 → m_of (m_sends (m_takeOff (m_bcL r n c L) n) b 1 c ((0 : Nat) : Int) (m_way r n 4)) d 3 = m_of r d 3 + (if d = c then c_eff r n c L else 0) := fun d hd => by
        rw [key.2.2.2.2 d hd, e3 d hd, (l3 d hd).2.2.2.2]
        have h5 := i5 d hd
        by_cases z : d = c
        · subst z; rw [if_pos rfl, if_pos rfl, wr_id ⟨by omega, by omega⟩]
        · rw [if_neg z, if_neg z]; omega
      rw [m_eff_by _ hall, hcw, hL, Int.toNat_natCast]
      rcases (show c = 0 ∨ c = 1 ∨ c = 2 by omega) with z | z | z <;> subst z <;> simp
  · have q1 : m_way r n 0 = 1 := by omega
    have hst : m_stepN r b n = m_ansR (m_takeOff r n) c (m_way r n 4) := by
      unfold m_stepN; rw [if_neg q]; exact answer_is hcw
    obtain ⟨t1, t9, t3⟩ := takeOff_at hN hnN (by omega)
    have hB1 := ib_takeOff hB hN hnN
    obtain ⟨a1, a7, a8, a9⟩ := ansR_at hB1.rf hc hgrr
    have rA := rf_ansR hB1.rf c (m_way r n 4)
    have hG1 := IMeG.off hG hN hnN (by omega)
    rw [hst]
    have e0 : ∀ j, j ≠ 7 → j < 697 → m_ansR (m_takeOff r n) c (m_way r n 4) j = m_takeOff r n j := fun j h7 h => a1 j h7 (by omega) (by omega)
    have ew : ∀ j, 811 ≤ j → m_ansR (m_takeOff r n) c (m_way r n 4) j = m_takeOff r n j := fun j h => a1 j (by omega) (by omega) (by omega)
    refine ⟨⟨ib_ansR hB1 hc hgrr hgr rA, ⟨_, IMeG.keep hG1 (e0 0 (by decide) (by decide)) (e0 2 (by decide) (by decide)) (e0 9 (by decide) (by decide)) ew⟩, ?_⟩, ⟨fun j hj => by rw [e0 j (by omega) (by omega)]; exact t1 j (by omega) (by omega), fun k hk => by unfold m_write; rw [a1 _ (by omega) (by omega) (by omega)]; exact t1 _ (by omega) (by omega)⟩, by rw [e0 0 (by decide) (by decide)]; exact t1 0 (by decide) (by omega), ?_, hBP, ?_⟩
    · unfold ITm
      rw [e0 0 (by decide) (by decide), e0 1 (by decide) (by decide), e0 4 (by decide) (by decide), e0 6 (by decide) (by decide), t1 0 (by decide) (by omega), t1 1 (by decide) (by omega), t1 4 (by decide) (by omega), t1 6 (by decide) (by omega)]
      exact ⟨⟨i0, i1⟩, i2, by omega, i4, fun d hd => by
        have h5 := i5 d hd
        unfold m_of at h5 ⊢
        rw [a1 _ (by omega) (by omega) (by omega), t1 _ (by omega) (by omega)]; omega⟩
    · rw [dc_keep (e0 0 (by decide) (by decide)) (e0 9 (by decide) (by decide)) ew]
      exact dc_off hN hnN (by omega) hd
    · have hall : ∀ d : Nat, d < 3 → m_of (m_ansR (m_takeOff r n) c (m_way r n 4)) d 3 = m_of r d 3 := fun d hd => by
        unfold m_of
        rw [a1 _ (by omega) (by omega) (by omega), t1 _ (by omega) (by omega)]
      rw [m_eff_same hall, hz q1]
      simp [c_eff]
