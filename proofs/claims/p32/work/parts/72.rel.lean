/-! ===== the relays of a tick ===== -/
theorem ib_wait {g : RW} (hB : IB g) {c : Nat} (hc : c < 3) {x : Int} (hx : rg x) (hx0 : 0 ≤ x) : IB (up (up (up g (697 + 38 * (c : Int) + 9) 1) (697 + 38 * (c : Int) + 11) (g 0)) (697 + 38 * (c : Int) + 10) x) := by
  have rf := hB.rf
  obtain ⟨w1, w9, w10, w11⟩ := wait_at rf hc hx
  obtain ⟨G, hG⟩ : ∃ G, G = up (up (up g (697 + 38 * (c : Int) + 9) 1) (697 + 38 * (c : Int) + 11) (g 0)) (697 + 38 * (c : Int) + 10) x := ⟨_, rfl⟩
  have rG : RF G := by rw [hG]; exact rf_up (rf_up (rf_up rf _ _) _ _) _ _
  rw [← hG] at w1 w9 w10 w11 ⊢
  have hre := hB.re c hc
  obtain ⟨_, ⟨c1, c2, c3, c4⟩, se, pl, ro, re, ni⟩ := hB
  have e := fun j (hj : j < 697 ∨ 811 ≤ j) => w1 j (by omega) (by omega) (by omega)
  refine ⟨rG, ⟨by rw [e 2 (by omega)]; exact c1, by rw [e 2 (by omega), e 3 (by omega)]; exact c2, by unfold m_kept at *; rw [e 2 (by omega), e 3 (by omega)]; exact c3, by rw [e 9 (by omega), e 5 (by omega), e 4 (by omega), e 6 (by omega), e 8 (by omega)]; exact c4⟩, ?_, fun p hp => ?_, fun j hj => ?_, fun d hd => ?_, by rw [e 9 (by omega)]; exact ni⟩
  · unfold ISe at *; rw [e 10 (by omega), e 11 (by omega), e 12 (by omega), e 13 (by omega), e 14 (by omega), e 15 (by omega), e 16 (by omega)]; exact se
  · have ep : ∀ x : Int, 0 ≤ x → x < 20 → m_its G p x = m_its g p x := fun x h1 h2 => by unfold m_its; exact e _ (by omega)
    obtain ⟨a1, a2, a3⟩ := pl p hp
    rw [ep 0 (by omega) (by omega), ep 1 (by omega) (by omega), e 1 (by omega)]
    exact ⟨a1, a2, fun i hi => by rw [ep _ (by omega) (by omega), ep _ (by omega) (by omega), ep _ (by omega) (by omega)]; exact a3 i hi⟩
  · rw [e 2 (by omega)] at hj
    unfold m_write
    rw [e (97 + 3 * (j : Int)) (by omega), e (97 + 3 * (j : Int) + 1) (by omega), e 1 (by omega), e (97 + 3 * (j : Int) + 2) (by omega)]; exact ro j hj
  · by_cases z : d = c
    · subst z
      have q : ∀ y : Int, y ≠ 9 → y ≠ 10 → y ≠ 11 → m_of G d y = m_of g d y := fun y h1 h2 h3 => by unfold m_of; exact w1 _ (by omega) (by omega) (by omega)
      obtain ⟨r1, r2, r3, r4, r5, r6, r7⟩ := re d hd
      rw [q 0 (by decide) (by decide) (by decide), q 1 (by decide) (by decide) (by decide), q 2 (by decide) (by decide) (by decide), q 8 (by decide) (by decide) (by decide), w9, w10, w11, e 0 (by omega)]
      exact ⟨r1, r2, r3, r4, Or.inr rfl, ⟨by omega, Int.le_refl _⟩, hx0⟩
    · have eo : ∀ x : Int, 0 ≤ x → x < 38 → m_of G d x = m_of g d x := fun x h1 h2 => by unfold m_of; exact w1 _ (by omega) (by omega) (by omega)
      rw [eo 0 (by omega) (by omega), eo 1 (by omega) (by omega), eo 2 (by omega) (by omega), eo 8 (by omega) (by omega), eo 9 (by omega) (by omega), eo 11 (by omega) (by omega), eo 10 (by omega) (by omega), e 0 (by omega)]; exact re d hd
theorem markL_off (r B : RW) (c k : Int) : ∀ n : Nat, m_markL r B c n (97 + 3 * k + 1) = r (97 + 3 * k + 1)
  | 0 => rfl
  | n + 1 => by
    simp only [m_markL, m_setm]
    rw [up_n _ _ (by omega)]; exact markL_off r B c k n
theorem rel1_mid {r B : RW} {T D : Int} {c s : Nat} (hM : Mid r T 1 c D) (rb : RF B) (hc : c < 3) (hT : T ≤ 2000000) (hD : 0 ≤ D ∧ D ≤ 60) (hs0 : 0 < s) (hs8 : s ≤ 8) (hbi : ∀ k : Nat, k < s → 0 ≤ B k ∧ B k < r 2) : Mid (m_rel1 r B c s) T 1 ((c : Int) + 1) (D + 1) ∧ TF r (m_rel1 r B c s) ∧ m_rel1 r B c s 0 = r 0 ∧ dcN (m_rel1 r B c s) = dcN r ∧ ∀ d : Nat, d < 3 → m_of (m_rel1 r B c s) d 3 = m_of r d 3 := by
  have hfew := hM.2.1.few hM.1.co.2.2.2.1 (Or.inr rfl) ⟨by omega, by omega⟩
  obtain ⟨hB, ⟨og, hG⟩, ⟨⟨i0, i1⟩, i2, i3, i4, i5⟩⟩ := hM
  have rf := hB.rf
  have b2 := hB.co.1
  have hs11 := hB.se.2.1
  have h9 := hB.co.2.2.2
  obtain ⟨N, hN⟩ : ∃ N : Nat, r 9 = N := ⟨(r 9).toNat, by omega⟩
  obtain ⟨hBw, hlo, hrw⟩ := markL_at hB (B := B) hc s hbi
  obtain ⟨kl, hkl⟩ : ∃ kl : Nat, B ((s : Int) - 1) = kl := ⟨(B ((s : Int) - 1)).toNat, by
    have := hbi (s - 1) (by omega)
    rw [show ((s - 1 : Nat) : Int) = (s : Int) - 1 by omega] at this
    omega⟩
  have hklr : (kl : Int) < r 2 := by
    have := hbi (s - 1) (by omega)
    rw [show ((s - 1 : Nat) : Int) = (s : Int) - 1 by omega] at this
    omega
  have hxr : rg (m_num r kl) := num_rg rf hB.ro hklr
  have hx0 : 0 ≤ m_num r kl := num_pos hB.ro hklr
  have hg0 : m_markL r B c s 0 = r 0 := hlo 0 (by omega)
  have hB5 := ib_wait hBw hc hxr hx0
  rw [hg0] at hB5
  obtain ⟨w1, w9, w10, w11⟩ := wait_at hBw.rf hc hxr
  rw [hg0] at w1 w9 w10 w11
  obtain ⟨G, hGd⟩ : ∃ G, G = up (up (up (m_markL r B c s) (697 + 38 * (c : Int) + 9) 1) (697 + 38 * (c : Int) + 11) (r 0)) (697 + 38 * (c : Int) + 10) (m_num r kl) := ⟨_, rfl⟩
  rw [← hGd] at hB5 w1
  have hGlo : ∀ j, (j < 97 ∨ 811 ≤ j) → G j = r j := fun j hj => by rw [w1 j (by omega) (by omega) (by omega)]; exact hlo j (by omega)
  have e0 : m_rel0 r B c s = m_cnt2 G 0 s := by
    unfold m_rel0 m_cnt2
    rw [if_pos rfl, Int.toNat_natCast, hGd]
    have z1 : (up (m_markL r B c s) (697 + 38 * (c : Int) + 9) 1) 0 = r 0 := by rw [up_n _ _ (by omega)]; exact hg0
    have z2 : m_num (up (up (m_markL r B c s) (697 + 38 * (c : Int) + 9) 1) (697 + 38 * (c : Int) + 11) (r 0)) (B ((s : Int) - 1)) = m_num r kl := by
      rw [hkl, num_keep (r := m_markL r B c s) (by rw [up_n _ _ (by omega), up_n _ _ (by omega)]) (by rw [up_n _ _ (by omega), up_n _ _ (by omega)])]
      exact num_keep (hlo 10 (by omega)) (hrw kl hklr).2
    simp only [z1, z2]
    rw [up_n (k := 6) (j := 8) _ _ (by decide)]
  obtain ⟨t1, t6, t8⟩ := cnt2_at G 0 s
  rw [if_pos rfl, hGlo 6 (by omega), wr_id ⟨by omega, by omega⟩] at t6
  rw [if_pos rfl, hGlo 8 (by omega), wr_id ⟨by omega, by omega⟩] at t8
  have e1 : m_num (m_rel0 r B c s) (B ((s : Int) - 1)) = m_num r kl := by
    rw [e0, hkl]
    rw [num_keep (r := r) (by rw [t1 10 (by decide) (by decide)]; exact hGlo 10 (by omega)) (by rw [t1 _ (by omega) (by omega), w1 _ (by omega) (by omega) (by omega)]; exact (hrw kl hklr).2)]
  have rH := rf_cnt2 hB5.rf 0 (s : Int)
  unfold m_rel1
  rw [e1, e0]
  generalize hHd : m_cnt2 G 0 (s : Int) = H at t1 t6 t8 rH ⊢
  have hlow : ∀ j, (j < 97 ∨ 811 ≤ j) → j ≠ 6 → j ≠ 8 → H j = r j := fun j hj h6 h8 => (t1 j h6 h8).trans (hGlo j hj)
  have hBH : IB H := ib_low hB5 rH (fun j _ _ _ _ h6 _ h8 => t1 j h6 h8) (by rw [hlow 9 (by omega) (by decide) (by decide)]; omega) (by rw [hlow 9 (by omega) (by decide) (by decide), hlow 5 (by omega) (by decide) (by decide), hlow 4 (by omega) (by decide) (by decide)]; omega) (by rw [t6, t8]; omega)
  have k0 := hlow 0 (by omega) (by decide) (by decide)
  have k2 := hlow 2 (by omega) (by decide) (by decide)
  have k9 := hlow 9 (by omega) (by decide) (by decide)
  have k11 := hlow 11 (by omega) (by decide) (by decide)
  have hHi : ∀ j, 811 ≤ j → H j = r j := fun j hj => hlow j (Or.inr hj) (by omega) (by omega)
  have hGH : IMeG H 1 c og := IMeG.keep hG k0 k2 k9 hHi
  have e3 : ∀ d : Nat, d < 3 → m_of H d 3 = m_of r d 3 := fun d hd => by
    unfold m_of
    rw [t1 _ (by omega) (by omega), w1 _ (by omega) (by omega) (by omega)]; exact hlo _ (by omega)
  have key := sends_mid (r := H) (b := B) (T := T) (lo := 1) (e := c) (e' := (c : Int) + 1) (D := D) (N := N) (mn := s) (kd := 0) (c := c) (gr := m_num r kl) (t := r 0) hBH hGH (by rw [k9]; exact hN) (by omega) hs8 (Or.inl rfl) ⟨by omega, by omega⟩ hxr hx0 (fun k hk => by rw [k2]; exact hbi k hk) (Int.le_refl _) (by omega) (by rw [k0]; exact Int.le_refl _) (fun _ => by rw [k0, k11]; omega) (by rw [k0, k11]; omega) (fun z => by omega) (fun _ => by omega) (fun n hn => by
    have := (hGH n (by omega)).2.1
    rw [k0] at this
    omega) (by rw [k0]; exact i0) (by rw [k0]; exact i1) (by rw [hlow 1 (by omega) (by decide) (by decide)]; exact i2) (by rw [k0, hlow 4 (by omega) (by decide) (by decide)]; exact i3) (by rw [k0, t6]; omega) (fun d hd => by rw [k0, e3 d hd]; have := i5 d hd; omega) hT hD ⟨by omega, by omega⟩
  have hTF : TF r H := ⟨fun j hj => hlow j (by omega) (by omega) (by omega), fun k hk => by
    unfold m_write
    rw [t1 _ (by omega) (by omega), w1 _ (by omega) (by omega) (by omega)]
    exact markL_off r B c k s⟩
  exact ⟨key.1, hTF.trans key.2.1, key.2.2.1.trans k0, key.2.2.2.1.trans (dc_keep k0 k9 hHi), fun d hd => (key.2.2.2.2 d hd).trans (e3 d hd)⟩
theorem relays_mid {r b : RW} {T D : Int} {c : Nat} (hM : Mid r T 1 c D) (hb : RF b) (hc : c < 3) (hT : T ≤ 2000000) (hD : 0 ≤ D ∧ D ≤ 60) : Mid (m_relays r b c) T 1 ((c : Int) + 1) (D + 1) ∧ TF r (m_relays r b c) ∧ m_relays r b c 0 = r 0 ∧ RelPre r c ∧ RF (m_relB r b c) ∧ m_eff (m_relays r b c) = m_eff r := by
  have hfew := hM.2.1.few hM.1.co.2.2.2.1 (Or.inr rfl) ⟨by omega, by omega⟩
  have b2 := hM.1.co.1
  have hse := hM.1.se.2.2.1
  have h9 := hM.1.co.2.2.2
  have hre := hM.1.re c hc
  have hIT := hM.2.2
  obtain ⟨⟨i0, i1⟩, i2, i3, i4, i5⟩ := hM.2.2
  have hRP : RelPre r c := ⟨b2, hse, ⟨h9.1, by omega⟩, ⟨by omega, by omega⟩⟩
  obtain ⟨rb, n0, n8, hbi⟩ := m_rel_facts (f := r) hb c b2 hse.2
  unfold m_relays
  split
  · rename_i q
    obtain ⟨s, hs⟩ : ∃ s : Nat, m_relN r b c = s := ⟨(m_relN r b c).toNat, by omega⟩
    rw [hs] at n8 hbi q ⊢
    have := rel1_mid (s := s) hM rb hc hT hD (by omega) (by omega) (fun k hk => hbi k (by omega) (by omega))
    exact ⟨this.1, this.2.1, this.2.2.1, hRP, rb, m_eff_same this.2.2.2.2⟩
  · refine ⟨⟨hM.1, ?_, ⟨i0, i1⟩, i2, by omega, by omega, fun d hd => by have := i5 d hd; omega⟩, TF.refl r, rfl, hRP, rb, rfl⟩
    obtain ⟨og, hG⟩ := hM.2.1
    exact ⟨og, fun n hn => ⟨(hG n hn).1, fun z => by have := (hG n hn).2.1 z; omega, (hG n hn).2.2⟩⟩
