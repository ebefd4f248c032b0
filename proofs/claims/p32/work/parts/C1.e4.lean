/-! ===== the relays: what they leave ===== -/
theorem Ew.same {r g : RW} {B : Int} (h : Ew r B) (hK : MK r) (h2 : r 2 ≤ 200) (h24 : ∀ c : Nat, c < 3 → m_of r c 2 ≤ 24) (e : ∀ j, (j = 2 ∨ j = 3 ∨ j = 7 ∨ j = 9 ∨ j = 10 ∨ (97 ≤ j ∧ j < 697) ∨ 811 ≤ j) → g j = r j) (em : ∀ (d : Nat) (x : Int), d < 3 → 1 ≤ x → x < 38 → x ≠ 4 → x ≠ 9 → x ≠ 10 → x ≠ 11 → m_of g d x = m_of r d x) : Ew g B := by
  obtain ⟨hC, hR, hM, h7⟩ := h
  refine ⟨fun d hd => ?_, hR.low h2 fun j hj => e j (by omega), hM.keep hK ⟨e 2 (by omega), fun k hk => ⟨num_keep (e 10 (by omega)) (e _ (by omega)), fun b _ z => by rw [mark_keep (r := r) (e _ (by omega))]; exact z⟩, fun c hc => by rw [em c 1 hc (by decide) (by decide) (by decide) (by decide) (by decide) (by decide)]; exact Int.le_refl _⟩ (e 9 (by omega)) fun j hj => e j (by omega), by rw [e 7 (by omega)]; exact h7⟩
  obtain ⟨e1, e2, e3, e4, e5, e6, e7⟩ := hC d hd
  have := h24 d hd
  unfold EC1
  rw [em d 1 hd (by decide) (by decide) (by decide) (by decide) (by decide) (by decide), em d 8 hd (by decide) (by decide) (by decide) (by decide) (by decide) (by decide), em d 6 hd (by decide) (by decide) (by decide) (by decide) (by decide) (by decide), em d 3 hd (by decide) (by decide) (by decide) (by decide) (by decide) (by decide), em d 7 hd (by decide) (by decide) (by decide) (by decide) (by decide) (by decide), em d 2 hd (by decide) (by decide) (by decide) (by decide) (by decide) (by decide), em d 5 hd (by decide) (by decide) (by decide) (by decide) (by decide) (by decide), em d 12 hd (by decide) (by decide) (by decide) (by decide) (by decide) (by decide), e 3 (by omega)]
  exact ⟨e1, e2, e3, e4, fun j hj => by rw [em d _ hd (by omega) (by omega) (by omega) (by omega) (by omega) (by omega)]; exact e5 j hj, e6, e7⟩
theorem markL_mark {r B : RW} (hB : IB r) {c : Nat} (hc : c < 3) : ∀ n : Nat, (∀ k : Nat, k < n → 0 ≤ B k ∧ B k < r 2) → ∀ (k b : Nat), (k : Int) < r 2 → b < 7 → (m_mark (m_markL r B c n) k b = true ↔ (m_mark r k b = true ∨ (b = 4 + c ∧ ∃ i : Nat, i < n ∧ B i = k))) := by
  intro n
  induction n with
  | zero => intro _ k b _ _; simp [m_markL]
  | succ n ih =>
    intro hb k b hk hb7
    have hi := ih (fun k hk => hb k (by omega)) k b hk hb7
    obtain ⟨m1, m2, m3⟩ := markL_at hB (B := B) hc n (fun k hk => hb k (by omega))
    have hbn := hb n (by omega)
    obtain ⟨K, hK⟩ : ∃ K : Nat, B n = K := ⟨(B n).toNat, by omega⟩
    simp only [m_markL]
    rw [hK]
    by_cases z : k = K
    · subst z
      have hx := (m1.ro k (by rw [m2 2 (by omega)]; exact hk)).2.2
      rw [mark_set (r := m_markL r B c n) (g := m_setm (m_markL r B c n) k (4 + (c : Int))) hx (show 4 + c < 7 by omega) hb7 (t := 4 + (c : Int)) (by omega) (setm_at m1.rf k (4 + (c : Int))).2, hi]
      constructor
      · rintro (y | y | ⟨y, i, h1, h2⟩)
        · exact Or.inr ⟨y, n, by omega, hK⟩
        · exact Or.inl y
        · exact Or.inr ⟨y, i, by omega, h2⟩
      · rintro (y | ⟨y, -⟩)
        · exact Or.inr (Or.inl y)
        · exact Or.inl y
    · rw [mark_keep (r := m_markL r B c n) ((setm_at m1.rf K (4 + (c : Int))).1 _ (by omega)), hi]
      constructor
      · rintro (y | ⟨y, i, h1, h2⟩)
        · exact Or.inl y
        · exact Or.inr ⟨y, i, by omega, h2⟩
      · rintro (y | ⟨y, i, h1, h2⟩)
        · exact Or.inl y
        · refine Or.inr ⟨y, i, ?_, h2⟩
          rcases Nat.lt_or_ge i n with w | w
          · exact w
          · have : i = n := by omega
            subst this
            rw [hK] at h2; omega
theorem gat_rise (f : RW) (c : Int) (h2 : 0 ≤ f 2 ∧ f 2 ≤ 200) : ∀ (s : Nat) (a n : Int) (b : RW), 0 ≤ n → (∀ i : Int, 0 ≤ i → i < n → m_num f (b i) ≤ a) → (∀ i j : Int, 0 ≤ i → i < j → j < n → m_num f (b i) < m_num f (b j)) → ∀ i j : Int, 0 ≤ i → i < j → j < (m_gat f c s a n b).1 → m_num f ((m_gat f c s a n b).2 i) < m_num f ((m_gat f c s a n b).2 j) := by
  intro s
  induction s with
  | zero => intro a n b _ _ h; exact h
  | succ s ih =>
    intro a n b h0 h1 h
    have hx := m_next_rg f a h2.1
    simp only [m_gat]
    split
    · exact h
    · rename_i q
      have q1 : m_next f a ≠ -1 := fun e => q (Or.inl e)
      have q2 := (m_next_spec f a q1).1
      split
      · refine ih (m_num f (m_next f a)) (n + 1) (up b n (m_next f a)) (by omega) (fun i i0 i1 => ?_) (fun i j i0 hij hj => ?_)
        · by_cases z : i = n
          · subst z; rw [up_s, wr_id ⟨by omega, by omega⟩]; exact Int.le_refl _
          · rw [up_n _ _ z]; have := h1 i i0 (by omega); omega
        · rw [up_n _ _ (show i ≠ n by omega)]
          by_cases z : j = n
          · subst z; rw [up_s, wr_id ⟨by omega, by omega⟩]; have := h1 i i0 hij; omega
          · rw [up_n _ _ z]; exact h i j i0 hij (by omega)
      · exact ih (m_num f (m_next f a)) n b h0 (fun i i0 i1 => by have := h1 i i0 i1; omega) h
def RlS (r g : RW) (k : Int) : Prop := (∀ d : Nat, d < 3 → m_of g d 1 = m_of r d 1 ∧ m_of g d 3 = m_of r d 3 ∧ m_of g d 5 = m_of r d 5 ∧ m_of g d 8 = m_of r d 8) ∧ g 7 = r 7 ∧ g 4 - g 6 = r 4 - r 6 ∧ g 9 + g 5 - g 4 = r 9 + r 5 - r 4 ∧ r 6 ≤ g 6 ∧ g 6 ≤ r 6 + k
theorem RlS.trans {r g h : RW} {k l : Int} (a : RlS r g k) (b : RlS g h l) : RlS r h (k + l) := by
  obtain ⟨a1, a2, a3, a4, a5, a6⟩ := a
  obtain ⟨b1, b2, b3, b4, b5, b6⟩ := b
  refine ⟨fun d hd => ?_, by omega, by omega, by omega, by omega, by omega⟩
  have := a1 d hd
  have := b1 d hd
  exact ⟨by omega, by omega, by omega, by omega⟩
theorem rel1_e {r B : RW} {T D Q : Int} {c s : Nat} (hM : Mid r T 1 c D) (hE : Ew r Q) (rb : RF B) (hc : c < 3) (hT : T ≤ 2000000) (hD : 0 ≤ D ∧ D ≤ 60) (hs0 : 0 < s) (hs8 : s ≤ 8) (hbi : ∀ k : Nat, k < s → 0 ≤ B k ∧ B k < r 2) (hri : ∀ i j : Nat, i < j → j < s → m_num r (B i) < m_num r (B j)) : Ew (m_rel1 r B c s) Q ∧ RlS r (m_rel1 r B c s) 1 := by
  have hfew := hM.2.1.few hM.1.co.2.2.2.1 (Or.inr rfl) ⟨by omega, by omega⟩
  obtain ⟨hB, ⟨og, hG⟩, ⟨⟨i0, i1⟩, i2, i3, i4, i5⟩⟩ := hM
  have hK : MK r := IMe.mk ⟨og, hG⟩
  have rf := hB.rf
  have b2 := hB.co.1
  have h9 := hB.co.2.2.2
  have h24 : ∀ c : Nat, c < 3 → m_of r c 2 ≤ 24 := fun c hc => by have := (hB.re c hc).2.2.1; omega
  obtain ⟨hC, hR, hMs, h7⟩ := hE
  obtain ⟨N, hN⟩ : ∃ N : Nat, r 9 = N := ⟨(r 9).toNat, by omega⟩
  obtain ⟨hBw, hlo, hrw⟩ := markL_at hB (B := B) hc s hbi
  have hmk := markL_mark hB (B := B) hc s hbi
  obtain ⟨kl, hkl⟩ : ∃ kl : Nat, B ((s : Int) - 1) = kl := ⟨(B ((s : Int) - 1)).toNat, by
    have := hbi (s - 1) (by omega)
    rw [show ((s - 1 : Nat) : Int) = (s : Int) - 1 by omega] at this
    omega⟩
  have hkl1 : B ((s - 1 : Nat) : Int) = kl := by rw [show ((s - 1 : Nat) : Int) = (s : Int) - 1 by omega]; exact hkl
  have hklr : (kl : Int) < r 2 := by
    have := hbi (s - 1) (by omega)
    rw [hkl1] at this; exact this.2
  have hxr : rg (m_num r kl) := num_rg rf hB.ro hklr
  have hx0 : 0 ≤ m_num r kl := num_pos hB.ro hklr
  have hnp : ∀ k : Nat, k < s → 0 ≤ m_num r (B k) := fun k hk => by
    obtain ⟨K, hK⟩ : ∃ K : Nat, B k = K := ⟨(B k).toNat, by have := hbi k hk; omega⟩
    have := hbi k hk
    rw [hK] at this ⊢
    exact num_pos hB.ro this.2
  have hri2 : ∀ i : Nat, i < s → (i : Int) ≤ m_num r (B i) := fun i => by
    induction i with
    | zero => intro hi; have := hnp 0 hi; omega
    | succ i ih => intro hi; have := ih (by omega); have := hri i (i + 1) (by omega) hi; omega
  have hle : ∀ k : Nat, k < s → m_num r (B k) ≤ m_num r kl := fun k hk => by
    rw [← hkl1]
    rcases Nat.lt_or_ge k (s - 1) with z | z
    · exact Int.le_of_lt (hri k (s - 1) z (by omega))
    · rw [show k = s - 1 by omega]; exact Int.le_refl _
  -- the marks
  have hGW : Gr r (m_markL r B c s) := ⟨hlo 2 (by omega), fun k hk => ⟨num_keep (hlo 10 (by omega)) (hrw k hk).2, fun b hb z => (hmk k b hk hb).mpr (Or.inl z)⟩, fun d hd => by unfold m_of; rw [hlo _ (by omega)]; exact Int.le_refl _⟩
  have hEW : Ew (m_markL r B c s) Q := by
    refine ⟨hC.low h24 fun j hj => hlo j (by omega), fun k hk d hd z => ?_, hMs.keep hK hGW (hlo 9 (by omega)) fun j hj => hlo j (by omega), by rw [hlo 7 (by omega)]; exact h7⟩
    rw [hlo 2 (by omega)] at hk
    rw [show (1 + (d : Int)) = ((1 + d : Nat) : Int) by omega, hmk k (1 + d) hk (by omega)] at z
    rcases z with z | ⟨z, -⟩
    · have := hR k hk d hd (by rw [show (1 + (d : Int)) = ((1 + d : Nat) : Int) by omega]; exact z)
      rw [show (4 + (d : Int)) = ((4 + d : Nat) : Int) by omega] at this ⊢
      exact (hmk k (4 + d) hk (by omega)).mpr (Or.inl this)
    · omega
  have hKW : MK (m_markL r B c s) := IMe.mk ⟨og, IMeG.keep hG (hlo 0 (by omega)) (hlo 2 (by omega)) (hlo 9 (by omega)) fun j hj => hlo j (by omega)⟩
  have hg0 : m_markL r B c s 0 = r 0 := hlo 0 (by omega)
  have hB5 := ib_wait hBw hc hxr hx0
  rw [hg0] at hB5
  obtain ⟨w1, w9, w10, w11⟩ := wait_at hBw.rf hc hxr
  rw [hg0] at w1 w9 w10 w11
  obtain ⟨G, hGd⟩ : ∃ G, G = up (up (up (m_markL r B c s) (697 + 38 * (c : Int) + 9) 1) (697 + 38 * (c : Int) + 11) (r 0)) (697 + 38 * (c : Int) + 10) (m_num r kl) := ⟨_, rfl⟩
  rw [← hGd] at hB5 w1
  have hGlo : ∀ j, (j < 97 ∨ 811 ≤ j) → G j = r j := fun j hj => by rw [w1 j (by omega) (by omega) (by omega)]; exact hlo j (by omega)
  have e0 : m_rel0 r B c s = m_cnt2 G 0 s := by
    unfold m_rel0 m_cnt2
    rw [if_pos rfl, Int.toNat_natCast, hGd]
    have z1 : (up (m_markL r B c s) (697 + 38 * (c : Int) + 9) 1) 0 = r 0 := by rw [up_n _ _ (by omega)]; exact hg0
    have z2 : m_num (up (up (m_markL r B c s) (697 + 38 * (c : Int) + 9) 1) (697 + 38 * (c : Int) + 11) (r 0)) (B ((s : Int) - 1)) = m_num r kl := by
      rw [hkl, num_keep (r := m_markL r B c s) (by rw [up_n _ _ (by omega), up_n _ _ (by omega)]) (by rw [up_n _ _ (by omega), up_n _ _ (by omega)])]
      exact num_keep (hlo 10 (by omega)) (hrw kl hklr).2
    simp only [z1, z2]
    rw [up_n (k := 6) (j := 8) _ _ (by decide)]
  obtain ⟨t1, t6, t8⟩ := cnt2_at G 0 s
  rw [if_pos rfl, hGlo 6 (by omega), wr_id ⟨by omega, by omega⟩] at t6
  rw [if_pos rfl, hGlo 8 (by omega), wr_id ⟨by omega, by omega⟩] at t8
  have e1 : m_num (m_rel0 r B c s) (B ((s : Int) - 1)) = m_num r kl := by
    rw [e0, hkl]
    rw [num_keep (r := r) (by rw [t1 10 (by decide) (by decide)]; exact hGlo 10 (by omega)) (by rw [t1 _ (by omega) (by omega), w1 _ (by omega) (by omega) (by omega)]; exact (hrw kl hklr).2)]
  have rH := rf_cnt2 hB5.rf 0 (s : Int)
  unfold m_rel1
  rw [e1, e0]
  have hHW : ∀ j, j ≠ 6 → j ≠ 8 → j ≠ 697 + 38 * (c : Int) + 9 → j ≠ 697 + 38 * (c : Int) + 10 → j ≠ 697 + 38 * (c : Int) + 11 → m_cnt2 G 0 (s : Int) j = m_markL r B c s j := fun j h6 h8 h9 h10 h11 => (t1 j h6 h8).trans (w1 j h9 h10 h11)
  generalize hHd : m_cnt2 G 0 (s : Int) = H at t1 t6 t8 rH hHW ⊢
  generalize m_markL r B c s = W at hBw hlo hrw hmk hGW hEW hKW hHW
  have hlow : ∀ j, (j < 97 ∨ 811 ≤ j) → j ≠ 6 → j ≠ 8 → H j = r j := fun j hj h6 h8 => (hHW j h6 h8 (by omega) (by omega) (by omega)).trans (hlo j (by omega))
  have hBH : IB H := ib_low hB5 rH (fun j _ _ _ _ h6 _ h8 => t1 j h6 h8) (by rw [hlow 9 (by omega) (by decide) (by decide)]; omega) (by rw [hlow 9 (by omega) (by decide) (by decide), hlow 5 (by omega) (by decide) (by decide), hlow 4 (by omega) (by decide) (by decide)]; omega) (by rw [t6, t8]; omega)
  have k0 := hlow 0 (by omega) (by decide) (by decide)
  have k2 := hlow 2 (by omega) (by decide) (by decide)
  have k9 := hlow 9 (by omega) (by decide) (by decide)
  have hHi : ∀ j, 811 ≤ j → H j = r j := fun j hj => hlow j (Or.inr hj) (by omega) (by omega)
  have hKH : MK H := IMe.mk ⟨og, IMeG.keep hG k0 k2 k9 hHi⟩
  have hmo : ∀ (d : Nat) (x : Int), d < 3 → 0 ≤ x → x < 38 → x ≠ 9 → x ≠ 10 → x ≠ 11 → m_of H d x = m_of W d x := fun d x hd h0 h1 h9 h10 h11 => by
    unfold m_of; exact hHW _ (by omega) (by omega) (by omega) (by omega) (by omega)
  have hW24 : ∀ c : Nat, c < 3 → m_of W c 2 ≤ 24 := fun c hc => by have := (hBw.re c hc).2.2.1; omega
  have hEH : Ew H Q := hEW.same hKW (by rw [hlo 2 (by omega)]; exact b2.2) hW24 (fun j hj => hHW j (by omega) (by omega) (by omega) (by omega) (by omega)) (fun d x hd h1 h2 _ h9 h10 h11 => hmo d x hd (by omega) h2 h9 h10 h11)
  have hrow : ∀ k : Nat, k < s → m_mark H (B k) (4 + c) = true ∧ m_num H (B k) = m_num r (B k) := fun k hk => by
    have hb := hbi k hk
    obtain ⟨K, hKk⟩ : ∃ K : Nat, B k = K := ⟨(B k).toNat, by omega⟩
    rw [hKk] at hb ⊢
    refine ⟨?_, ?_⟩
    · rw [mark_keep (r := W) (hHW _ (by omega) (by omega) (by omega) (by omega) (by omega)), show (4 + (c : Int)) = ((4 + c : Nat) : Int) by omega]
      exact (hmk K (4 + c) hb.2 (by omega)).mpr (Or.inr ⟨rfl, k, hk, hKk⟩)
    · rw [num_keep (r := W) (hHW _ (by omega) (by omega) (by omega) (by omega) (by omega)) (hHW _ (by omega) (by omega) (by omega) (by omega) (by omega))]
      exact (hGW.2.1 K hb.2).1
  obtain ⟨z1, z2, z3, z4, z5⟩ := sends_e (b := B) (mn := s) (kd := 0) (c := c) (gr := m_num r kl) hBH hKH hEH (N := N) (by rw [k9]; exact hN) (by omega) hs8 (Or.inl rfl) ⟨by omega, by omega⟩ hxr (fun k hk => by rw [k2]; exact hbi k hk) (by rw [hlow 4 (by omega) (by decide) (by decide)]; omega) (by rw [k0]; omega) (fun _ => ⟨hs0, by
    have := hri2 (s - 1) (by omega)
    rw [hkl1] at this; omega, fun k hk => ⟨(hrow k hk).1, by rw [(hrow k hk).2]; exact hle k hk⟩, s - 1, by omega, by rw [(hrow (s - 1) (by omega)).2, hkl1]⟩) (fun z => by omega)
  rw [hlow 4 (by omega) (by decide) (by decide)] at z3
  rw [k9, hlow 5 (by omega) (by decide) (by decide)] at z4
  have z6 := z5 6 (by decide) (by decide) (by decide) (by decide)
  have z7 := z5 7 (by decide) (by decide) (by decide) (by decide)
  rw [hlow 7 (by omega) (by decide) (by decide)] at z7
  refine ⟨z1, fun d hd => ?_, z7, by omega, by omega, by omega, by omega⟩
  have key : ∀ x : Int, 0 ≤ x → x < 9 → m_of (m_sends H B 0 (c : Int) (s : Int) (m_num r kl)) d x = m_of r d x := fun x h0 h1 => by
    have a1 : m_of (m_sends H B 0 (c : Int) (s : Int) (m_num r kl)) d x = m_of H d x := by unfold m_of; exact z5 _ (by omega) (by omega) (by omega) (by omega)
    rw [a1, hmo d x hd h0 (by omega) (by omega) (by omega) (by omega)]
    unfold m_of; exact hlo _ (by omega)
  exact ⟨key 1 (by decide) (by decide), key 3 (by decide) (by decide), key 5 (by decide) (by decide), key 8 (by decide) (by decide)⟩
theorem relays_e {r b : RW} {T D Q : Int} {c : Nat} (hM : Mid r T 1 c D) (hE : Ew r Q) (hb : RF b) (hc : c < 3) (hT : T ≤ 2000000) (hD : 0 ≤ D ∧ D ≤ 60) : Ew (m_relays r b c) Q ∧ RlS r (m_relays r b c) 1 := by
  have b2 := hM.1.co.1
  have hse := hM.1.se.2.2.1
  obtain ⟨rb, n0, n8, hbi⟩ := m_rel_facts (f := r) hb c b2 hse.2
  unfold m_relays
  split
  · rename_i q
    have hri : ∀ i j : Int, 0 ≤ i → i < j → j < m_relN r b c → m_num r ((m_relB r b c) i) < m_num r ((m_relB r b c) j) := by
      unfold m_relN m_relB
      split
      · exact gat_rise r c b2 201 (m_of r c 8) 0 b (by decide) (fun i h0 h1 => by omega) (fun i j h0 h1 h2 => by omega)
      · intro i j h0 h1 h2; omega
    obtain ⟨s, hs⟩ : ∃ s : Nat, m_relN r b c = s := ⟨(m_relN r b c).toNat, by omega⟩
    rw [hs] at n8 hbi q hri ⊢
    exact rel1_e hM hE rb hc hT hD (by omega) (by omega) (fun k hk => hbi k (by omega) (by omega)) (fun i j hij hj => hri i j (by omega) (by omega) (by omega))
  · exact ⟨hE, fun d hd => ⟨rfl, rfl, rfl, rfl⟩, rfl, rfl, rfl, Int.le_refl _, by omega⟩
