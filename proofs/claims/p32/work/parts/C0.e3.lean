/-! ===== what is sent, taken off, answered ===== -/
theorem Gr.low {r g : RW} (h2 : r 2 ≤ 200) (e : ∀ j, (j = 2 ∨ j = 10 ∨ (97 ≤ j ∧ j < 811)) → g j = r j) : Gr r g :=
  ⟨e 2 (by omega), fun k hk => ⟨num_keep (e 10 (by omega)) (e _ (by omega)), fun b _ z => by rw [mark_keep (r := r) (e _ (by omega))]; exact z⟩, fun c hc => by unfold m_of; rw [e _ (by omega)]; exact Int.le_refl _⟩
theorem EC.low {r g : RW} {B : Int} (h : EC r B) (h2 : ∀ c : Nat, c < 3 → m_of r c 2 ≤ 24) (e : ∀ j, (j = 3 ∨ (697 ≤ j ∧ j < 811)) → g j = r j) : EC g B := fun c hc => by
  have eo : ∀ x : Int, 0 ≤ x → x < 38 → m_of g c x = m_of r c x := fun x h0 h1 => by unfold m_of; exact e _ (by omega)
  obtain ⟨a1, a2, a3, a4, a5, a6, a7⟩ := h c hc
  have := h2 c hc
  unfold EC1
  rw [eo 8 (by decide) (by decide), eo 1 (by decide) (by decide), eo 6 (by decide) (by decide), eo 3 (by decide) (by decide), eo 7 (by decide) (by decide), eo 2 (by decide) (by decide), eo 5 (by decide) (by decide), eo 12 (by decide) (by decide), e 3 (by omega)]
  exact ⟨a1, a2, a3, a4, fun j hj => by rw [eo _ (by omega) (by omega)]; exact a5 j hj, a6, a7⟩
theorem EC.more {r : RW} {B B1 : Int} (h : EC r B) (hb : B ≤ B1) : EC r B1 := fun c hc => by
  obtain ⟨a1, a2, a3, a4, a5, a6, a7⟩ := h c hc
  exact ⟨a1, a2, a3, a4, a5, ⟨a6.1, by omega⟩, a7⟩
theorem Ew.more {r : RW} {B B1 : Int} (h : Ew r B) (hb : B ≤ B1) : Ew r B1 := ⟨h.1.more hb, h.2.1, h.2.2.1, h.2.2.2.1, by have := h.2.2.2.2; omega⟩
theorem ER.low {r g : RW} (h : ER r) (h2 : r 2 ≤ 200) (e : ∀ j, (j = 2 ∨ (97 ≤ j ∧ j < 697)) → g j = r j) : ER g := fun k hk c hc z => by
  rw [e 2 (by omega)] at hk
  rw [mark_keep (r := r) (e _ (by omega))] at z ⊢
  exact h k hk c hc z
theorem EMs.off {r : RW} {N n : Nat} (h : EMs r) (hK : MK r) (h2 : r 2 ≤ 200) (hN : r 9 = N) (hn : n < N) (hN2 : N ≤ 60) : EMs (m_takeOff r n) := fun k hk => by
  obtain ⟨t1, t9, t3⟩ := takeOff_at hN hn hN2
  rw [t9] at hk
  obtain ⟨k1, k2, k3, k4, k5, k6⟩ := hK (if k < n then k else k + 1) (by split <;> omega)
  exact (h (if k < n then k else k + 1) (by split <;> omega)).as (Gr.low h2 fun j hj => t1 j (by omega) (by omega)) k2 k3.2 k5 (fun x x0 x1 => t3 k (by omega) x x0 x1)
/-- a message is sent -/
theorem sends_e {r b : RW} {B : Int} {N mn : Nat} {kd c gr : Int} (hB : IB r) (hK : MK r) (hE : Ew r B) (hN : r 9 = N) (hN2 : N ≤ 53) (hmn : mn ≤ 8) (hkd : kd = 0 ∨ kd = 1) (hc : 0 ≤ c ∧ c ≤ 2) (hgr : rg gr) (hb : ∀ k : Nat, k < mn → 0 ≤ b k ∧ b k < r 2) (h4 : r 4 ≤ 1000000000) (h0 : 0 ≤ r 0 ∧ r 0 ≤ 2000000) (hn0 : kd = 0 → 1 ≤ mn ∧ (mn : Int) - 1 ≤ gr ∧ (∀ k : Nat, k < mn → m_mark r (b k) (4 + c) = true ∧ m_num r (b k) ≤ gr) ∧ ∃ k : Nat, k < mn ∧ m_num r (b k) = gr) (hn1 : kd = 1 → gr ≤ m_of r c 1) : Ew (m_sends r b kd c mn gr) B ∧ (∀ φ, dSum (m_sends r b kd c mn gr) φ = dSum r φ) ∧ m_sends r b kd c mn gr 4 = r 4 + 1 ∧ m_sends r b kd c mn gr 9 + m_sends r b kd c mn gr 5 = r 9 + r 5 + 1 ∧ ∀ j, j < 811 → j ≠ 4 → j ≠ 5 → j ≠ 9 → m_sends r b kd c mn gr j = r j := by
  have b2 := hB.co.1
  have hcc := hB.co.2.2.2
  have hse := hB.se.2.1
  obtain ⟨s1, s2⟩ := sends_at (b := b) hB.rf hN (by omega) hmn (show rg kd by rcases hkd with z | z <;> rw [z] <;> exact ⟨by decide, by decide⟩) (show rg c from ⟨by omega, by omega⟩) hgr (fun k hk => by have := hb k hk; omega)
  have hw4 : wr (r 4 + 1) = r 4 + 1 := wr_id ⟨by omega, by omega⟩
  have h24 : ∀ c : Nat, c < 3 → m_of r c 2 ≤ 24 := fun c hc => by have := (hB.re c hc).2.2.1; omega
  obtain ⟨hC, hR, hM, h7⟩ := hE
  by_cases hl : m_isLost r
  · rw [s1 hl]
    have e4 : (up (up r 4 (r 4 + 1)) 5 (r 5 + 1)) 4 = r 4 + 1 := by rw [up_n _ _ (by decide), up_s, hw4]
    have e5 : (up (up r 4 (r 4 + 1)) 5 (r 5 + 1)) 5 = r 5 + 1 := by rw [up_s]; exact wr_id ⟨by omega, by omega⟩
    have eo : ∀ j, j ≠ 4 → j ≠ 5 → (up (up r 4 (r 4 + 1)) 5 (r 5 + 1)) j = r j := fun j h1 h2 => by rw [up_n _ _ h2, up_n _ _ h1]
    generalize up (up r 4 (r 4 + 1)) 5 (r 5 + 1) = g at e4 e5 eo ⊢
    refine ⟨⟨hC.low h24 fun j hj => eo j (by omega) (by omega), hR.low b2.2 fun j hj => eo j (by omega) (by omega), hM.keep hK (Gr.low b2.2 fun j hj => eo j (by omega) (by omega)) (eo 9 (by decide) (by decide)) fun j hj => eo j (by omega) (by omega), by rw [eo 7 (by decide) (by decide)]; exact h7⟩, ds_keep (eo 0 (by decide) (by decide)) (eo 9 (by decide) (by decide)) fun j hj => eo j (by omega) (by omega), e4, by rw [e5, eo 9 (by decide) (by decide)]; omega, fun j _ h4 h5 _ => eo j h4 h5⟩
  · obtain ⟨g1, g4, g9, w0, w1, w2, w3, w4, w5⟩ := s2 hl
    rw [hw4] at g4
    rw [wr_id (show rg (r 0 + r 11) from ⟨by omega, by omega⟩)] at w2
    generalize m_sends r b kd c mn gr = g at g1 g4 g9 w0 w1 w2 w3 w4 w5 ⊢
    have hway : ∀ n : Nat, n < N → ∀ x : Int, 0 ≤ x → x ≤ 6 → m_way g n x = m_way r n x := fun n hn x h0 h1 => by
      unfold m_way; rw [g1 _ (by omega) (by omega) (by omega)]
    have eo : ∀ j, j < 811 → j ≠ 4 → j ≠ 9 → g j = r j := fun j h h4 h9 => g1 j h4 h9 (by omega)
    have hG : Gr r g := Gr.low b2.2 fun j hj => eo j (by omega) (by omega) (by omega)
    refine ⟨⟨hC.low h24 fun j hj => eo j (by omega) (by omega) (by omega), hR.low b2.2 fun j hj => eo j (by omega) (by omega) (by omega), fun n hn => ?_, by rw [eo 7 (by decide) (by decide) (by decide)]; exact h7⟩, ds_add hN g9 (eo 0 (by decide) (by decide) (by decide)) hway (by rw [w2]; omega), g4, by rw [g9, eo 5 (by decide) (by decide) (by decide)]; omega, fun j h h4 _ h9 => eo j h h4 h9⟩
    rw [g9] at hn
    by_cases q : n < N
    · obtain ⟨k1, k2, k3, k4, k5, k6⟩ := hK n (by omega)
      exact (hM n (by omega)).as hG k2 k3.2 k5 (hway n q)
    · have en : n = N := by omega
      subst en
      unfold EM1
      rw [w0, w1, w3, w4]
      have fm : ∀ k : Nat, k < mn → ∀ x : Int, m_mark g (b k) x = m_mark r (b k) x := fun k hk x => mark_keep (eo _ (by have := hb k hk; omega) (by have := hb k hk; omega) (by have := hb k hk; omega))
      have fn : ∀ k : Nat, k < mn → m_num g (b k) = m_num r (b k) := fun k hk => num_keep (eo 10 (by decide) (by decide) (by decide)) (eo _ (by have := hb k hk; omega) (by have := hb k hk; omega) (by have := hb k hk; omega))
      refine ⟨fun z => ?_, fun z => ?_⟩
      · obtain ⟨a1, a2, a3, k, hk, a4⟩ := hn0 z
        refine ⟨by omega, a2, fun k hk => ?_, k, by omega, ?_⟩
        · rw [w5 k (by omega), fm k (by omega), fn k (by omega)]; exact a3 k (by omega)
        · rw [w5 k hk, fn k hk]; exact a4
      · have := hn1 z
        unfold m_of at this ⊢
        rw [eo _ (by omega) (by omega) (by omega)]; exact this
/-- an answer comes -/
theorem ansR_e {g : RW} {B : Int} (hB : IB g) (hK : MK g) (hE : Ew g B) {c : Nat} (hc : c < 3) {x : Int} (hx : rg x) (hx1 : x ≤ m_of g c 1) (hB9 : B ≤ 1000000000) : Ew (m_ansR g c x) (B + 1) := by
  obtain ⟨a1, a7, a8, a9⟩ := ansR_at hB.rf hc hx
  have b2 := hB.co.1
  obtain ⟨hC, hR, hM, h7⟩ := hE
  rw [wr_id ⟨by omega, by omega⟩] at a7
  generalize m_ansR g c x = h at a1 a7 a8 a9 ⊢
  have eo : ∀ j, j ≠ 7 → (j < 697 ∨ 811 ≤ j) → h j = g j := fun j h7 hj => a1 j h7 (by omega) (by omega)
  have em : ∀ (d : Nat) (y : Int), d < 3 → 0 ≤ y → y < 38 → y ≠ 8 → y ≠ 9 → m_of h d y = m_of g d y := fun d y hd h0 h1 h8 h9 => by unfold m_of; exact a1 _ (by omega) (by omega) (by omega)
  have eG : Gr g h := ⟨eo 2 (by decide) (by omega), fun k hk => ⟨num_keep (eo 10 (by decide) (by omega)) (eo _ (by omega) (by omega)), fun b _ z => by rw [mark_keep (r := g) (eo _ (by omega) (by omega))]; exact z⟩, fun d hd => by rw [em d 1 hd (by decide) (by decide) (by decide) (by decide)]; exact Int.le_refl _⟩
  refine ⟨fun d hd => ?_, hR.low b2.2 fun j hj => eo j (by omega) (by omega), hM.keep hK eG (eo 9 (by decide) (by omega)) fun j hj => eo j (by omega) (by omega), by omega⟩
  obtain ⟨e1, e2, e3, e4, e5, e6, e7⟩ := hC d hd
  have := (hB.re d hd).2.2.1
  unfold EC1
  rw [em d 1 hd (by decide) (by decide) (by decide) (by decide), em d 6 hd (by decide) (by decide) (by decide) (by decide), em d 3 hd (by decide) (by decide) (by decide) (by decide), em d 7 hd (by decide) (by decide) (by decide) (by decide), em d 2 hd (by decide) (by decide) (by decide) (by decide), em d 5 hd (by decide) (by decide) (by decide) (by decide), em d 12 hd (by decide) (by decide) (by decide) (by decide), eo 3 (by decide) (by omega)]
  refine ⟨?_, e2, e3, e4, fun j hj => by rw [em d _ hd (by omega) (by omega) (by omega) (by omega)]; exact e5 j hj, by omega, e7⟩
  by_cases z : d = c
  · subst z; rw [a8]; split <;> omega
  · have : m_of h d 8 = m_of g d 8 := by unfold m_of; exact a1 _ (by omega) (by omega) (by omega)
    rw [this]; exact e1
/-! ===== the first due message comes: what it leaves ===== -/
def StS (r g : RW) (n : Nat) : Prop := (∀ d : Nat, d < 3 → m_of g d 1 = if m_way r n 0 = 0 ∧ m_way r n 1 = d then (if m_way r n 4 ≤ m_of r d 1 then m_of r d 1 else m_way r n 4) else m_of r d 1) ∧ (∀ d : Nat, d < 3 → m_of g d 8 = if m_way r n 0 = 1 ∧ m_way r n 1 = d then (if m_way r n 4 ≤ m_of r d 8 then m_of r d 8 else m_way r n 4) else m_of r d 8) ∧ (∀ d : Nat, d < 3 → m_of g d 3 + m_of g d 5 = m_of r d 3 + m_of r d 5 + if m_way r n 0 = 0 ∧ m_way r n 1 = d then m_way r n 3 else 0) ∧ (g 7 = r 7 + (if m_way r n 0 = 1 then 1 else 0) ∧ g 4 = r 4 + (if m_way r n 0 = 0 then 1 else 0) ∧ g 6 = r 6 ∧ g 9 + g 5 - g 4 = r 9 + r 5 - r 4 - 1) ∧ ∀ φ, dSum g φ = dSum r φ - φ (m_way r n 0) (m_way r n 1) (m_way r n 3) (m_way r n 4)
theorem step_e {r b : RW} {T D B : Int} {N n : Nat} (hM : Mid r T 0 0 D) (hE : Ew r B) (hN : r 9 = N) (hm : LexMin r N n) (hd : m_way r n 2 ≤ r 0) (hT : T ≤ 2000000) (hD : 0 ≤ D ∧ D ≤ 60) (hB9 : B ≤ 1000000) : Ew (m_stepN r b n) (B + 8) ∧ StS r (m_stepN r b n) n := by
  obtain ⟨hB, ⟨og, hG⟩, hI⟩ := hM
  have hMK : MK r := IMe.mk ⟨og, hG⟩
  have hnN := hm.1
  have h54 := hB.ni
  have b2 := hB.co.1
  have hcc := hB.co.2.2.2
  obtain ⟨hkd, hwh, hln, hgr, hrw, hz⟩ := hMK n (by omega)
  obtain ⟨hC, hR, hMs, h7⟩ := id hE
  obtain ⟨em0, em1⟩ := hMs n (by omega)
  obtain ⟨c, hcw⟩ : ∃ c : Nat, m_way r n 1 = c := ⟨(m_way r n 1).toNat, by omega⟩
  have hc : c < 3 := by omega
  obtain ⟨L, hL⟩ : ∃ L : Nat, m_way r n 3 = L := ⟨(m_way r n 3).toNat, by omega⟩
  have hgrr : rg (m_way r n 4) := rg_way hB.rf _ _
  have h24 : ∀ c : Nat, c < 3 → m_of r c 2 ≤ 24 := fun c hc => by have := (hB.re c hc).2.2.1; omega
  obtain ⟨⟨i0, i1⟩, i2, i3, i4, i5⟩ := hI
  unfold StS
  rw [hcw, hL] at em0
  rw [hcw] at em1
  rw [hcw, hL]
  by_cases q : m_way r n 0 = 0
  · obtain ⟨m1, m2, m3, mk, hmk, m4⟩ := em0 q
    have h3c := i5 c hc
    have hbc := bc_e hB hC hR (n := n) hc (L := L) (by omega) (fun k hk => hrw k (by omega)) (fun k hk => (m3 k (by omega)).1) (by omega) (by omega) L (Nat.le_refl _)
    obtain ⟨p1, p2, p3, ⟨p4, p5, p6⟩, p7, p8⟩ := hbc
    obtain ⟨l1, l2, l3, l4, -⟩ := bcL_at hB (n := n) hc (L := L) (by omega) (fun k hk => hrw k (by omega)) L (Nat.le_refl _)
    have lw := fun j (hj : 811 ≤ j) => l2 j (Or.inr hj)
    have hst : m_stepN r b n = m_sends (m_takeOff (m_bcL r n c L) n) b 1 c ((0 : Nat) : Int) (m_way r n 4) := by
      unfold m_stepN; rw [if_pos q]; exact batch_is hcw hL lw
    rw [hst]
    have hmax : m_of (m_bcL r n c L) c 1 = if m_way r n 4 ≤ m_of r c 1 then m_of r c 1 else m_way r n 4 := by
      have hge : m_way r n 4 ≤ m_of (m_bcL r n c L) c 1 := by have := p5 mk (by omega); omega
      rcases p6 with y | ⟨i, hi, y⟩
      · rw [if_pos (by omega)]; exact y
      · have := (m3 i (by omega)).2
        by_cases z : m_way r n 4 ≤ m_of r c 1
        · rw [if_pos z]; omega
        · rw [if_neg z]; omega
    have l8 : ∀ d : Nat, d < 3 → m_of (m_bcL r n c L) d 8 = m_of r d 8 := fun d hd => (l3 d hd).1
    have hN0 : m_bcL r n c L 9 = N := by rw [l2 9 (by omega)]; exact hN
    have hG0 : IMeG (m_bcL r n c L) 0 0 og := IMeG.keep hG (l2 0 (by omega)) (l2 2 (by omega)) (l2 9 (by omega)) lw
    have hMs0 : EMs (m_bcL r n c L) := hMs.keep hMK p1 (l2 9 (by omega)) lw
    have d0 : ∀ φ, dSum (m_bcL r n c L) φ = dSum r φ := ds_keep (l2 0 (by omega)) (l2 9 (by omega)) lw
    have hw0 : ∀ x : Int, 0 ≤ x → m_way (m_bcL r n c L) n x = m_way r n x := fun x hx => way_keep lw (by omega) hx
    have k0 := l2 0 (by omega)
    have k2 := l2 2 (by omega)
    have k4 := l2 4 (by omega)
    have k5 := l2 5 (by omega)
    have k6 := l2 6 (by omega)
    have k7 := l2 7 (by omega)
    generalize m_bcL r n c L = X at p1 p2 p3 p4 p5 p6 p7 p8 l1 l2 lw hmax l8 hN0 hG0 hMs0 d0 hw0 k0 k2 k4 k5 k6 k7 ⊢
    have hK0 : MK X := IMe.mk ⟨og, hG0⟩
    obtain ⟨t1, t9, t3⟩ := takeOff_at hN0 hnN (by omega)
    have hG1 := IMeG.off hG0 hN0 hnN (by omega)
    have hK1 : MK (m_takeOff X n) := IMe.mk ⟨_, hG1⟩
    have hB1 := ib_takeOff l1 hN0 hnN
    have hMs1 := hMs0.off hK0 (by rw [k2]; exact b2.2) hN0 hnN (by omega)
    have d1 := ds_off hN0 hnN (by omega) (by rw [hw0 2 (by decide), k0]; exact hd)
    have x24 : ∀ c : Nat, c < 3 → m_of X c 2 ≤ 24 := fun c hc => by have := (l1.re c hc).2.2.1; omega
    have y0 : ∀ j, j ≠ 9 → j < 811 → m_takeOff X n j = X j := fun j h9 hj => t1 j h9 (by omega)
    generalize m_takeOff X n = Y at t1 t9 t3 hG1 hK1 hB1 hMs1 d1 y0 ⊢
    have hEY : Ew Y (B + L) := ⟨p2.low x24 fun j hj => y0 j (by omega) (by omega), p3.low (by rw [k2]; exact b2.2) fun j hj => y0 j (by omega) (by omega), hMs1, by rw [y0 7 (by decide) (by decide), k7]; omega⟩
    have yo : ∀ (d : Nat) (x : Int), d < 3 → 0 ≤ x → x < 38 → m_of Y d x = m_of X d x := fun d x hd h0 h1 => by unfold m_of; exact y0 _ (by omega) (by omega)
    obtain ⟨z1, z2, z3, z4, z5⟩ := sends_e (b := b) (mn := 0) (kd := 1) (c := c) (gr := m_way r n 4) hB1 hK1 hEY (N := N - 1) (by rw [t9]; omega) (by omega) (by omega) (Or.inr rfl) ⟨by omega, by omega⟩ hgrr (fun k hk => by omega) (by rw [y0 4 (by decide) (by decide), k4]; omega) (by rw [y0 0 (by decide) (by decide), k0]; omega) (fun z => by omega) (fun _ => by
      rw [yo c 1 hc (by decide) (by decide)]
      have := p5 mk (by omega); omega)
    rw [y0 4 (by decide) (by decide), k4] at z3
    rw [t9, y0 5 (by decide) (by decide), k5] at z4
    generalize m_sends Y b 1 (c : Int) ((0 : Nat) : Int) (m_way r n 4) = Z at z1 z2 z3 z4 z5 ⊢
    have zo : ∀ (d : Nat) (x : Int), d < 3 → 0 ≤ x → x < 38 → m_of Z d x = m_of X d x := fun d x hd h0 h1 => by
      rw [← yo d x hd h0 h1]; unfold m_of; exact z5 _ (by omega) (by omega) (by omega) (by omega)
    have zl : ∀ j, j < 697 → j ≠ 4 → j ≠ 5 → j ≠ 9 → Z j = X j := fun j h h4 h5 h9 => (z5 j (by omega) h4 h5 h9).trans (y0 j h9 (by omega))
    refine ⟨z1.more (by omega), fun d hd => ?_, fun d hd => ?_, fun d hd => ?_, ⟨?_, ?_, ?_, ?_⟩, fun φ => ?_⟩
    · rw [zo d 1 hd (by decide) (by decide)]
      by_cases e : c = d
      · subst e; rw [if_pos ⟨q, rfl⟩]; exact hmax
      · rw [if_neg (fun z => e (by omega))]; exact (p8 d hd (fun z => e z.symm)).1
    · rw [zo d 8 hd (by decide) (by decide), if_neg (fun z => by omega)]; exact l8 d hd
    · rw [zo d 3 hd (by decide) (by decide), zo d 5 hd (by decide) (by decide)]
      by_cases e : c = d
      · subst e; rw [if_pos ⟨q, rfl⟩]; exact p7
      · have := p8 d hd (fun z => e z.symm)
        rw [if_neg (fun z => e (by omega)), this.2.1, this.2.2]; omega
    · rw [zl 7 (by decide) (by decide) (by decide) (by decide), k7, if_neg (by omega)]; omega
    · rw [z3, if_pos q]
    · rw [zl 6 (by decide) (by decide) (by decide) (by decide), k6]
    · omega
    · rw [z2, d1, d0, hw0 0 (by decide), hw0 1 (by decide), hw0 3 (by decide), hw0 4 (by decide), hcw, hL]
  · have q1 : m_way r n 0 = 1 := hkd.resolve_left q
    have hst : m_stepN r b n = m_ansR (m_takeOff r n) c (m_way r n 4) := by
      unfold m_stepN; rw [if_neg q]; exact answer_is hcw
    rw [hst]
    obtain ⟨t1, t9, t3⟩ := takeOff_at hN hnN (by omega)
    have hB1 := ib_takeOff hB hN hnN
    have hG1 := IMeG.off hG hN hnN (by omega)
    have hK1 : MK (m_takeOff r n) := IMe.mk ⟨_, hG1⟩
    have hMs1 := hMs.off hMK b2.2 hN hnN (by omega)
    have d1 := ds_off hN hnN (by omega) hd
    have y0 : ∀ j, j ≠ 9 → j < 811 → m_takeOff r n j = r j := fun j h9 hj => t1 j h9 (by omega)
    generalize m_takeOff r n = Y at t1 t9 t3 hB1 hG1 hK1 hMs1 d1 y0 ⊢
    have hEY : Ew Y B := ⟨hC.low h24 fun j hj => y0 j (by omega) (by omega), hR.low b2.2 fun j hj => y0 j (by omega) (by omega), hMs1, by rw [y0 7 (by decide) (by decide)]; exact h7⟩
    have yo : ∀ (d : Nat) (x : Int), d < 3 → 0 ≤ x → x < 38 → m_of Y d x = m_of r d x := fun d x hd h0 h1 => by unfold m_of; exact y0 _ (by omega) (by omega)
    have hA := ansR_e hB1 hK1 hEY hc hgrr (by rw [yo c 1 hc (by decide) (by decide)]; exact em1 q1) (by omega)
    obtain ⟨a1, a7, a8, a9⟩ := ansR_at hB1.rf hc hgrr
    rw [y0 7 (by decide) (by decide), wr_id ⟨by omega, by omega⟩] at a7
    rw [yo c 8 hc (by decide) (by decide)] at a8
    generalize m_ansR Y (c : Int) (m_way r n 4) = Z at hA a1 a7 a8 a9 ⊢
    have zl : ∀ j, j ≠ 7 → j < 697 → Z j = Y j := fun j h7 h => a1 j h7 (by omega) (by omega)
    have zw : ∀ j, 811 ≤ j → Z j = Y j := fun j h => a1 j (by omega) (by omega) (by omega)
    have zo : ∀ (d : Nat) (x : Int), d < 3 → 0 ≤ x → x < 38 → x ≠ 8 → x ≠ 9 → m_of Z d x = m_of r d x := fun d x hd h0 h1 h8 h9 => by
      rw [← yo d x hd h0 h1]; unfold m_of; exact a1 _ (by omega) (by omega) (by omega)
    refine ⟨hA.more (by omega), fun d hd => ?_, fun d hd => ?_, fun d hd => ?_, ⟨?_, ?_, ?_, ?_⟩, fun φ => ?_⟩
    · rw [zo d 1 hd (by decide) (by decide) (by decide) (by decide), if_neg (fun z => q z.1)]
    · by_cases e : c = d
      · subst e; rw [if_pos ⟨q1, rfl⟩]; exact a8
      · rw [if_neg (fun z => e (by omega))]
        rw [← yo d 8 hd (by decide) (by decide)]
        unfold m_of; exact a1 _ (by omega) (by omega) (by omega)
    · rw [zo d 3 hd (by decide) (by decide) (by decide) (by decide), zo d 5 hd (by decide) (by decide) (by decide) (by decide), if_neg (fun z => q z.1)]; omega
    · rw [a7, if_pos q1]
    · rw [zl 4 (by decide) (by decide), y0 4 (by decide) (by decide), if_neg q]; omega
    · rw [zl 6 (by decide) (by decide), y0 6 (by decide) (by decide)]
    · rw [zl 9 (by decide) (by decide), zl 5 (by decide) (by decide), zl 4 (by decide) (by decide), t9, y0 5 (by decide) (by decide), y0 4 (by decide) (by decide)]; omega
    · rw [ds_keep (zl 0 (by decide) (by decide)) (zl 9 (by decide) (by decide)) zw, d1, hcw, hL]
