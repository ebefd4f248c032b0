/-! the reference's sweeping, told by its places -/
abbrev swS (r : RW) (k : Int) : Prop := m_mark r k 0 = false ∧ m_ansBy r k = 7
set_option maxRecDepth 100000 in
theorem or1_at : ∀ M : Fin 128, (∀ i : Fin 7, b_and (b_shr (b_or (M.val : Int) (b_shl 1 0)) i.val) 1 = if i.val = 0 then 1 else b_and (b_shr (M.val : Int) i.val) 1) ∧ b_and (b_shr (b_or (M.val : Int) (b_shl 1 0)) 1) 7 = b_and (b_shr (M.val : Int) 1) 7 ∧ b_and (b_shr (b_or (M.val : Int) (b_shl 1 0)) 4) 7 = b_and (b_shr (M.val : Int) 4) 7 ∧ 0 ≤ b_or (M.val : Int) (b_shl 1 0) ∧ b_or (M.val : Int) (b_shl 1 0) < 128 := by decide +kernel
theorem or1_of {x : Int} (h : 0 ≤ x ∧ x < 128) : (∀ i : Nat, i < 7 → b_and (b_shr (b_or x (b_shl 1 0)) i) 1 = if i = 0 then 1 else b_and (b_shr x i) 1) ∧ b_and (b_shr (b_or x (b_shl 1 0)) 1) 7 = b_and (b_shr x 1) 7 ∧ b_and (b_shr (b_or x (b_shl 1 0)) 4) 7 = b_and (b_shr x 4) 7 ∧ 0 ≤ b_or x (b_shl 1 0) ∧ b_or x (b_shl 1 0) < 128 := by
  have := or1_at ⟨x.toNat, by omega⟩
  dsimp only at this
  rw [show ((x.toNat : Nat) : Int) = x by omega] at this
  exact ⟨fun i hi => this.1 ⟨i, hi⟩, this.2⟩
theorem ansBy_keep {r g : RW} {k : Int} (h10 : g 10 = r 10) (h0 : g (97 + 3 * k) = r (97 + 3 * k)) (h1 : g (97 + 3 * k + 1) = r (97 + 3 * k + 1)) (hc : ∀ c : Nat, c < 3 → m_of g c 0 = m_of r c 0 ∧ m_of g c 8 = m_of r c 8) : m_ansBy g k = m_ansBy r k := by
  have e : ∀ c : Nat, c < 3 → m_ans g k c = m_ans r k c := fun c hc3 => by
    unfold m_ans m_wants m_topic
    rw [h0, (hc c hc3).1, (hc c hc3).2, num_keep h10 h1]
  have e0 := e 0 (by decide)
  have e1 := e 1 (by decide)
  have e2 := e 2 (by decide)
  rw [show ((0 : Nat) : Int) = 0 from rfl] at e0
  rw [show ((1 : Nat) : Int) = 1 from rfl] at e1
  rw [show ((2 : Nat) : Int) = 2 from rfl] at e2
  unfold m_ansBy
  rw [e0, e1, e2]
theorem sweepL_at {r : RW} (rf : RF r) (hRo : IRo r) : ∀ n : Nat, (n : Int) ≤ r 2 → r 2 ≤ 200 → (∀ j, (j < 97 ∨ 697 ≤ j) → (∀ c : Nat, c < 3 → j ≠ 697 + 38 * (c : Int) + 12) → (m_sweepL r n) j = r j) ∧ (∀ k : Nat, (k : Int) < r 2 → (m_sweepL r n) (97 + 3 * k) = r (97 + 3 * k) ∧ (m_sweepL r n) (97 + 3 * k + 1) = r (97 + 3 * k + 1) ∧ (m_sweepL r n) (97 + 3 * k + 2) = if k < n ∧ swS r k then b_or (r (97 + 3 * k + 2)) (b_shl 1 0) else r (97 + 3 * k + 2)) ∧ (∀ c : Nat, c < 3 → m_of (m_sweepL r n) c 12 = wr (m_of r c 12 + sumN (fun k => if swS r k then c_los r k c else 0) n)) ∧ m_sweepN r n = sumN (fun k => if swS r k then 1 else 0) n := by
  intro n
  induction n with
  | zero =>
    intro _ _
    refine ⟨fun _ _ _ => rfl, fun k _ => ⟨rfl, rfl, by rw [if_neg (fun z => by omega)]; rfl⟩, fun c hc => ?_, rfl⟩
    simp only [m_sweepL, sumN, Int.add_zero]; exact (wr_id (rg_of rf _ _)).symm
  | succ n ih =>
    intro hn h200
    obtain ⟨i1, i2, i3, i4⟩ := ih (by omega) h200
    have rg' := rf_sweepL rf n
    obtain ⟨g, hg⟩ : ∃ g, g = m_sweepL r n := ⟨_, rfl⟩
    have hM := (hRo n (by omega)).2.2
    have hgM : g (97 + 3 * n + 2) = r (97 + 3 * n + 2) := by rw [hg, (i2 n (by omega)).2.2, if_neg (fun z => by omega)]
    have hmk : ∀ b, m_mark g n b = m_mark r n b := fun b => mark_keep hgM
    have hof : ∀ c : Nat, c < 3 → ∀ x : Int, x ≠ 12 → 0 ≤ x → x < 38 → m_of g c x = m_of r c x := fun c hc x hx h0 h1 => by
      rw [hg]; unfold m_of; exact i1 _ (by omega) (fun d hd => by omega)
    have hab : m_ansBy g n = m_ansBy r n := by
      rw [hg]; exact ansBy_keep (i1 10 (by omega) (fun d hd => by omega)) (i2 n (by omega)).1 (i2 n (by omega)).2.1 (fun c hc => by rw [← hg]; exact ⟨hof c hc 0 (by decide) (by decide) (by decide), hof c hc 8 (by decide) (by decide) (by decide)⟩)
    simp only [m_sweepL, m_sweepN, sumN]
    rw [← hg] at i1 i2 i3 rg' ⊢
    rw [hmk 0, hab]
    by_cases q : swS r n
    · rw [if_pos q, if_pos q, if_pos q]
      have hor := or1_of hM
      -- the row with its mark
      obtain ⟨g1, hg1⟩ : ∃ g1, g1 = m_setm g n 0 := ⟨_, rfl⟩
      have hg1j : ∀ j, j ≠ 97 + 3 * (n : Int) + 2 → g1 j = g j := fun j hj => by rw [hg1]; unfold m_setm; exact up_n _ _ hj
      have hg1M : g1 (97 + 3 * n + 2) = b_or (r (97 + 3 * n + 2)) (b_shl 1 0) := by rw [hg1]; unfold m_setm; rw [up_s, hgM, wr_id (rg_or _ _)]
      have hlost : ∀ (h : RW) (c : Nat), c < 3 → (∀ j, j < 697 → h j = g1 j) → m_of h c 0 = m_of r c 0 → m_lost h n c = up h (697 + 38 * (c : Int) + 12) (m_of h c 12 + c_los r n c) := fun h c hc hh h0 => by
        unfold m_lost
        congr 2
        unfold c_los m_wants m_topic m_mark
        rw [h0, hh (97 + 3 * n) (by omega), hh (97 + 3 * n + 2) (by omega), hg1j _ (by omega), (i2 n (by omega)).1, hg1M]
        have := hor.1 (1 + c) (by omega)
        rw [if_neg (by omega)] at this
        rw [show (((1 + c : Nat)) : Int) = 1 + (c : Int) by omega] at this
        rw [this]
      have s1 : m_sweep1 g n = up (up (up g1 (697 + 38 * ((0 : Nat) : Int) + 12) (m_of g 0 12 + c_los r n 0)) (697 + 38 * ((1 : Nat) : Int) + 12) (m_of g 1 12 + c_los r n 1)) (697 + 38 * ((2 : Nat) : Int) + 12) (m_of g 2 12 + c_los r n 2) := by
        unfold m_sweep1
        rw [← hg1]
        have l0 := hlost g1 0 (by decide) (fun j _ => rfl) (by unfold m_of; rw [hg1j _ (by omega)]; exact hof 0 (by decide) 0 (by decide) (by decide) (by decide))
        rw [show m_lost g1 (n : Int) 0 = m_lost g1 n ((0 : Nat) : Int) from rfl, l0]
        have l1 := hlost (up g1 (697 + 38 * ((0 : Nat) : Int) + 12) (m_of g1 ((0 : Nat) : Int) 12 + c_los r n ((0 : Nat) : Int))) 1 (by decide) (fun j hj => up_n _ _ (by omega)) (by unfold m_of; rw [up_n _ _ (by omega), hg1j _ (by omega)]; exact hof 1 (by decide) 0 (by decide) (by decide) (by decide))
        rw [show m_lost (up g1 (697 + 38 * ((0 : Nat) : Int) + 12) (m_of g1 ((0 : Nat) : Int) 12 + c_los r n ((0 : Nat) : Int))) (n : Int) 1 = m_lost (up g1 (697 + 38 * ((0 : Nat) : Int) + 12) (m_of g1 ((0 : Nat) : Int) 12 + c_los r n ((0 : Nat) : Int))) n ((1 : Nat) : Int) from rfl, l1]
        have l2 := hlost (up (up g1 (697 + 38 * ((0 : Nat) : Int) + 12) (m_of g1 ((0 : Nat) : Int) 12 + c_los r n ((0 : Nat) : Int))) (697 + 38 * ((1 : Nat) : Int) + 12) (m_of (up g1 (697 + 38 * ((0 : Nat) : Int) + 12) (m_of g1 ((0 : Nat) : Int) 12 + c_los r n ((0 : Nat) : Int))) ((1 : Nat) : Int) 12 + c_los r n ((1 : Nat) : Int))) 2 (by decide) (fun j hj => by rw [up_n _ _ (by omega), up_n _ _ (by omega)]) (by unfold m_of; rw [up_n _ _ (by omega), up_n _ _ (by omega), hg1j _ (by omega)]; exact hof 2 (by decide) 0 (by decide) (by decide) (by decide))
        rw [show ∀ h : RW, m_lost h (n : Int) 2 = m_lost h n ((2 : Nat) : Int) from fun _ => rfl, l2]
        have m0 : m_of g1 ((0 : Nat) : Int) 12 = m_of g 0 12 := by unfold m_of; exact hg1j _ (by omega)
        have m1 : m_of (up g1 (697 + 38 * ((0 : Nat) : Int) + 12) (m_of g1 ((0 : Nat) : Int) 12 + c_los r n ((0 : Nat) : Int))) ((1 : Nat) : Int) 12 = m_of g 1 12 := by unfold m_of; rw [up_n _ _ (by omega)]; exact hg1j _ (by omega)
        have m2 : m_of (up (up g1 (697 + 38 * ((0 : Nat) : Int) + 12) (m_of g1 ((0 : Nat) : Int) 12 + c_los r n ((0 : Nat) : Int))) (697 + 38 * ((1 : Nat) : Int) + 12) (m_of (up g1 (697 + 38 * ((0 : Nat) : Int) + 12) (m_of g1 ((0 : Nat) : Int) 12 + c_los r n ((0 : Nat) : Int))) ((1 : Nat) : Int) 12 + c_los r n ((1 : Nat) : Int))) ((2 : Nat) : Int) 12 = m_of g 2 12 := by unfold m_of; rw [up_n _ _ (by omega), up_n _ _ (by omega)]; exact hg1j _ (by omega)
        rw [m2, m1, m0]
        rfl
      rw [s1]
      refine ⟨fun j h1 h2 => ?_, fun k hk => ?_, fun c hc => ?_, by rw [i4]⟩
      · rw [up_n _ _ (h2 2 (by decide)), up_n _ _ (h2 1 (by decide)), up_n _ _ (h2 0 (by decide)), hg1j _ (by omega)]; exact i1 j h1 h2
      · obtain ⟨k1, k2, k3⟩ := i2 k hk
        rw [up_n _ _ (by omega), up_n _ _ (by omega), up_n _ _ (by omega), hg1j _ (by omega)]
        rw [up_n _ _ (by omega), up_n _ _ (by omega), up_n _ _ (by omega), hg1j _ (by omega)]
        rw [up_n _ _ (by omega), up_n _ _ (by omega), up_n _ _ (by omega)]
        refine ⟨k1, k2, ?_⟩
        by_cases e : k = n
        · subst e; rw [hg1M, if_pos ⟨by omega, q⟩]
        · rw [hg1j _ (by omega), k3]
          by_cases z : k < n ∧ swS r k
          · rw [if_pos z, if_pos ⟨by omega, z.2⟩]
          · rw [if_neg z, if_neg (fun y => z ⟨by omega, y.2⟩)]
      · have h3 := i3 c hc
        have c3 : c = 0 ∨ c = 1 ∨ c = 2 := by omega
        have fin : ∀ d : Nat, d < 3 → wr (m_of g d 12 + c_los r n d) = wr (m_of r d 12 + (sumN (fun k => if swS r k then c_los r k d else 0) n + c_los r n d)) := fun d hd => by
          rw [i3 d hd, wr_add_l]; congr 1; omega
        rcases c3 with rfl | rfl | rfl
        · unfold m_of; rw [up_n _ _ (by omega), up_n _ _ (by omega), up_s, if_pos q]; exact fin 0 (by decide)
        · unfold m_of; rw [up_n _ _ (by omega), up_s, if_pos q]; exact fin 1 (by decide)
        · unfold m_of; rw [up_s, if_pos q]; exact fin 2 (by decide)
    · rw [if_neg q, if_neg q, if_neg q]
      refine ⟨i1, fun k hk => ?_, fun c hc => ?_, by rw [i4]; omega⟩
      · obtain ⟨k1, k2, k3⟩ := i2 k hk
        refine ⟨k1, k2, ?_⟩
        rw [k3]
        by_cases z : k < n ∧ swS r k
        · rw [if_pos z, if_pos ⟨by omega, z.2⟩]
        · rw [if_neg z, if_neg]
          rintro ⟨y1, y2⟩
          by_cases e : k = n
          · subst e; exact q y2
          · exact z ⟨by omega, y2⟩
      · rw [i3 c hc]; congr 1; rw [if_neg q]; omega
