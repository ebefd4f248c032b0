/-! ===== sums over the messages that are due ===== -/
def dSum (r : RW) (φ : Int → Int → Int → Int → Int) : Int := sumN (fun m => if m_way r m 2 ≤ r 0 then φ (m_way r m 0) (m_way r m 1) (m_way r m 3) (m_way r m 4) else 0) (r 9).toNat
theorem dSum_1 (r : RW) : dSum r (fun _ _ _ _ => 1) = dcN r := rfl
theorem dSum_pos {r : RW} {φ : Int → Int → Int → Int → Int} (h : ∀ a b c d, 0 ≤ φ a b c d) : 0 ≤ dSum r φ := by
  have h1 := sumN_pos0 (f := fun m => if m_way r m 2 ≤ r 0 then φ (m_way r m 0) (m_way r m 1) (m_way r m 3) (m_way r m 4) else 0)
  have : ∀ n : Nat, 0 ≤ sumN (fun m => if m_way r m 2 ≤ r 0 then φ (m_way r m 0) (m_way r m 1) (m_way r m 3) (m_way r m 4) else 0) n := by
    intro n
    induction n with
    | zero => exact Int.le_refl _
    | succ n ih =>
      simp only [sumN]
      have : 0 ≤ (if m_way r n 2 ≤ r 0 then φ (m_way r n 0) (m_way r n 1) (m_way r n 3) (m_way r n 4) else 0) := by
        split
        · exact h _ _ _ _
        · exact Int.le_refl _
      omega
  exact this _
theorem ds_none {r : RW} {φ : Int → Int → Int → Int → Int} (h : dcN r = 0) : dSum r φ = 0 := by
  have h0 := (sumN_pos0 (f := fun m => if m_way r m 2 ≤ r 0 then 1 else 0) (r 9).toNat (fun k _ => by split <;> decide)).mp h
  unfold dSum
  rw [sumN_congr (g := fun _ => 0) _ (fun k hk => by
    rw [if_neg]
    intro q
    have := h0 k hk
    rw [if_pos q] at this
    omega), sumN_0]
theorem ds_off {r : RW} {N n : Nat} (hN : r 9 = N) (hn : n < N) (hN2 : N ≤ 60) (hd : m_way r n 2 ≤ r 0) (φ : Int → Int → Int → Int → Int) : dSum (m_takeOff r n) φ = dSum r φ - φ (m_way r n 0) (m_way r n 1) (m_way r n 3) (m_way r n 4) := by
  obtain ⟨t1, t9, t3⟩ := takeOff_at hN hn hN2
  unfold dSum
  rw [t9, hN, t1 0 (by decide) (by omega), Int.toNat_natCast, show ((N : Int) - 1).toNat = N - 1 by omega]
  have e1 := sumN_split (fun m => if m_way r m 2 ≤ r 0 then φ (m_way r m 0) (m_way r m 1) (m_way r m 3) (m_way r m 4) else 0) (fun _ => true) n N hn rfl
  rw [if_pos hd] at e1
  rw [sumN_congr (f := fun k => if (fun _ : Nat => true) k = true then (if m_way r k 2 ≤ r 0 then φ (m_way r k 0) (m_way r k 1) (m_way r k 3) (m_way r k 4) else 0) else 0) (g := fun m => if m_way r m 2 ≤ r 0 then φ (m_way r m 0) (m_way r m 1) (m_way r m 3) (m_way r m 4) else 0) N (fun k _ => by simp)] at e1
  rw [e1]
  have e2 := sumN_bij (fun m => if m_way r m 2 ≤ r 0 then φ (m_way r m 0) (m_way r m 1) (m_way r m 3) (m_way r m 4) else 0) N (N - 1) (fun k => if k < n then k else k + 1) (fun k => true && decide (k ≠ n)) (fun j hj => ⟨by split <;> omega, by simp; split <;> omega⟩) (fun i j hij hj => by (repeat' split) <;> omega) (fun k hk q => by
    simp at q
    by_cases y : k < n
    · exact ⟨k, by omega, by rw [if_pos y]⟩
    · exact ⟨k - 1, by omega, by rw [if_neg (by omega)]; omega⟩)
  rw [← e2]
  rw [sumN_congr (N - 1) (fun k hk => by rw [t3 k hk 2 (by decide) (by decide), t3 k hk 0 (by decide) (by decide), t3 k hk 1 (by decide) (by decide), t3 k hk 3 (by decide) (by decide), t3 k hk 4 (by decide) (by decide)])]
  omega
theorem ds_add {r g : RW} {N : Nat} (hN : r 9 = N) (hg9 : g 9 = (N : Int) + 1) (h0 : g 0 = r 0) (hw : ∀ n : Nat, n < N → ∀ x : Int, 0 ≤ x → x ≤ 6 → m_way g n x = m_way r n x) (hd : r 0 < m_way g N 2) (φ : Int → Int → Int → Int → Int) : dSum g φ = dSum r φ := by
  unfold dSum
  rw [hg9, hN, h0, Int.toNat_natCast, show ((N : Int) + 1).toNat = N + 1 by omega]
  simp only [sumN]
  rw [if_neg (show ¬ m_way g N 2 ≤ r 0 by omega), Int.add_zero]
  exact sumN_congr N fun k hk => by rw [hw k hk 2 (by decide) (by decide), hw k hk 0 (by decide) (by decide), hw k hk 1 (by decide) (by decide), hw k hk 3 (by decide) (by decide), hw k hk 4 (by decide) (by decide)]
theorem ds_keep {r g : RW} (h0 : g 0 = r 0) (h9 : g 9 = r 9) (hw : ∀ j, 811 ≤ j → g j = r j) (φ : Int → Int → Int → Int → Int) : dSum g φ = dSum r φ := by
  unfold dSum
  rw [h9, h0]
  exact sumN_congr _ fun k _ => by rw [way_keep hw (by omega) (by decide), way_keep hw (by omega) (by decide), way_keep hw (by omega) (by decide), way_keep hw (by omega) (by decide), way_keep hw (by omega) (by decide)]
/-! ===== a batch's rows, one after the other ===== -/
theorem bc_e {r : RW} {B : Int} (hB : IB r) (hC : EC r B) (hR : ER r) {n c L : Nat} (hc : c < 3) (hL : L ≤ 8) (hrow : ∀ k : Nat, k < L → 0 ≤ m_rowOf r n k ∧ m_rowOf r n k < r 2) (hs : ∀ k : Nat, k < L → m_mark r (m_rowOf r n k) (4 + c) = true) (h3 : 0 ≤ m_of r c 3 ∧ m_of r c 3 ≤ 1999999000) (hB9 : B ≤ 1999999000) : ∀ k : Nat, k ≤ L → Gr r (m_bcL r n c k) ∧ EC (m_bcL r n c k) (B + k) ∧ ER (m_bcL r n c k) ∧ (m_of r c 1 ≤ m_of (m_bcL r n c k) c 1 ∧ (∀ i : Nat, i < k → m_num r (m_rowOf r n i) ≤ m_of (m_bcL r n c k) c 1) ∧ (m_of (m_bcL r n c k) c 1 = m_of r c 1 ∨ ∃ i : Nat, i < k ∧ m_of (m_bcL r n c k) c 1 = m_num r (m_rowOf r n i))) ∧ m_of (m_bcL r n c k) c 3 + m_of (m_bcL r n c k) c 5 = m_of r c 3 + m_of r c 5 + k ∧ ∀ d : Nat, d < 3 → d ≠ c → m_of (m_bcL r n c k) d 1 = m_of r d 1 ∧ m_of (m_bcL r n c k) d 3 = m_of r d 3 ∧ m_of (m_bcL r n c k) d 5 = m_of r d 5 := by
  intro k
  induction k with
  | zero =>
    intro _
    refine ⟨Gr.refl r, ?_, hR, ⟨Int.le_refl _, fun i hi => by omega, Or.inl rfl⟩, ?_, fun d _ _ => ⟨rfl, rfl, rfl⟩⟩
    · rw [show B + ((0 : Nat) : Int) = B by omega]; exact hC
    · show m_of r c 3 + m_of r c 5 = m_of r c 3 + m_of r c 5 + ((0 : Nat) : Int); omega
  | succ k ih =>
    intro hk
    obtain ⟨i1, i2, i3, ⟨i4, i5, i6⟩, i7, i8⟩ := ih (by omega)
    obtain ⟨l1, l2, l3, -, l5⟩ := bcL_at hB (n := n) hc hL hrow k (by omega)
    have hr := hrow k (by omega)
    obtain ⟨K, hK⟩ : ∃ K : Nat, m_rowOf r n k = K := ⟨(m_rowOf r n k).toNat, by omega⟩
    have hsK := hs k (by omega)
    rw [l5 (by omega)]
    rw [hK] at hr hsK ⊢
    have hef := c_eff_rg r n c k
    have l33 := (l3 c hc).2.2.2.2
    rw [if_pos rfl, wr_id ⟨by omega, by omega⟩] at l33
    generalize m_bcL r n c k = g at i1 i2 i3 i4 i5 i6 i7 i8 l1 l2 l33 ⊢
    have hm4 : m_mark g K (4 + c) = true := by
      have := (i1.2.1 K hr.2).2 (4 + c) (by omega)
      rw [show (((4 + c : Nat)) : Int) = 4 + (c : Int) by omega] at this
      exact this hsK
    obtain ⟨q1, q2, q3, q4, q5, q6⟩ := row1_e l1 i2 i3 hc (k := K) (by rw [l2 2 (by omega)]; exact hr.2) hm4 (by rw [l33]; omega) (by omega)
    have hnK := (i1.2.1 K hr.2).1
    rw [hnK] at q4
    refine ⟨i1.trans q1, by rw [show B + ((k + 1 : Nat) : Int) = B + k + 1 by omega]; exact q2, q3, ⟨by rw [q4]; split <;> omega, fun i hi => ?_, ?_⟩, by rw [q5, i7]; omega, fun d hd hne => ⟨(q6 d hd hne).1.trans (i8 d hd hne).1, (q6 d hd hne).2.1.trans (i8 d hd hne).2.1, (q6 d hd hne).2.2.trans (i8 d hd hne).2.2⟩⟩
    · rw [q4]
      rcases Nat.lt_or_ge i k with z | z
      · have := i5 i z
        split <;> omega
      · rw [show i = k by omega, hK]
        split <;> omega
    · rw [q4]
      by_cases z : m_num r K ≤ m_of g c 1
      · rw [if_pos z]
        rcases i6 with y | ⟨i, hi, y⟩
        · exact Or.inl y
        · exact Or.inr ⟨i, by omega, y⟩
      · rw [if_neg z]
        exact Or.inr ⟨k, by omega, by rw [hK]⟩
