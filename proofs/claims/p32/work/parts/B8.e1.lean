/-! ===== what the property asks beside Inv: marks, effects, messages ===== -/
/-- receivers: the answer mark, second effects, effects out of order, the memory, repeats, lost rows -/
def EC1 (r : RW) (B : Int) (c : Nat) : Prop := m_of r c 8 ≤ m_of r c 1 ∧ (0 ≤ m_of r c 6 ∧ m_of r c 6 ≤ m_of r c 3) ∧ (0 ≤ m_of r c 7 ∧ m_of r c 7 ≤ m_of r c 3) ∧ (0 ≤ m_of r c 1 → 0 < m_of r c 3) ∧ (∀ j : Nat, (j : Int) < m_of r c 2 → m_of r c (13 + j) ≤ m_of r c 1) ∧ (0 ≤ m_of r c 5 ∧ m_of r c 5 ≤ B) ∧ (0 ≤ m_of r c 12 ∧ m_of r c 12 ≤ r 3)
def EC (r : RW) (B : Int) : Prop := ∀ c : Nat, c < 3 → EC1 r B c
/-- a row that had its effect was sent -/
def ER (r : RW) : Prop := ∀ k : Nat, (k : Int) < r 2 → ∀ c : Nat, c < 3 → m_mark r k (1 + c) = true → m_mark r k (4 + c) = true
/-- a message: its rows were sent to its receiver, its number is the greatest of theirs; an answer's number is no more than the mark -/
def EM1 (r : RW) (n : Nat) : Prop := (m_way r n 0 = 0 → 1 ≤ m_way r n 3 ∧ m_way r n 3 - 1 ≤ m_way r n 4 ∧ (∀ k : Nat, (k : Int) < m_way r n 3 → m_mark r (m_rowOf r n k) (4 + m_way r n 1) = true ∧ m_num r (m_rowOf r n k) ≤ m_way r n 4) ∧ ∃ k : Nat, (k : Int) < m_way r n 3 ∧ m_num r (m_rowOf r n k) = m_way r n 4) ∧ (m_way r n 0 = 1 → m_way r n 4 ≤ m_of r (m_way r n 1) 1)
def EMs (r : RW) : Prop := ∀ n : Nat, (n : Int) < r 9 → EM1 r n
def Ew (r : RW) (B : Int) : Prop := EC r B ∧ ER r ∧ EMs r ∧ (0 ≤ r 7 ∧ r 7 ≤ B)
/-- rows and marks only grow -/
def Gr (r g : RW) : Prop := g 2 = r 2 ∧ (∀ k : Nat, (k : Int) < r 2 → m_num g k = m_num r k ∧ ∀ b : Nat, b < 7 → m_mark r k b = true → m_mark g k b = true) ∧ ∀ c : Nat, c < 3 → m_of r c 1 ≤ m_of g c 1
theorem Gr.refl (r : RW) : Gr r r := ⟨rfl, fun _ _ => ⟨rfl, fun _ _ h => h⟩, fun _ _ => Int.le_refl _⟩
theorem Gr.trans {r g h : RW} (a : Gr r g) (b : Gr g h) : Gr r h := ⟨b.1.trans a.1, fun k hk => ⟨(b.2.1 k (by rw [a.1]; exact hk)).1.trans (a.2.1 k hk).1, fun i hi q => (b.2.1 k (by rw [a.1]; exact hk)).2 i hi ((a.2.1 k hk).2 i hi q)⟩, fun c hc => Int.le_trans (a.2.2 c hc) (b.2.2 c hc)⟩
theorem row_as {r g : RW} {n m : Nat} (h : ∀ x : Int, 0 ≤ x → x ≤ 6 → m_way g m x = m_way r n x) {k : Nat} (hk : k < 8) : m_rowOf g m k = m_rowOf r n k := by
  unfold m_rowOf
  rw [h _ (by have := Int.tdiv_nonneg (a := (k : Int)) (b := 4) (by omega) (by decide); omega) (by rw [Int.tdiv_eq_ediv_of_nonneg (by omega)]; omega)]
theorem nat3 {c : Int} (h : 0 ≤ c ∧ c ≤ 2) : ∃ d : Nat, d < 3 ∧ c = d := ⟨c.toNat, by omega, by omega⟩
theorem EM1.as {r g : RW} {n m : Nat} (h : EM1 r n) (hG : Gr r g) (hwh : 0 ≤ m_way r n 1 ∧ m_way r n 1 ≤ 2) (hln : m_way r n 3 ≤ 8) (hrw : ∀ k : Nat, (k : Int) < m_way r n 3 → 0 ≤ m_rowOf r n k ∧ m_rowOf r n k < r 2) (hw : ∀ x : Int, 0 ≤ x → x ≤ 6 → m_way g m x = m_way r n x) : EM1 g m := by
  obtain ⟨d, hd, ed⟩ := nat3 hwh
  have er : ∀ k : Nat, (k : Int) < m_way r n 3 → m_rowOf g m k = m_rowOf r n k := fun k hk => row_as hw (by omega)
  have key : ∀ k : Nat, (k : Int) < m_way r n 3 → m_num g (m_rowOf r n k) = m_num r (m_rowOf r n k) ∧ (m_mark r (m_rowOf r n k) (4 + m_way r n 1) = true → m_mark g (m_rowOf r n k) (4 + m_way r n 1) = true) := fun k hk => by
    obtain ⟨K, hK⟩ : ∃ K : Nat, m_rowOf r n k = K := ⟨(m_rowOf r n k).toNat, by have := hrw k hk; omega⟩
    have h2 := hrw k hk
    rw [hK] at h2 ⊢
    have := hG.2.1 K h2.2
    refine ⟨this.1, fun q => ?_⟩
    rw [ed] at q ⊢
    have z := this.2 (4 + d) (by omega)
    rw [show (((4 + d : Nat)) : Int) = 4 + (d : Int) by omega] at z
    exact z q
  unfold EM1
  rw [hw 0 (by decide) (by decide), hw 1 (by decide) (by decide), hw 3 (by decide) (by decide), hw 4 (by decide) (by decide)]
  refine ⟨fun q => ?_, fun q => ?_⟩
  · obtain ⟨a1, a2, a3, k, hk, a4⟩ := h.1 q
    refine ⟨a1, a2, fun k hk => ?_, k, hk, ?_⟩
    · rw [er k hk, (key k hk).1]
      exact ⟨(key k hk).2 (a3 k hk).1, (a3 k hk).2⟩
    · rw [er k hk, (key k hk).1]; exact a4
  · have := h.2 q
    rw [ed] at this ⊢
    have := hG.2.2 d hd
    omega
/-- all messages are as they were -/
theorem EMs.keep {r g : RW} (h : EMs r) (hK : MK r) (hG : Gr r g) (h9 : g 9 = r 9) (hw : ∀ j, 811 ≤ j → g j = r j) : EMs g := fun n hn => by
  rw [h9] at hn
  obtain ⟨k1, k2, k3, k4, k5, k6⟩ := hK n hn
  exact (h n hn).as hG k2 k3.2 k5 (fun x x0 _ => way_keep hw (by omega) x0)
set_option maxRecDepth 100000 in
theorem orb_at : ∀ M : Fin 128, ∀ s : Fin 7, ∀ i : Fin 7, b_and (b_shr (b_or (M.val : Int) (b_shl 1 s.val)) i.val) 1 = if i.val = s.val then 1 else b_and (b_shr (M.val : Int) i.val) 1 := by decide +kernel
theorem mark_set {r g : RW} {k s b : Nat} (hx : 0 ≤ r (97 + 3 * k + 2) ∧ r (97 + 3 * k + 2) < 128) (hs : s < 7) (hb : b < 7) {t : Int} (ht : t = s) (he : g (97 + 3 * k + 2) = b_or (r (97 + 3 * k + 2)) (b_shl 1 t)) : m_mark g k b = true ↔ (b = s ∨ m_mark r k b = true) := by
  obtain ⟨M, hM⟩ : ∃ M : Nat, r (97 + 3 * k + 2) = M := ⟨(r (97 + 3 * k + 2)).toNat, by omega⟩
  have := orb_at ⟨M, by omega⟩ ⟨s, hs⟩ ⟨b, hb⟩
  unfold m_mark
  rw [he, hM, ht, this]
  simp only [decide_eq_true_eq]
  by_cases q : b = s
  · simp [q]
  · simp [q]
theorem mark_up {r : RW} {k b : Int} {j v : Int} (h : j ≠ 97 + 3 * k + 2) : m_mark (up r j v) k b = m_mark r k b := by
  unfold m_mark; rw [up_n _ _ (fun e => h e.symm)]
/-- a row of a batch comes -/
theorem row1_e {h : RW} {B : Int} (hB : IB h) (hC : EC h B) (hR : ER h) {c k : Nat} (hc : c < 3) (hk : (k : Int) < h 2) (hs : m_mark h k (4 + c) = true) (h3 : 0 ≤ m_of h c 3 ∧ m_of h c 3 ≤ 2000000000) (hB9 : B ≤ 2000000000) : Gr h (m_row1 h c k) ∧ EC (m_row1 h c k) (B + 1) ∧ ER (m_row1 h c k) ∧ m_of (m_row1 h c k) c 1 = (if m_num h k ≤ m_of h c 1 then m_of h c 1 else m_num h k) ∧ m_of (m_row1 h c k) c 3 + m_of (m_row1 h c k) c 5 = m_of h c 3 + m_of h c 5 + 1 ∧ ∀ d : Nat, d < 3 → d ≠ c → m_of (m_row1 h c k) d 1 = m_of h d 1 ∧ m_of (m_row1 h c k) d 3 = m_of h d 3 ∧ m_of (m_row1 h c k) d 5 = m_of h d 5 := by
  have b2 := hB.co.1
  have hCc := hC c hc
  obtain ⟨e1, e2, e3, e4, e5, e6, e7⟩ := hCc
  unfold m_row1
  by_cases q : m_rep h c k = true
  · rw [if_pos q]
    have w5 : wr (m_of h c 5 + 1) = m_of h c 5 + 1 := wr_id ⟨by omega, by omega⟩
    have f5 : m_of (up h (697 + 38 * (c : Int) + 5) (m_of h c 5 + 1)) c 5 = m_of h c 5 + 1 := by
      unfold m_of at w5 ⊢; rw [up_s]; exact w5
    have fo : ∀ (d : Nat) (x : Int), d < 3 → 0 ≤ x → x < 38 → (d ≠ c ∨ x ≠ 5) → m_of (up h (697 + 38 * (c : Int) + 5) (m_of h c 5 + 1)) d x = m_of h d x := fun d x hd h0 h1 hne => by
      unfold m_of; exact up_n _ _ (by omega)
    have fl : ∀ j, j < 697 → (up h (697 + 38 * (c : Int) + 5) (m_of h c 5 + 1)) j = h j := fun j hj => up_n _ _ (by omega)
    generalize up h (697 + 38 * (c : Int) + 5) (m_of h c 5 + 1) = g at f5 fo fl ⊢
    have fm : ∀ (j : Nat) (b : Int), (j : Int) < h 2 → m_mark g j b = m_mark h j b := fun j b hj => mark_keep (fl _ (by omega))
    have hle : m_num h k ≤ m_of h c 1 := by
      unfold m_rep at q
      by_cases z : h 15 = 1
      · rw [if_pos z] at q; simpa using q
      · rw [if_neg z] at q
        have mem : ∀ N : Nat, (N : Int) ≤ m_of h c 2 → m_mem h c (m_num h k) N = true → m_num h k ≤ m_of h c 1 := by
          intro N
          induction N with
          | zero => intro _ z; cases z
          | succ N ih =>
            intro hN z
            simp only [m_mem, Bool.or_eq_true, decide_eq_true_eq] at z
            rcases z with z | z
            · exact ih (by omega) z
            · rw [← z]; exact e5 N (by omega)
        exact mem _ (by have := (hB.re c hc).2.2.1; omega) q
    refine ⟨⟨fl 2 (by omega), fun j hj => ⟨num_keep (fl 10 (by omega)) (fl _ (by omega)), fun b hb z => by rw [fm j b hj]; exact z⟩, fun d hd => by rw [fo d 1 hd (by decide) (by decide) (Or.inr (by decide))]; exact Int.le_refl _⟩, fun d hd => ?_, fun j hj d hd z => ?_, ?_, ?_, fun d hd hne => ⟨fo d 1 hd (by decide) (by decide) (Or.inr (by decide)), fo d 3 hd (by decide) (by decide) (Or.inr (by decide)), fo d 5 hd (by decide) (by decide) (Or.inl hne)⟩⟩
    · obtain ⟨a1, a2, a3, a4, a5, a6, a7⟩ := hC d hd
      have r2 := (hB.re d hd).2.2.1
      unfold EC1
      rw [fo d 8 hd (by decide) (by decide) (Or.inr (by decide)), fo d 1 hd (by decide) (by decide) (Or.inr (by decide)), fo d 6 hd (by decide) (by decide) (Or.inr (by decide)), fo d 3 hd (by decide) (by decide) (Or.inr (by decide)), fo d 7 hd (by decide) (by decide) (Or.inr (by decide)), fo d 2 hd (by decide) (by decide) (Or.inr (by decide)), fo d 12 hd (by decide) (by decide) (Or.inr (by decide)), fl 3 (by omega)]
      refine ⟨a1, a2, a3, a4, fun j hj => ?_, ?_, a7⟩
      · rw [fo d _ hd (by omega) (by omega) (Or.inr (by omega))]; exact a5 j hj
      · by_cases z : d = c
        · subst z; rw [f5]; omega
        · rw [fo d 5 hd (by decide) (by decide) (Or.inl z)]; omega
    · rw [fl 2 (by omega)] at hj
      rw [fm j _ hj] at z ⊢
      exact hR j hj d hd z
    · rw [fo c 1 hc (by decide) (by decide) (Or.inr (by decide)), if_pos hle]
    · rw [fo c 3 hc (by decide) (by decide) (Or.inr (by decide)), f5]; omega
  · rw [if_neg q]
    obtain ⟨n, hn⟩ : ∃ n : Nat, m_of h c 2 = n := ⟨(m_of h c 2).toNat, by have := (hB.re c hc).2.2.1; omega⟩
    have hn2 := (hB.re c hc).2.2.1
    obtain ⟨w1, w2, w3, w4, w5, w6, w7, w8, w9, w10⟩ := works_at hB.rf hB.ro hB.se.2.2.2.2.2.2.2 hc (k := k) (n := n) (by omega) hk hn (by omega)
    rw [wr_id ⟨by omega, by omega⟩] at w6
    rw [wr_id (by split <;> exact ⟨by omega, by omega⟩)] at w8 w9
    have hx := (hB.ro k hk).2.2
    have hnk := num_pos hB.ro hk
    generalize m_works h c k = g at w1 w2 w3 w4 w5 w6 w7 w8 w9 w10 ⊢
    have fo : ∀ (d : Nat) (x : Int), d < 3 → d ≠ c → 0 ≤ x → x < 38 → m_of g d x = m_of h d x := fun d x hd hne h0 h1 => by
      unfold m_of; exact w1 _ (by omega) (by omega)
    have fl : ∀ j, j < 97 → g j = h j := fun j hj => w1 j (by omega) (by omega)
    have fn : ∀ j : Nat, (j : Int) < h 2 → m_num g j = m_num h j := fun j hj => num_keep (fl 10 (by omega)) (w1 _ (by omega) (by omega))
    have fm : ∀ (j b : Nat), (j : Int) < h 2 → b < 7 → (m_mark g j b = true ↔ ((j = k ∧ b = 1 + c) ∨ m_mark h j b = true)) := fun j b hj hb => by
      by_cases z : j = k
      · subst z
        rw [mark_set hx (show 1 + c < 7 by omega) hb (t := 1 + (c : Int)) (by omega) w2]
        simp
      · rw [mark_keep (r := h) (w1 _ (by omega) (by omega))]
        simp [z]
    refine ⟨⟨fl 2 (by omega), fun j hj => ⟨fn j hj, fun b hb z => (fm j b hj hb).mpr (Or.inr z)⟩, fun d hd => ?_⟩, fun d hd => ?_, fun j hj d hd z => ?_, w4, by rw [w6, w3 5 (by omega)]; omega, fun d hd hne => ⟨fo d 1 hd hne (by decide) (by decide), fo d 3 hd hne (by decide) (by decide), fo d 5 hd hne (by decide) (by decide)⟩⟩
    · by_cases z : d = c
      · subst z; rw [w4]; split <;> omega
      · rw [fo d 1 hd z (by decide) (by decide)]; exact Int.le_refl _
    · by_cases z : d = c
      · subst z
        unfold EC1
        rw [w3 8 (by omega), w4, w8, w6, w9, w5, w3 5 (by omega), w3 12 (by omega), fl 3 (by omega)]
        refine ⟨by split <;> omega, by split <;> omega, by split <;> omega, fun _ => by omega, fun j hj => ?_, by omega, e7⟩
        rw [w10 j hj]
        have hm : ∀ j : Nat, (j : Int) < (n : Int) → m_of h d (13 + (j : Int)) ≤ m_of h d 1 := fun j hj => e5 j (by omega)
        have h1 : m_of h d 1 ≤ (if m_num h k ≤ m_of h d 1 then m_of h d 1 else m_num h k) := by split <;> omega
        have h4 : m_num h k ≤ (if m_num h k ≤ m_of h d 1 then m_of h d 1 else m_num h k) := by split <;> omega
        by_cases y : (n : Int) + 1 ≤ h 16
        · rw [if_pos y] at hj ⊢
          split
          · exact h4
          · exact Int.le_trans (hm j (by omega)) h1
        · rw [if_neg y] at hj ⊢
          split
          · exact h4
          · exact Int.le_trans (hm (j + 1) (by omega)) h1
      · obtain ⟨a1, a2, a3, a4, a5, a6, a7⟩ := hC d hd
        have r2 := (hB.re d hd).2.2.1
        unfold EC1
        rw [fo d 8 hd z (by decide) (by decide), fo d 1 hd z (by decide) (by decide), fo d 6 hd z (by decide) (by decide), fo d 3 hd z (by decide) (by decide), fo d 7 hd z (by decide) (by decide), fo d 2 hd z (by decide) (by decide), fo d 5 hd z (by decide) (by decide), fo d 12 hd z (by decide) (by decide), fl 3 (by omega)]
        exact ⟨a1, a2, a3, a4, fun j hj => by rw [fo d _ hd z (by omega) (by omega)]; exact a5 j hj, by omega, a7⟩
    · rw [fl 2 (by omega)] at hj
      have c1 : (1 + (d : Int)) = ((1 + d : Nat) : Int) := by omega
      have c4 : (4 + (d : Int)) = ((4 + d : Nat) : Int) := by omega
      rw [c1, fm j (1 + d) hj (by omega)] at z
      rw [c4, fm j (4 + d) hj (by omega)]
      right
      rcases z with ⟨z1, z2⟩ | z
      · rw [z1, show d = c by omega, ← show (4 + (c : Int)) = ((4 + c : Nat) : Int) by omega]; exact hs
      · rw [← c4]; exact hR j hj d hd (by rw [c1]; exact z)
