/-! ===== what always holds of the reference's row ===== -/
def IPl (r : RW) : Prop := ∀ p : Nat, p < 4 → (m_its r p 0 = 0 ∨ m_its r p 0 = 1) ∧ (0 ≤ m_its r p 1 ∧ m_its r p 1 ≤ 6) ∧ ∀ i : Nat, (i : Int) < m_its r p 1 → (0 ≤ m_its r p (2 + 3 * i) ∧ m_its r p (2 + 3 * i) ≤ 3) ∧ (0 ≤ m_its r p (2 + 3 * i + 1) ∧ m_its r p (2 + 3 * i + 1) ≤ 99) ∧ (0 ≤ m_its r p (4 + 3 * i) ∧ m_its r p (4 + 3 * i) < r 1)
def IRo (r : RW) : Prop := ∀ k : Nat, (k : Int) < r 2 → (0 ≤ r (97 + 3 * k) ∧ r (97 + 3 * k) < 400) ∧ (0 ≤ m_write r k ∧ m_write r k < r 1) ∧ (0 ≤ r (97 + 3 * k + 2) ∧ r (97 + 3 * k + 2) < 128)
/-- no two rows have one write number -/
def IDi (r : RW) : Prop := (∀ k j : Nat, k < j → (j : Int) < r 2 → m_write r k ≠ m_write r j) ∧ ∀ p : Nat, p < 4 → m_its r p 0 = 1 → ∀ i : Nat, (i : Int) < m_its r p 1 → (∀ k : Nat, (k : Int) < r 2 → m_write r k ≠ m_its r p (4 + 3 * i)) ∧ ∀ q : Nat, q < 4 → m_its r q 0 = 1 → ∀ j : Nat, (j : Int) < m_its r q 1 → (p ≠ q ∨ i ≠ j) → m_its r p (4 + 3 * i) ≠ m_its r q (4 + 3 * j)
def IRe (r : RW) : Prop := ∀ c : Nat, c < 3 → (0 ≤ m_of r c 0 ∧ m_of r c 0 ≤ 15) ∧ -1 ≤ m_of r c 1 ∧ (0 ≤ m_of r c 2 ∧ m_of r c 2 ≤ 20) ∧ -1 ≤ m_of r c 8 ∧ (m_of r c 9 = 0 ∨ m_of r c 9 = 1) ∧ (0 ≤ m_of r c 11 ∧ m_of r c 11 ≤ r 0) ∧ 0 ≤ m_of r c 10
/-- a message: from lo on due, of the tick t -/
def IMe1 (r : RW) (lo : Int) (n : Int) (t : Int) : Prop := (m_way r n 0 = 0 ∨ m_way r n 0 = 1) ∧ (0 ≤ m_way r n 1 ∧ m_way r n 1 ≤ 2) ∧ (r 0 + lo ≤ m_way r n 2 ∧ m_way r n 2 ≤ r 0 + 9) ∧ (0 ≤ m_way r n 3 ∧ m_way r n 3 ≤ 8) ∧ 0 ≤ m_way r n 4 ∧ (∀ k : Nat, (k : Int) < m_way r n 3 → 0 ≤ m_rowOf r n k ∧ m_rowOf r n k < r 2) ∧ t ≤ r 0 ∧ (m_way r n 0 = 0 → m_way r n 2 ≤ t + 9) ∧ m_way r n 2 ≤ t + 18 ∧ (m_way r n 0 = 1 → m_way r n 3 = 0)
/-- the messages on their way; in this tick those of receivers below e have been sent -/
def IMe (r : RW) (lo e : Int) : Prop := ∃ g : Nat → Int, ∀ n : Nat, (n : Int) < r 9 → IMe1 r lo n (g n) ∧ (g n = r 0 → m_way r n 1 < e) ∧ ∀ m : Nat, (m : Int) < r 9 → n ≠ m → g n ≠ g m ∨ m_way r n 1 ≠ m_way r m 1
def ISe (r : RW) : Prop := (r 10 = 0 ∨ r 10 = 1) ∧ (1 ≤ r 11 ∧ r 11 ≤ 9) ∧ (1 ≤ r 12 ∧ r 12 ≤ 8) ∧ (1 ≤ r 13 ∧ r 13 ≤ 20) ∧ (0 ≤ r 14 ∧ r 14 ≤ 9) ∧ (r 15 = 0 ∨ r 15 = 1) ∧ (1 ≤ r 16 ∧ r 16 ≤ 20)
def ICo (r : RW) : Prop := (0 ≤ r 2 ∧ r 2 ≤ 200) ∧ (0 ≤ r 3 ∧ r 3 ≤ r 2) ∧ m_kept r ≤ 60 ∧ 0 ≤ r 9 ∧ 0 ≤ r 5 ∧ r 5 + r 9 ≤ r 4 ∧ 0 ≤ r 6 ∧ r 6 ≤ r 8 ∧ r 8 ≤ 8 * r 6
/-- how far all has come -/
def ITi (r : RW) (T : Int) : Prop := (0 ≤ r 0 ∧ r 0 ≤ T) ∧ (0 ≤ r 1 ∧ r 1 ≤ T) ∧ r 4 ≤ 60 * r 0 ∧ r 6 ≤ 3 * r 0 ∧ ∀ c : Nat, c < 3 → 0 ≤ m_of r c 3 ∧ m_of r c 3 ≤ 500 * r 0
def Inv (r : RW) (T : Int) : Prop := RF r ∧ ITi r T ∧ ICo r ∧ ISe r ∧ IPl r ∧ IRo r ∧ IDi r ∧ IRe r ∧ IMe r 1 3
theorem Inv.rf {r : RW} {T : Int} (h : Inv r T) : RF r := h.1
theorem Inv.ti {r : RW} {T : Int} (h : Inv r T) : ITi r T := h.2.1
theorem Inv.co {r : RW} {T : Int} (h : Inv r T) : ICo r := h.2.2.1
theorem Inv.se {r : RW} {T : Int} (h : Inv r T) : ISe r := h.2.2.2.1
theorem Inv.pl {r : RW} {T : Int} (h : Inv r T) : IPl r := h.2.2.2.2.1
theorem Inv.ro {r : RW} {T : Int} (h : Inv r T) : IRo r := h.2.2.2.2.2.1
theorem Inv.di {r : RW} {T : Int} (h : Inv r T) : IDi r := h.2.2.2.2.2.2.1
theorem Inv.re {r : RW} {T : Int} (h : Inv r T) : IRe r := h.2.2.2.2.2.2.2.1
theorem Inv.me {r : RW} {T : Int} (h : Inv r T) : IMe r 1 3 := h.2.2.2.2.2.2.2.2
theorem Inv.more {r : RW} {T T1 : Int} (h : Inv r T) (hT : T ≤ T1) : Inv r T1 := ⟨h.1, ⟨⟨h.ti.1.1, Int.le_trans h.ti.1.2 hT⟩, ⟨h.ti.2.1.1, Int.le_trans h.ti.2.1.2 hT⟩, h.ti.2.2⟩, h.2.2⟩
/-- an injection into fewer places -/
theorem php : ∀ (N M : Nat) (f : Nat → Nat), (∀ i, i < N → f i < M) → (∀ i j, i < j → j < N → f i ≠ f j) → N ≤ M := by
  intro N
  induction N with
  | zero => intro M f _ _; omega
  | succ N ih =>
    intro M f h1 h2
    have hv := h1 N (by omega)
    have := ih (M - 1) (fun i => if f i < f N then f i else f i - 1) (fun i hi => by
      have a := h1 i (by omega)
      have b := h2 i N hi (by omega)
      show (if f i < f N then f i else f i - 1) < M - 1
      split <;> omega) (fun i j hij hj => by
      have a := h2 i N (by omega) (by omega)
      have b := h2 j N hj (by omega)
      have c := h2 i j hij (by omega)
      show (if f i < f N then f i else f i - 1) ≠ (if f j < f N then f j else f j - 1)
      split <;> split <;> omega)
    omega
/-- how many messages can be on their way -/
theorem IMe.few {r : RW} {lo e : Int} (h : IMe r lo e) (h9 : 0 ≤ r 9) (hl : lo = 0 ∨ lo = 1) (he : 0 ≤ e ∧ e ≤ 3) : r 9 ≤ 54 - 3 * lo + e := by
  obtain ⟨g, hg⟩ := h
  have key := php (r 9).toNat (54 - 3 * lo + e).toNat (fun n => (3 * (g n - (r 0 - 18 + lo)) + m_way r n 1).toNat) (fun i hi => by
    obtain ⟨⟨-, a2, a3, -, -, -, a7, -, a9, -⟩, b, -⟩ := hg i (by omega)
    by_cases q : g i = r 0
    · have := b q
      show (3 * (g i - (r 0 - 18 + lo)) + m_way r i 1).toNat < _
      omega
    · show (3 * (g i - (r 0 - 18 + lo)) + m_way r i 1).toNat < _
      omega) (fun i j hij hj => by
    obtain ⟨⟨-, a2, a3, -, -, -, a7, -, a9, -⟩, b, c⟩ := hg i (by omega)
    obtain ⟨⟨-, d2, d3, -, -, -, d7, -, d9, -⟩, -, -⟩ := hg j (by omega)
    have := c j (by omega) (by omega)
    show (3 * (g i - (r 0 - 18 + lo)) + m_way r i 1).toNat ≠ (3 * (g j - (r 0 - 18 + lo)) + m_way r j 1).toNat
    omega)
  omega
theorem Inv.nine {r : RW} {T : Int} (h : Inv r T) : 0 ≤ r 9 ∧ r 9 ≤ 54 := by
  have h9 := h.co.2.2.2.1
  have := h.me.few h9 (Or.inr rfl) ⟨by decide, by decide⟩
  omega
theorem num_pos {r : RW} (h : IRo r) {k : Nat} (hk : (k : Int) < r 2) : 0 ≤ m_num r k := by
  unfold m_num; split
  · omega
  · exact (h k hk).2.1.1
theorem num_rg {r : RW} (hf : RF r) (h : IRo r) {k : Nat} (hk : (k : Int) < r 2) : rg (m_num r k) := by
  unfold m_num; split
  · have := hf 2; omega
  · exact hf _
theorem topic_rg {r : RW} (h : IRo r) {k : Nat} (hk : (k : Int) < r 2) : 0 ≤ m_topic r k ∧ m_topic r k ≤ 3 := by
  have := (h k hk).1
  unfold m_topic
  rw [Int.tmod_eq_emod_of_nonneg this.1]
  omega
theorem value_rg {r : RW} (h : IRo r) {k : Nat} (hk : (k : Int) < r 2) : 0 ≤ m_value r k ∧ m_value r k ≤ 99 := by
  have := (h k hk).1
  unfold m_value
  rw [Int.tdiv_eq_ediv_of_nonneg this.1]
  omega
