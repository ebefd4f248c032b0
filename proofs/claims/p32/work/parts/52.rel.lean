/-! ===== class and reference say the same ===== -/
/-- sums -/
def sumN (f : Nat → Int) : Nat → Int
  | 0 => 0
  | n + 1 => sumN f n + f n
theorem sumN_congr {f g : Nat → Int} (n : Nat) (h : ∀ k, k < n → f k = g k) : sumN f n = sumN g n := by
  induction n with
  | zero => rfl
  | succ n ih => simp only [sumN]; rw [ih fun k hk => h k (by omega), h n (by omega)]
theorem sumN_0 (n : Nat) : sumN (fun _ => 0) n = 0 := by
  induction n with
  | zero => rfl
  | succ n ih => simp only [sumN]; omega
theorem sumN_rg {f : Nat → Int} {lo hi : Int} (n : Nat) (h : ∀ k, k < n → lo ≤ f k ∧ f k ≤ hi) : n * lo ≤ sumN f n ∧ sumN f n ≤ n * hi := by
  induction n with
  | zero => simp [sumN]
  | succ n ih =>
    have h1 := ih fun k hk => h k (by omega)
    have h2 := h n (by omega)
    simp only [sumN]
    have e1 : ((n + 1 : Nat) : Int) * lo = n * lo + lo := by rw [Int.natCast_add, Int.add_mul]; simp
    have e2 : ((n + 1 : Nat) : Int) * hi = n * hi + hi := by rw [Int.natCast_add, Int.add_mul]; simp
    omega
theorem sumN_split (f : Nat → Int) (p : Nat → Bool) (K N : Nat) (hK : K < N) (hp : p K = true) : sumN (fun k => if p k = true then f k else 0) N = sumN (fun k => if (p k && decide (k ≠ K)) = true then f k else 0) N + f K := by
  induction N with
  | zero => omega
  | succ N ih =>
    simp only [sumN]
    by_cases e : K = N
    · subst e
      rw [if_pos hp, if_neg (by simp)]
      rw [sumN_congr (f := fun k => if p k = true then f k else 0) (g := fun k => if (p k && decide (k ≠ K)) = true then f k else 0) K (fun k hk => by simp [show k ≠ K by omega])]
      omega
    · rw [ih (by omega)]
      have : (if p N = true then f N else 0) = (if (p N && decide (N ≠ K)) = true then f N else 0) := by simp [Ne.symm e]
      omega
/-- a sum over some places is a sum over what stands there -/
theorem sumN_bij (f : Nat → Int) (N : Nat) : ∀ (n : Nat) (o : Nat → Nat) (p : Nat → Bool), (∀ j, j < n → o j < N ∧ p (o j) = true) → (∀ i j, i < j → j < n → o i ≠ o j) → (∀ k, k < N → p k = true → ∃ j, j < n ∧ o j = k) → sumN (fun j => f (o j)) n = sumN (fun k => if p k = true then f k else 0) N := by
  intro n
  induction n with
  | zero =>
    intro o p _ _ h3
    rw [sumN_congr (g := fun _ => 0) N (fun k hk => by
      by_cases q : p k = true
      · obtain ⟨j, hj, -⟩ := h3 k hk q; omega
      · rw [if_neg q]), sumN_0]
    rfl
  | succ n ih =>
    intro o p h1 h2 h3
    have hn := h1 n (by omega)
    rw [sumN_split f p (o n) N hn.1 hn.2]
    simp only [sumN]
    rw [ih o (fun k => p k && decide (k ≠ o n)) (fun j hj => ⟨(h1 j (by omega)).1, by simp [(h1 j (by omega)).2, h2 j n hj (by omega)]⟩) (fun i j hij hj => h2 i j hij (by omega)) (fun k hk q => by
      simp at q
      obtain ⟨j, hj, e⟩ := h3 k hk q.1
      exact ⟨j, by
        rcases Nat.lt_or_ge j n with z | z
        · exact z
        · exfalso; apply q.2; rw [← e, show j = n by omega], e⟩)]
/-- the rows that are kept, by rising numbers -/
def Ord (r : RW) (n : Nat) (o : Nat → Nat) : Prop := (∀ j, j < n → (o j : Int) < r 2 ∧ m_mark r (o j) 0 = false) ∧ (∀ i j, i < j → j < n → m_num r (o i) < m_num r (o j)) ∧ ∀ k : Nat, (k : Int) < r 2 → m_mark r k 0 = false → ∃ j, j < n ∧ o j = k
theorem Ord.inj {r : RW} {n : Nat} {o : Nat → Nat} (h : Ord r n o) {i j : Nat} (hi : i < n) (hj : j < n) (e : o i = o j) : i = j := by
  rcases Nat.lt_trichotomy i j with q | q | q
  · have := h.2.1 i j q hj; rw [e] at this; omega
  · exact q
  · have := h.2.1 j i q hi; rw [e] at this; omega
theorem Ord.mono {r : RW} {n : Nat} {o : Nat → Nat} (h : Ord r n o) {i j : Nat} (hij : i ≤ j) (hj : j < n) : m_num r (o i) ≤ m_num r (o j) := by
  rcases Nat.lt_or_ge i j with q | q
  · exact Int.le_of_lt (h.2.1 i j q hj)
  · rw [show i = j by omega]; exact Int.le_refl _
theorem nextL_min (r : RW) (a : Int) (N : Nat) : (m_nextL r a N = -1 ∧ ∀ k : Nat, k < N → ¬ (m_mark r k 0 = false ∧ a < m_num r k)) ∨ ∃ k : Nat, k < N ∧ m_nextL r a N = k ∧ m_mark r k 0 = false ∧ a < m_num r k ∧ ∀ k' : Nat, k' < N → m_mark r k' 0 = false → a < m_num r k' → m_num r k ≤ m_num r k' := by
  induction N with
  | zero => exact Or.inl ⟨rfl, fun k hk => by omega⟩
  | succ N ih =>
    simp only [m_nextL]
    rcases ih with ⟨e, h⟩ | ⟨k, hk, e, h1, h2, h3⟩
    · by_cases q : m_mark r N 0 = false ∧ a < m_num r N
      · right
        refine ⟨N, by omega, by rw [if_pos ⟨q, Or.inl e⟩], q.1, q.2, fun k' hk' m1 m2 => ?_⟩
        rcases Nat.lt_or_ge k' N with z | z
        · exact absurd ⟨m1, m2⟩ (h k' z)
        · rw [show k' = N by omega]; exact Int.le_refl _
      · left
        refine ⟨by rw [if_neg (fun z => q z.1), e], fun k hk => ?_⟩
        rcases Nat.lt_or_ge k N with z | z
        · exact h k z
        · rw [show k = N by omega]; exact q
    · right
      by_cases q : (m_mark r N 0 = false ∧ a < m_num r N) ∧ m_num r N < m_num r k
      · refine ⟨N, by omega, by rw [if_pos ⟨q.1, Or.inr (by rw [e]; exact q.2)⟩], q.1.1, q.1.2, fun k' hk' m1 m2 => ?_⟩
        rcases Nat.lt_or_ge k' N with z | z
        · have := h3 k' z m1 m2; omega
        · rw [show k' = N by omega]; exact Int.le_refl _
      · refine ⟨k, by omega, ?_, h1, h2, fun k' hk' m1 m2 => ?_⟩
        · rw [if_neg, e]
          rintro ⟨z1, z2 | z2⟩
          · rw [e] at z2; omega
          · rw [e] at z2; exact q ⟨z1, z2⟩
        · rcases Nat.lt_or_ge k' N with z | z
          · exact h3 k' z m1 m2
          · rw [show k' = N by omega] at m1 m2 ⊢
            rcases Int.lt_or_le (m_num r N) (m_num r k) with y | y
            · exact absurd ⟨⟨m1, m2⟩, y⟩ q
            · exact y
/-- the next one of the reference stands next in the order -/
theorem next_at {r : RW} {n : Nat} {o : Nat → Nat} (h : Ord r n o) {a : Int} {i : Nat} (hi : i ≤ n) (h1 : ∀ j, j < i → m_num r (o j) ≤ a) (h2 : i < n → a < m_num r (o i)) : m_next r a = if i < n then (o i : Int) else -1 := by
  unfold m_next
  rcases nextL_min r a (r 2).toNat with ⟨e, q⟩ | ⟨k, hk, e, q1, q2, q3⟩
  · by_cases z : i < n
    · have := h.1 i z
      exact absurd ⟨this.2, h2 z⟩ (q (o i) (by omega))
    · rw [if_neg z, e]
  · obtain ⟨j, hj, ej⟩ := h.2.2 k (by omega) q1
    have hij : i ≤ j := by
      rcases Nat.lt_or_ge j i with z | z
      · have := h1 j z; rw [ej] at this; omega
      · exact z
    have z : i < n := by omega
    have hoi := h.1 i z
    have := q3 (o i) (by omega) hoi.2 (h2 z)
    rw [if_pos z, e]
    rcases Nat.lt_or_ge i j with y | y
    · have := h.2.1 i j y hj; rw [ej] at this; omega
    · rw [show i = j by omega, ej]
theorem keptAt_at {r : RW} {n : Nat} {o : Nat → Nat} (h : Ord r n o) (h0 : ∀ j, j < n → 0 ≤ m_num r (o j)) (j : Nat) (hj : j < n) : m_keptAt r j = o j := by
  induction j with
  | zero =>
    simp only [m_keptAt]
    rw [next_at h (i := 0) (by omega) (fun j hj => by omega) (fun z => by have := h0 0 z; omega), if_pos hj]
  | succ j ih =>
    simp only [m_keptAt]
    rw [ih (by omega), next_at h (i := j + 1) (by omega) (fun i hi => h.mono (by omega) (by omega)) (fun z => h.2.1 j (j + 1) (by omega) z), if_pos hj]
theorem rowsL_sum (r : RW) (c : Int) (n : Nat) : m_rowsL r c n = sumN (fun k => if decide (m_mark r k 0 = false) = true then (if m_ans r k c = false then 1 else 0) else 0) n := by
  induction n with
  | zero => rfl
  | succ n ih =>
    simp only [m_rowsL, sumN, ih]
    congr 1
    by_cases h : m_mark r n 0 = false <;> by_cases h2 : m_ans r n c = false <;> simp [h, h2]
theorem rows_at {r : RW} {n : Nat} {o : Nat → Nat} (h : Ord r n o) (c : Int) : m_rows r c = sumN (fun j => if m_ans r (o j) c = false then 1 else 0) n := by
  unfold m_rows
  rw [rowsL_sum]
  exact (sumN_bij (fun k => if m_ans r k c = false then 1 else 0) (r 2).toNat n o (fun k => decide (m_mark r k 0 = false)) (fun j hj => by have := h.1 j hj; exact ⟨by omega, by simp [this.2]⟩) (fun i j hij hj e => by have := h.inj (by omega) hj e; omega) (fun k hk q => h.2.2 k (by omega) (by simpa using q))).symm
/-- messages by tick, then by sending -/
def Lex (r : RW) (i j : Nat) : Prop := m_way r i 2 < m_way r j 2 ∨ (m_way r i 2 = m_way r j 2 ∧ i < j)
def Sig (r : RW) (n : Nat) (s : Nat → Nat) : Prop := (∀ j, j < n → s j < n) ∧ (∀ m, m < n → ∃ j, j < n ∧ s j = m) ∧ ∀ i j, i < j → j < n → Lex r (s i) (s j)
theorem Sig.ne {r : RW} {n : Nat} {s : Nat → Nat} (h : Sig r n s) {i j : Nat} (hij : i < j) (hj : j < n) : s i ≠ s j := by
  have := h.2.2 i j hij hj
  unfold Lex at this
  intro e; rw [e] at this; omega
theorem before_iff (r : RW) (i j : Nat) : m_before r i j = true ↔ Lex r i j := by
  unfold m_before Lex
  simp
theorem aheadL_sum (r : RW) (i : Int) (n : Nat) : m_ahead r i n = sumN (fun k => if true = true then (if m_before r k i = true then 1 else 0) else 0) n := by
  induction n with
  | zero => rfl
  | succ n ih => simp only [m_ahead, sumN, ih]; simp
theorem sumN_lt (j n : Nat) (h : j ≤ n) : sumN (fun i => if i < j then 1 else 0) n = j := by
  induction n with
  | zero => simp [sumN]; omega
  | succ n ih =>
    simp only [sumN]
    by_cases e : j = n + 1
    · subst e
      rw [sumN_congr (g := fun _ => 1) n (fun k hk => by rw [if_pos (by omega)])]
      have : ∀ m : Nat, sumN (fun _ => 1) m = m := fun m => by
        induction m with
        | zero => rfl
        | succ m ih => simp only [sumN, ih]; omega
      rw [this, if_pos (by omega)]; omega
    · rw [ih (by omega), if_neg (by omega)]; omega
theorem ahead_at {r : RW} {n : Nat} {s : Nat → Nat} (h : Sig r n s) (j : Nat) (hj : j < n) : m_ahead r (s j) n = j := by
  rw [aheadL_sum]
  rw [← sumN_bij (fun k => if m_before r k (s j) = true then 1 else 0) n n s (fun _ => true) (fun i hi => ⟨h.1 i hi, rfl⟩) (fun i k hik hk => h.ne hik hk) (fun k hk _ => h.2.1 k hk)]
  rw [sumN_congr (g := fun i => if i < j then 1 else 0) n (fun i hi => ?_), sumN_lt j n (by omega)]
  by_cases q : i < j
  · rw [if_pos q, if_pos ((before_iff _ _ _).mpr (h.2.2 i j q hj))]
  · rw [if_neg q, if_neg]
    rw [before_iff]
    intro z
    rcases Nat.lt_or_ge j i with y | y
    · have := h.2.2 j i y hi
      unfold Lex at this z
      omega
    · rw [show i = j by omega] at z
      unfold Lex at z; omega
theorem rankL_at {r : RW} {x : Int} {m : Nat} (N : Nat) : ∀ (n i : Nat), i + n = N → i ≤ m → m < N → m_ahead r m (r 9).toNat = x → (∀ k : Nat, k < m → m_ahead r k (r 9).toNat ≠ x) → m_rankL r x n i = m := by
  intro n
  induction n with
  | zero => intro i h1 h2 h3; omega
  | succ n ih =>
    intro i h1 h2 h3 h4 h5
    simp only [m_rankL]
    by_cases e : i = m
    · subst e; rw [if_pos h4]
    · rw [if_neg (h5 i (by omega))]
      have := ih (i + 1) (by omega) (by omega) h3 h4 h5
      rw [← this]; congr 1
theorem ranked_at {r : RW} {n : Nat} {s : Nat → Nat} (hn : (r 9).toNat = n) (h : Sig r n s) (j : Nat) (hj : j < n) : m_ranked r j = s j := by
  unfold m_ranked
  rw [hn]
  have hx := ahead_at h j hj
  exact rankL_at n n 0 (by omega) (by omega) (h.1 j hj) (by rw [hn]; exact hx) (fun k hk e => by
    rw [hn] at e
    obtain ⟨i, hi, ei⟩ := h.2.1 k (by have := h.1 j hj; omega)
    rw [← ei, ahead_at h i hi] at e
    have : i = j := by omega
    rw [this] at ei; omega)
theorem onwL_sum (r : RW) (c : Int) (n : Nat) : m_onwL r c n = sumN (fun k => if true = true then (if m_way r k 1 = c then 1 else 0) else 0) n := by
  induction n with
  | zero => rfl
  | succ n ih => simp only [m_onwL, sumN, ih]; simp
theorem onway_at {r : RW} {n : Nat} {s : Nat → Nat} (hn : (r 9).toNat = n) (h : Sig r n s) (c : Int) : m_onway r c = sumN (fun j => if m_way r (s j) 1 = c then 1 else 0) n := by
  unfold m_onway
  rw [onwL_sum, hn]
  exact (sumN_bij (fun k => if m_way r k 1 = c then 1 else 0) n n s (fun _ => true) (fun i hi => ⟨h.1 i hi, rfl⟩) (fun i k hik hk => h.ne hik hk) (fun k hk _ => h.2.1 k hk)).symm
/-! the relation -/
def RSm (u : Mem) (q : Nat) (r : RW) (n : Int) : Prop := mI u q 1 = m_way r n 0 ∧ mI u q 2 = m_way r n 1 ∧ mI u q 3 = m_way r n 2 ∧ mI u q 4 = m_way r n 3 ∧ mI u q 5 = m_way r n 4 ∧ ∀ k : Nat, (k : Int) < m_way r n 3 → mI u (q + 1) k = m_rowOf r n k
def RSl (u : Mem) (b : Nat) (r : RW) : Prop := mI u b 1 = r 9 ∧ mI u b 2 = r 4 ∧ mI u b 3 = r 5 ∧ mI u b 4 = r 6 ∧ mI u b 5 = r 8 ∧ mI u b 6 = r 7 ∧ ∃ s, Sig r (r 9).toNat s ∧ ∀ j : Nat, j < (r 9).toNat → RSm u (qa u b j) r (s j)
def RSo (u : Mem) (b : Nat) (r : RW) : Prop := ∃ o, Ord r (m_kept r).toNat o ∧ ∀ j : Nat, j < (m_kept r).toNat → mI u (b + 7) j = o j
def RSa (u : Mem) (b : Nat) (r : RW) : Prop := ∀ k : Nat, (k : Int) < r 2 → mI u (b + 1) k = m_num r k ∧ mI u (b + 2) k = m_write r k ∧ mI u (b + 3) k = m_topic r k ∧ mI u (b + 4) k = m_value r k ∧ mI u (b + 5) k = b_and (b_shr (r (97 + 3 * k + 2)) 1) 7 ∧ mI u (b + 6) k = b_and (b_shr (r (97 + 3 * k + 2)) 4) 7
def RSr (u : Mem) (b : Nat) (r : RW) : Prop := mI u b 7 = r 2 ∧ mI u b 8 = m_kept r ∧ mI u b 9 = r 3 ∧ RSa u b r ∧ RSo u b r
def RSc (u : Mem) (b : Nat) (r : RW) (i : Int) : Prop := mI u b 1 = m_of r i 2 ∧ mI u b 2 = m_of r i 0 ∧ mI u b 3 = m_of r i 1 ∧ mI u b 4 = m_of r i 3 ∧ mI u b 5 = m_of r i 4 ∧ mI u b 6 = m_of r i 5 ∧ mI u b 7 = m_of r i 6 ∧ mI u b 8 = m_of r i 7 ∧ mI u b 9 = m_of r i 12 ∧ mI u b 10 = m_of r i 8 ∧ mI u b 11 = m_of r i 9 ∧ mI u b 12 = m_of r i 11 ∧ (mI u b 13 = m_of r i 10 ∨ (mI u b 13 = -1 ∧ m_of r i 10 = 0)) ∧ ∀ j : Nat, (j : Int) < m_of r i 2 → mI u (b + 1) j = m_of r i (13 + j)
def RSt (u : Mem) (b : Nat) (r : RW) (p : Int) : Prop := mI u b 3 = m_its r p 0 ∧ mI u b 4 = m_its r p 1 ∧ ∀ i : Nat, (i : Int) < m_its r p 1 → mI u (b + 1) i = m_its r p (4 + 3 * i) ∧ mI u (b + 2) i = m_its r p (2 + 3 * i) ∧ mI u (b + 3) i = m_its r p (2 + 3 * i + 1)
def RS (u : Mem) (a : Nat) (r : RW) : Prop := StO u a ∧ (mI u a 5 = r 0 ∧ mI u a 6 = r 1) ∧ (∀ i : Nat, i < 7 → mI u (a + 1) i = r (10 + i)) ∧ (∀ p : Nat, p < 4 → RSt u (a + 3 + 4 * p) r p) ∧ RSr u (a + 19) r ∧ (∀ i : Nat, i < 3 → RSc u (a + 28 + 2 * i) r i) ∧ RSl u (a + 34) r
theorem RS.o {u : Mem} {a : Nat} {r : RW} (h : RS u a r) : StO u a := h.1
theorem RS.tick {u : Mem} {a : Nat} {r : RW} (h : RS u a r) : mI u a 5 = r 0 := h.2.1.1
theorem RS.writ {u : Mem} {a : Nat} {r : RW} (h : RS u a r) : mI u a 6 = r 1 := h.2.1.2
theorem RS.set {u : Mem} {a : Nat} {r : RW} (h : RS u a r) {i : Nat} (hi : i < 7) : mI u (a + 1) i = r (10 + i) := h.2.2.1 i hi
theorem RS.t {u : Mem} {a : Nat} {r : RW} (h : RS u a r) {p : Nat} (hp : p < 4) : RSt u (a + 3 + 4 * p) r p := h.2.2.2.1 p hp
theorem RS.r {u : Mem} {a : Nat} {r : RW} (h : RS u a r) : RSr u (a + 19) r := h.2.2.2.2.1
theorem RS.c {u : Mem} {a : Nat} {r : RW} (h : RS u a r) {i : Nat} (hi : i < 3) : RSc u (a + 28 + 2 * i) r i := h.2.2.2.2.2.1 i hi
theorem RS.l {u : Mem} {a : Nat} {r : RW} (h : RS u a r) : RSl u (a + 34) r := h.2.2.2.2.2.2
