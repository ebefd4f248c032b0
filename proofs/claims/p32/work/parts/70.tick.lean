/-! ===== what holds in the midst of a tick ===== -/
/-- what a tick leaves alone -/
def TF (r g : RW) : Prop := (∀ j, (j = 1 ∨ j = 2 ∨ j = 3 ∨ (10 ≤ j ∧ j < 97)) → g j = r j) ∧ ∀ k : Nat, (k : Int) < 200 → m_write g k = m_write r k
theorem TF.refl (r : RW) : TF r r := ⟨fun _ _ => rfl, fun _ _ => rfl⟩
theorem TF.trans {r g h : RW} (a : TF r g) (b : TF g h) : TF r h := ⟨fun j hj => (b.1 j hj).trans (a.1 j hj), fun k hk => (b.2 k hk).trans (a.2 k hk)⟩
theorem TF.di {r g : RW} (h : TF r g) (h2 : r 2 ≤ 200) (h6 : ∀ p : Nat, p < 4 → m_its r p 1 ≤ 6) (hd : IDi r) : IDi g := by
  have e2 := h.1 2 (by omega)
  have ew : ∀ k : Nat, (k : Int) < r 2 → m_write g k = m_write r k := fun k hk => h.2 k (by omega)
  have ei : ∀ p : Nat, p < 4 → ∀ x : Int, 0 ≤ x → x < 20 → m_its g p x = m_its r p x := fun p hp x h0 h1 => by unfold m_its; exact h.1 _ (by omega)
  refine ⟨fun k j hkj hj => ?_, fun p hp hop i hi => ⟨fun k hk => ?_, fun q hq hoq j hj hne => ?_⟩⟩
  · rw [e2] at hj
    rw [ew k (by omega), ew j hj]; exact hd.1 k j hkj hj
  · rw [e2] at hk
    rw [ei p hp 0 (by decide) (by decide)] at hop
    rw [ei p hp 1 (by decide) (by decide)] at hi
    have := h6 p hp
    rw [ew k hk, ei p hp _ (by omega) (by omega)]; exact (hd.2 p hp hop i hi).1 k hk
  · rw [ei p hp 0 (by decide) (by decide)] at hop
    rw [ei p hp 1 (by decide) (by decide)] at hi
    rw [ei q hq 0 (by decide) (by decide)] at hoq
    rw [ei q hq 1 (by decide) (by decide)] at hj
    have := h6 p hp
    have := h6 q hq
    rw [ei p hp _ (by omega) (by omega), ei q hq _ (by omega) (by omega)]; exact (hd.2 p hp hop i hi).2 q hq hoq j hj hne
def ITm (r : RW) (T e D : Int) : Prop := (1 ≤ r 0 ∧ r 0 ≤ T) ∧ (0 ≤ r 1 ∧ r 1 ≤ T) ∧ r 4 ≤ 60 * (r 0 - 1) + D ∧ r 6 ≤ 3 * (r 0 - 1) + e ∧ ∀ c : Nat, c < 3 → 0 ≤ m_of r c 3 ∧ m_of r c 3 ≤ 500 * (r 0 - 1) + 8 * D
def Mid (r : RW) (T lo e D : Int) : Prop := IB r ∧ IMe r lo e ∧ ITm r T e D
theorem row_keep {r g : RW} {n : Nat} (h : ∀ x : Int, 0 ≤ x → x ≤ 6 → m_way g n x = m_way r n x) {k : Nat} (hk : k < 8) : m_rowOf g n k = m_rowOf r n k := by
  unfold m_rowOf
  rw [h _ (by have := Int.tdiv_nonneg (a := (k : Int)) (b := 4) (by omega) (by decide); omega) (by rw [Int.tdiv_eq_ediv_of_nonneg (by omega)]; omega)]
/-- one message under another number -/
theorem IMe1.as {r g : RW} {lo t : Int} {n m : Nat} (h : IMe1 r lo n t) (h0 : g 0 = r 0) (h2 : g 2 = r 2) (hw : ∀ x : Int, 0 ≤ x → x ≤ 6 → m_way g m x = m_way r n x) : IMe1 g lo m t := by
  obtain ⟨a1, a2, a3, a4, a5, a6, a7, a8, a9, a10⟩ := h
  unfold IMe1
  rw [h0, h2, hw 0 (by decide) (by decide), hw 1 (by decide) (by decide), hw 2 (by decide) (by decide), hw 3 (by decide) (by decide), hw 4 (by decide) (by decide)]
  refine ⟨a1, a2, a3, a4, a5, fun k hk => ?_, a7, a8, a9, a10⟩
  have : m_rowOf g m k = m_rowOf r n k := by
    unfold m_rowOf
    rw [hw _ (by have := Int.tdiv_nonneg (a := (k : Int)) (b := 4) (by omega) (by decide); omega) (by rw [Int.tdiv_eq_ediv_of_nonneg (by omega)]; omega)]
  rw [this]; exact a6 k hk
theorem IMe.keep {r g : RW} {lo e : Int} (h : IMe r lo e) (h0 : g 0 = r 0) (h2 : g 2 = r 2) (h9 : g 9 = r 9) (hw : ∀ j, 811 ≤ j → g j = r j) : IMe g lo e := by
  obtain ⟨og, ho⟩ := h
  refine ⟨og, fun n hn => ?_⟩
  rw [h9] at hn
  obtain ⟨a, b, c⟩ := ho n hn
  have e1 : ∀ m : Nat, m_way g m 1 = m_way r m 1 := fun m => way_keep hw (by omega) (by decide)
  refine ⟨a.as h0 h2 (fun x x0 _ => way_keep hw (by omega) x0), by rw [h0, e1]; exact b, fun m hm hne => ?_⟩
  rw [h9] at hm
  rw [e1, e1]; exact c m hm hne
abbrev IMeG (r : RW) (lo e : Int) (g : Nat → Int) : Prop := ∀ n : Nat, (n : Int) < r 9 → IMe1 r lo n (g n) ∧ (g n = r 0 → m_way r n 1 < e) ∧ ∀ m : Nat, (m : Int) < r 9 → n ≠ m → g n ≠ g m ∨ m_way r n 1 ≠ m_way r m 1
theorem IMeG.keep {r g : RW} {lo e : Int} {og : Nat → Int} (ho : IMeG r lo e og) (h0 : g 0 = r 0) (h2 : g 2 = r 2) (h9 : g 9 = r 9) (hw : ∀ j, 811 ≤ j → g j = r j) : IMeG g lo e og := by
  intro n hn
  rw [h9] at hn
  obtain ⟨a, b, c⟩ := ho n hn
  have e1 : ∀ m : Nat, m_way g m 1 = m_way r m 1 := fun m => way_keep hw (by omega) (by decide)
  refine ⟨a.as h0 h2 (fun x x0 _ => way_keep hw (by omega) x0), by rw [h0, e1]; exact b, fun m hm hne => ?_⟩
  rw [h9] at hm
  rw [e1, e1]; exact c m hm hne
theorem IMeG.off {r : RW} {lo e : Int} {og : Nat → Int} {N n : Nat} (ho : IMeG r lo e og) (hN : r 9 = N) (hn : n < N) (hN2 : N ≤ 60) : IMeG (m_takeOff r n) lo e (fun k => og (if k < n then k else k + 1)) := by
  obtain ⟨t1, t9, t3⟩ := takeOff_at hN hn hN2
  intro k hk
  dsimp only
  rw [t9] at hk
  have hk' : k < N - 1 := by omega
  obtain ⟨a, b, c⟩ := ho (if k < n then k else k + 1) (by split <;> omega)
  refine ⟨a.as (t1 0 (by decide) (by omega)) (t1 2 (by decide) (by omega)) (fun x x0 x1 => t3 k hk' x x0 x1), ?_, fun m hm hne => ?_⟩
  · rw [t1 0 (by decide) (by omega), t3 k hk' 1 (by decide) (by decide)]; exact b
  · rw [t9] at hm
    rw [t3 k hk' 1 (by decide) (by decide), t3 m (by omega) 1 (by decide) (by decide)]
    exact c _ (by split <;> omega) (by (repeat' split) <;> omega)
theorem IMe.off {r : RW} {lo e : Int} {N n : Nat} (h : IMe r lo e) (hN : r 9 = N) (hn : n < N) (hN2 : N ≤ 60) : IMe (m_takeOff r n) lo e := by
  obtain ⟨og, ho⟩ := h
  exact ⟨_, IMeG.off ho hN hn hN2⟩
/-- a message more -/
theorem IMe.add {r g : RW} {lo e e' : Int} {N : Nat} (og : Nat → Int) (h : ∀ n : Nat, (n : Int) < r 9 → IMe1 r lo n (og n) ∧ (og n = r 0 → m_way r n 1 < e) ∧ ∀ m : Nat, (m : Int) < r 9 → n ≠ m → og n ≠ og m ∨ m_way r n 1 ≠ m_way r m 1) (hN : r 9 = N) (hg9 : g 9 = (N : Int) + 1) (h0 : g 0 = r 0) (h2 : g 2 = r 2) (hw : ∀ n : Nat, n < N → ∀ x : Int, 0 ≤ x → x ≤ 6 → m_way g n x = m_way r n x) (he : e ≤ e') {t : Int} (h1 : IMe1 g lo N t) (ht : t = r 0 → m_way g N 1 < e') (hd : ∀ n : Nat, n < N → og n ≠ t ∨ m_way r n 1 ≠ m_way g N 1) : IMe g lo e' := by
  refine ⟨fun k => if k < N then og k else t, fun n hn => ?_⟩
  rw [hg9] at hn
  dsimp only
  by_cases q : n < N
  · obtain ⟨a, b, c⟩ := h n (by omega)
    refine ⟨by rw [if_pos q]; exact a.as h0 h2 (hw n q), ?_, fun m hm hne => ?_⟩
    · rw [if_pos q, h0, hw n q 1 (by decide) (by decide)]; intro z; have := b z; omega
    · rw [hg9] at hm
      rw [if_pos q, hw n q 1 (by decide) (by decide)]
      by_cases y : m < N
      · rw [if_pos y, hw m y 1 (by decide) (by decide)]; exact c m (by omega) hne
      · rw [if_neg y, show m = N by omega]; exact hd n q
  · have e1 : n = N := by omega
    subst e1
    refine ⟨by rw [if_neg q]; exact h1, by rw [if_neg q, h0]; exact ht, fun m hm hne => ?_⟩
    rw [hg9] at hm
    rw [if_neg q, if_pos (show m < n by omega), hw m (by omega) 1 (by decide) (by decide)]
    have := hd m (by omega)
    omega
/-- how many are due -/
def dcN (r : RW) : Int := sumN (fun m => if m_way r m 2 ≤ r 0 then 1 else 0) (r 9).toNat
theorem dcN_rg (r : RW) (h9 : 0 ≤ r 9) : 0 ≤ dcN r ∧ dcN r ≤ r 9 := by
  have := sumN_rg (f := fun m => if m_way r m 2 ≤ r 0 then 1 else 0) (lo := 0) (hi := 1) (r 9).toNat (fun k _ => by split <;> decide)
  unfold dcN; omega
theorem dc_off {r : RW} {N n : Nat} (hN : r 9 = N) (hn : n < N) (hN2 : N ≤ 60) (hd : m_way r n 2 ≤ r 0) : dcN (m_takeOff r n) = dcN r - 1 := by
  obtain ⟨t1, t9, t3⟩ := takeOff_at hN hn hN2
  unfold dcN
  rw [t9, hN, t1 0 (by decide) (by omega), Int.toNat_natCast, show ((N : Int) - 1).toNat = N - 1 by omega]
  have e1 := sumN_split (fun m => if m_way r m 2 ≤ r 0 then 1 else 0) (fun _ => true) n N hn rfl
  rw [if_pos hd] at e1
  rw [sumN_congr (f := fun k => if (fun _ : Nat => true) k = true then (if m_way r k 2 ≤ r 0 then (1 : Int) else 0) else 0) (g := fun m => if m_way r m 2 ≤ r 0 then 1 else 0) N (fun k _ => by simp)] at e1
  rw [e1]
  have e2 := sumN_bij (fun m => if m_way r m 2 ≤ r 0 then 1 else 0) N (N - 1) (fun k => if k < n then k else k + 1) (fun k => true && decide (k ≠ n)) (fun j hj => ⟨by split <;> omega, by simp; split <;> omega⟩) (fun i j hij hj => by (repeat' split) <;> omega) (fun k hk q => by
    simp at q
    by_cases y : k < n
    · exact ⟨k, by omega, by rw [if_pos y]⟩
    · exact ⟨k - 1, by omega, by rw [if_neg (by omega)]; omega⟩)
  rw [← e2]
  rw [sumN_congr (N - 1) (fun k hk => by rw [t3 k hk 2 (by decide) (by decide)])]
  omega
theorem dc_add {r g : RW} {N : Nat} (hN : r 9 = N) (hg9 : g 9 = (N : Int) + 1) (h0 : g 0 = r 0) (hw : ∀ n : Nat, n < N → m_way g n 2 = m_way r n 2) (hd : r 0 < m_way g N 2) : dcN g = dcN r := by
  unfold dcN
  rw [hg9, hN, h0, Int.toNat_natCast, show ((N : Int) + 1).toNat = N + 1 by omega]
  simp only [sumN]
  rw [if_neg (by omega), Int.add_zero]
  exact sumN_congr N fun k hk => by rw [hw k hk]
theorem dc_keep {r g : RW} (h0 : g 0 = r 0) (h9 : g 9 = r 9) (hw : ∀ j, 811 ≤ j → g j = r j) : dcN g = dcN r := by
  unfold dcN
  rw [h9, h0]
  exact sumN_congr _ fun k _ => by rw [way_keep hw (by omega) (by decide)]
/-- the first due one -/
theorem dueL_spec (r : RW) : ∀ n i : Nat, (m_dueL r n i = -1 ∧ ∀ m : Nat, i ≤ m → m < i + n → ¬ m_way r m 2 ≤ r 0) ∨ ∃ m : Nat, i ≤ m ∧ m < i + n ∧ m_dueL r n i = m ∧ m_way r m 2 ≤ r 0 ∧ ∀ k : Nat, i ≤ k → k < m → ¬ m_way r k 2 ≤ r 0 := by
  intro n
  induction n with
  | zero => intro i; exact Or.inl ⟨rfl, fun m h1 h2 => by omega⟩
  | succ n ih =>
    intro i
    simp only [m_dueL]
    by_cases q : m_way r i 2 ≤ r 0
    · rw [if_pos q]; exact Or.inr ⟨i, Nat.le_refl _, by omega, rfl, q, fun k h1 h2 => by omega⟩
    · rw [if_neg q]
      have := ih (i + 1)
      rw [show ((i + 1 : Nat) : Int) = (i : Int) + 1 by omega] at this
      rcases this with ⟨e, h⟩ | ⟨m, h1, h2, e, h3, h4⟩
      · exact Or.inl ⟨e, fun m h1 h2 => by
          by_cases z : m = i
          · rw [z]; exact q
          · exact h m (by omega) (by omega)⟩
      · exact Or.inr ⟨m, by omega, by omega, e, h3, fun k k1 k2 => by
          by_cases z : k = i
          · rw [z]; exact q
          · exact h4 k (by omega) k2⟩
theorem due_at {r : RW} {N n : Nat} {e : Int} (hN : r 9 = N) (hm : LexMin r N n) (h : IMe r 0 e) : m_due r = if m_way r n 2 ≤ r 0 then (n : Int) else -1 := by
  obtain ⟨og, ho⟩ := h
  have hge : ∀ m : Nat, m < N → r 0 ≤ m_way r m 2 := fun m hm' => by have := (ho m (by omega)).1.2.2.1; omega
  unfold m_due
  rw [hN, Int.toNat_natCast]
  have := dueL_spec r N 0
  rw [show ((0 : Nat) : Int) = 0 from rfl, Nat.zero_add] at this
  rcases this with ⟨e1, h1⟩ | ⟨m, -, h2, e1, h3, h4⟩
  · rw [e1, if_neg (h1 n (Nat.zero_le _) hm.1)]
  · rw [e1]
    by_cases z : m = n
    · subst z; rw [if_pos h3]
    · have hl := hm.2 m h2 z
      have := hge m h2
      have := hge n hm.1
      unfold Lex at hl
      have h5 : m_way r n 2 ≤ r 0 := by omega
      have : n < m := by omega
      exact absurd h5 (h4 n (Nat.zero_le _) this)
theorem due_none {r : RW} (h : dcN r = 0) : m_due r = -1 := by
  unfold m_due
  have h0 := (sumN_pos0 (f := fun m => if m_way r m 2 ≤ r 0 then 1 else 0) (r 9).toNat (fun k _ => by split <;> decide)).mp h
  have := dueL_spec r (r 9).toNat 0
  rw [show ((0 : Nat) : Int) = 0 from rfl, Nat.zero_add] at this
  rcases this with ⟨e1, -⟩ | ⟨m, -, h2, e1, h3, -⟩
  · exact e1
  · have := h0 m h2
    rw [if_pos h3] at this; omega
theorem dc_first {r : RW} {N n : Nat} {e : Int} (hN : r 9 = N) (hm : LexMin r N n) (h : IMe r 0 e) (hd : 0 < dcN r) : m_way r n 2 ≤ r 0 := by
  apply Decidable.byContradiction
  intro q
  have : dcN r = 0 := by
    unfold dcN
    rw [hN, Int.toNat_natCast]
    rw [sumN_congr (g := fun _ => 0) N (fun k hk => by
      rw [if_neg]
      by_cases z : k = n
      · rw [z]; exact q
      · have := hm.2 k hk z; unfold Lex at this; omega), sumN_0]
  omega
/-- the class's count -/
theorem dc_prefix {u : Mem} {b : Nat} {r : RW} (h : RSl u b r) {k : Nat} (hk : (k : Int) ≤ r 9) (h1 : ∀ j : Nat, j < k → mI u (qa u b j) 3 ≤ r 0) (h2 : (k : Int) < r 9 → r 0 < mI u (qa u b k) 3) : dcN r = k := by
  obtain ⟨-, -, -, -, -, -, s, hs, hm⟩ := h
  obtain ⟨N, hN⟩ : ∃ N : Nat, r 9 = N := ⟨(r 9).toNat, by omega⟩
  rw [hN, Int.toNat_natCast] at hs hm
  unfold dcN
  rw [hN, Int.toNat_natCast]
  have := sumN_bij (fun m => if m_way r m 2 ≤ r 0 then 1 else 0) N N s (fun _ => true) (fun i hi => ⟨hs.1 i hi, rfl⟩) (fun i j hij hj => hs.ne hij hj) (fun j hj _ => hs.2.1 j hj)
  rw [sumN_congr (f := fun k => if (fun _ : Nat => true) k = true then (if m_way r k 2 ≤ r 0 then (1 : Int) else 0) else 0) (g := fun m => if m_way r m 2 ≤ r 0 then 1 else 0) N (fun k _ => by simp)] at this
  rw [← this]
  rw [sumN_congr (g := fun i => if i < k then 1 else 0) N (fun i hi => ?_), sumN_lt k N (by omega)]
  by_cases q : i < k
  · rw [if_pos q, if_pos]
    have := h1 i q
    rw [(hm i hi).2.2.1] at this; exact this
  · rw [if_neg q, if_neg]
    have hkN : k < N := by omega
    have := h2 (by omega)
    rw [(hm k hkN).2.2.1] at this
    rcases Nat.lt_or_ge k i with y | y
    · have := hs.2.2 k i y hi
      unfold Lex at this; omega
    · rw [show i = k by omega]; omega
