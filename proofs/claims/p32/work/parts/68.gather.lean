/-! ===== a batch is filled ===== -/
/-- from place i on, d places -/
def wkG (r : RW) (o : Nat → Nat) (c : Int) : Nat → Nat → Nat → RW → Nat × RW
  | 0, _, s, B => (s, B)
  | d + 1, i, s, B => if (s : Int) < r 12 ∧ m_ans r (o i) c = false then wkG r o c d (i + 1) (s + 1) (up B s (o i)) else wkG r o c d (i + 1) s B
theorem wkG_full {r : RW} {o : Nat → Nat} {c : Int} {s : Nat} (h : r 12 ≤ s) : ∀ d i B, wkG r o c d i s B = (s, B) := by
  intro d
  induction d with
  | zero => intro _ _; rfl
  | succ d ih => intro i B; simp only [wkG]; rw [if_neg (fun z => by omega)]; exact ih _ _
theorem wkG_skip {r : RW} {o : Nat → Nat} {c : Int} {s : Nat} : ∀ (k d i : Nat) (B : RW), k ≤ d → (∀ j, i ≤ j → j < i + k → m_ans r (o j) c = true) → wkG r o c d i s B = wkG r o c (d - k) (i + k) s B := by
  intro k
  induction k with
  | zero => intro d i B _ _; rfl
  | succ k ih =>
    intro d i B hd hj
    obtain ⟨d', rfl⟩ : ∃ d', d = d' + 1 := ⟨d - 1, by omega⟩
    simp only [wkG]
    rw [if_neg (fun z => by have := hj i (Nat.le_refl _) (by omega); rw [this] at z; exact absurd z.2 (by decide))]
    rw [ih d' (i + 1) B (by omega) (fun j h1 h2 => hj j (by omega) (by omega)), show d' + 1 - (k + 1) = d' - k by omega, show i + 1 + k = i + (k + 1) by omega]
theorem gat_at {r : RW} {N : Nat} {o : Nat → Nat} (hO : Ord r N o) {c : Int} : ∀ (d i n : Nat) (a : Int) (B : RW) (F : Nat), N - i = d → i ≤ N → d + 1 ≤ F → (∀ j, j < i → m_num r (o j) ≤ a) → (i < N → a < m_num r (o i)) → m_of r c 8 ≤ a → m_gat r c F a n B = (((wkG r o c d i n B).1 : Int), (wkG r o c d i n B).2) := by
  intro d
  induction d with
  | zero =>
    intro i n a B F hd hi hF h1 h2 h3
    obtain ⟨F', rfl⟩ : ∃ F', F = F' + 1 := ⟨F - 1, by omega⟩
    simp only [m_gat, wkG]
    rw [if_pos (Or.inl (by rw [next_at hO hi h1 h2, if_neg (by omega)]))]
  | succ d ih =>
    intro i n a B F hd hi hF h1 h2 h3
    obtain ⟨F', rfl⟩ : ∃ F', F = F' + 1 := ⟨F - 1, by omega⟩
    have hnx := next_at hO hi h1 h2
    rw [if_pos (by omega)] at hnx
    simp only [m_gat]
    rw [hnx]
    by_cases q : r 12 ≤ n
    · rw [if_pos (Or.inr q), wkG_full q]
    · rw [if_neg (by rintro (z | z) <;> omega)]
      have hlt := h2 (by omega)
      have hrec := fun n' B' => ih (i + 1) n' (m_num r (o i)) B' F' (by omega) (by omega) (by omega) (fun j hj => hO.mono (by omega) (by omega)) (fun z => hO.2.1 i (i + 1) (by omega) z) (by omega)
      simp only [wkG]
      by_cases w : m_wants r c (m_topic r (o i)) = true
      · have ha : m_ans r (o i) c = false := (ans_iff r (o i) c).mpr ⟨w, by omega⟩
        rw [if_pos w, if_pos ⟨by omega, ha⟩]
        have := hrec (n + 1) (up B n (o i))
        rw [show ((n : Int) + 1) = ((n + 1 : Nat) : Int) by omega]; exact this
      · have ha : ¬ m_ans r (o i) c = false := fun z => w ((ans_iff r (o i) c).mp z).1
        rw [if_neg w, if_neg (fun z => ha z.2)]
        exact hrec n B
theorem ord_above {r : RW} {N : Nat} {o : Nat → Nat} (hO : Ord r N o) (a : Int) : ∃ i, i ≤ N ∧ (∀ j, j < i → m_num r (o j) ≤ a) ∧ (i < N → a < m_num r (o i)) := by
  have key : ∀ M, M ≤ N → ∃ i, i ≤ M ∧ (∀ j, j < i → m_num r (o j) ≤ a) ∧ (i < M → a < m_num r (o i)) := by
    intro M
    induction M with
    | zero => intro _; exact ⟨0, Nat.le_refl _, fun j hj => by omega, fun z => by omega⟩
    | succ M ih =>
      intro hM
      obtain ⟨i, h1, h2, h3⟩ := ih (by omega)
      by_cases q : i < M
      · exact ⟨i, by omega, h2, fun _ => h3 q⟩
      · have e : i = M := by omega
        subst e
        by_cases z : a < m_num r (o i)
        · exact ⟨i, by omega, h2, fun _ => z⟩
        · exact ⟨i + 1, by omega, fun j hj => by
            by_cases y : j = i
            · rw [y]; omega
            · exact h2 j (by omega), fun y => by omega⟩
  exact key N (Nat.le_refl _)
theorem gather_at {r : RW} {N : Nat} {o : Nat → Nat} (hO : Ord r N o) (hN : N ≤ 60) {c : Int} (b : RW) : m_gather r c b = (((wkG r o c N 0 0 b).1 : Int), (wkG r o c N 0 0 b).2) := by
  obtain ⟨i, h1, h2, h3⟩ := ord_above hO (m_of r c 8)
  unfold m_gather
  have := gat_at hO (c := c) (N - i) i 0 (m_of r c 8) b 201 rfl h1 (by omega) h2 h3 (Int.le_refl _)
  rw [show ((0 : Nat) : Int) = 0 from rfl] at this
  rw [this, wkG_skip (r := r) (o := o) (c := c) i N 0 b h1 (fun j _ hj => by
    cases q : m_ans r (o j) c
    · have := ((ans_iff r (o j) c).mp q).2
      have := h2 j (by omega)
      omega
    · rfl), Nat.zero_add]
set_option maxRecDepth 100000 in
theorem ors_at : ∀ M : Fin 128, ∀ c : Fin 3, b_and (b_shr (b_or (M.val : Int) (b_shl 1 (4 + c.val))) 4) 7 = b_or (b_and (b_shr (M.val : Int) 4) 7) (b_shl 1 c.val) ∧ b_and (b_shr (b_or (M.val : Int) (b_shl 1 (4 + c.val))) 1) 7 = b_and (b_shr (M.val : Int) 1) 7 ∧ (b_and (b_shr (b_or (M.val : Int) (b_shl 1 (4 + c.val))) 0) 1 = b_and (b_shr (M.val : Int) 0) 1) ∧ (0 ≤ b_or (M.val : Int) (b_shl 1 (4 + c.val)) ∧ b_or (M.val : Int) (b_shl 1 (4 + c.val)) < 128) := by decide +kernel
theorem ors_of {x : Int} (h : 0 ≤ x ∧ x < 128) {c : Nat} (hc : c < 3) : b_and (b_shr (b_or x (b_shl 1 (4 + c))) 4) 7 = b_or (b_and (b_shr x 4) 7) (b_shl 1 c) ∧ b_and (b_shr (b_or x (b_shl 1 (4 + c))) 1) 7 = b_and (b_shr x 1) 7 ∧ (b_and (b_shr (b_or x (b_shl 1 (4 + c))) 0) 1 = b_and (b_shr x 0) 1) ∧ (0 ≤ b_or x (b_shl 1 (4 + c)) ∧ b_or x (b_shl 1 (4 + c)) < 128) := by
  have := ors_at ⟨x.toNat, by omega⟩ ⟨c, hc⟩
  dsimp only at this
  rw [show ((x.toNat : Nat) : Int) = x by omega] at this
  exact this
theorem setm_at {r : RW} (rf : RF r) (k b : Int) : (∀ j, j ≠ 97 + 3 * k + 2 → m_setm r k b j = r j) ∧ m_setm r k b (97 + 3 * k + 2) = b_or (r (97 + 3 * k + 2)) (b_shl 1 b) := by
  unfold m_setm
  exact ⟨fun j hj => up_n _ _ hj, by rw [up_s]; exact wr_id (rg_or _ _)⟩
theorem ib_sent {r : RW} (hB : IB r) {k c : Nat} (hk : (k : Int) < r 2) (hc : c < 3) : IB (m_setm r k (4 + c)) := by
  obtain ⟨rf, ⟨c1, c2, c3, c4⟩, se, pl, ro, re, ni⟩ := hB
  obtain ⟨s1, s2⟩ := setm_at rf k (4 + (c : Int))
  have e := fun j (hj : j < 97 ∨ 697 ≤ j) => s1 j (by omega)
  refine ⟨rf_setm rf _ _, ⟨by rw [e 2 (by omega)]; exact c1, by rw [e 2 (by omega), e 3 (by omega)]; exact c2, by unfold m_kept at *; rw [e 2 (by omega), e 3 (by omega)]; exact c3, by rw [e 9 (by omega), e 5 (by omega), e 4 (by omega), e 6 (by omega), e 8 (by omega)]; exact c4⟩, ?_, fun p hp => ?_, fun j hj => ?_, fun d hd => ?_, by rw [e 9 (by omega)]; exact ni⟩
  · unfold ISe at *; rw [e 10 (by omega), e 11 (by omega), e 12 (by omega), e 13 (by omega), e 14 (by omega), e 15 (by omega), e 16 (by omega)]; exact se
  · have ep : ∀ x : Int, 0 ≤ x → x < 20 → m_its (m_setm r k (4 + c)) p x = m_its r p x := fun x h1 h2 => by unfold m_its; exact e _ (by omega)
    obtain ⟨a1, a2, a3⟩ := pl p hp
    rw [ep 0 (by omega) (by omega), ep 1 (by omega) (by omega), e 1 (by omega)]
    exact ⟨a1, a2, fun i hi => by rw [ep _ (by omega) (by omega), ep _ (by omega) (by omega), ep _ (by omega) (by omega)]; exact a3 i hi⟩
  · rw [e 2 (by omega)] at hj
    obtain ⟨a1, a2, a3⟩ := ro j hj
    unfold m_write at *
    rw [s1 (97 + 3 * j) (by omega), s1 (97 + 3 * j + 1) (by omega), e 1 (by omega)]
    refine ⟨a1, a2, ?_⟩
    by_cases q : j = k
    · subst q; rw [s2]; exact (ors_of a3 hc).2.2.2
    · rw [s1 _ (by omega)]; exact a3
  · have eo : ∀ x : Int, 0 ≤ x → x < 38 → m_of (m_setm r k (4 + c)) d x = m_of r d x := fun x h1 h2 => by unfold m_of; exact e _ (by omega)
    rw [eo 0 (by omega) (by omega), eo 1 (by omega) (by omega), eo 2 (by omega) (by omega), eo 8 (by omega) (by omega), eo 9 (by omega) (by omega), eo 11 (by omega) (by omega), eo 10 (by omega) (by omega), e 0 (by omega)]; exact re d hd
/-- the class's mark of a row that is sent -/
theorem rs_sent {u w : Mem} {a : Nat} {r : RW} (hS : RS u a r) (hB : IB r) {k c : Nat} (hk : (k : Int) < r 2) (hc : c < 3) (hf : Fr u w (fun q => q = a + 25) (fun _ => False)) (he : mI w (a + 25) = up (mI u (a + 25)) k (b_or (b_and (b_shr (r (97 + 3 * k + 2)) 4) 7) (b_shl 1 c))) : RS w a (m_setm r k (4 + c)) := by
  have rf := hB.rf
  have b2 := hB.co.1
  obtain ⟨w1, w2⟩ := setm_at rf k (4 + (c : Int))
  have hor := ors_of (hB.ro k hk).2.2 hc
  refine ⟨hf.stO hS.o, ⟨?_, ?_⟩, fun i hi => ?_, fun p hp => ?_, ⟨?_, ?_, ?_, fun j hj => ?_, ?_⟩, fun d hd => ?_, ?_⟩
  · rw [hf.mI (by omega), w1 _ (by omega)]; exact hS.tick
  · rw [hf.mI (by omega), w1 _ (by omega)]; exact hS.writ
  · rw [hf.mI (by omega), w1 _ (by omega)]; exact hS.set hi
  · exact (hS.t hp).keep (fun q h1 h2 => hf.mI (by omega)) (fun j h1 h2 => w1 j (by omega)) (hB.pl p hp).2.1.2
  · rw [hf.mI (by omega), w1 _ (by omega)]; exact hS.r.1
  · rw [hf.mI (by omega)]; unfold m_kept; rw [w1 _ (by omega), w1 _ (by omega)]; exact hS.r.2.1
  · rw [hf.mI (by omega), w1 _ (by omega)]; exact hS.r.2.2.1
  · rw [w1 2 (by omega)] at hj
    obtain ⟨a1, a2, a3, a4, a5, a6⟩ := hS.r.2.2.2.1 j hj
    rw [hf.mI (show ¬ (a + 19 + 1 = a + 25) by omega), hf.mI (show ¬ (a + 19 + 2 = a + 25) by omega), hf.mI (show ¬ (a + 19 + 3 = a + 25) by omega), hf.mI (show ¬ (a + 19 + 4 = a + 25) by omega), hf.mI (show ¬ (a + 19 + 5 = a + 25) by omega)]
    rw [num_keep (r := r) (w1 10 (by omega)) (w1 _ (by omega))]
    unfold m_write m_topic m_value
    rw [w1 (97 + 3 * j + 1) (by omega), w1 (97 + 3 * j) (by omega)]
    refine ⟨a1, a2, a3, a4, ?_, ?_⟩
    · by_cases e : j = k
      · subst e; rw [w2, hor.2.1]; exact a5
      · rw [w1 (97 + 3 * j + 2) (by omega)]; exact a5
    · rw [show a + 19 + 6 = a + 25 by omega, he]
      by_cases e : j = k
      · subst e; rw [up_s, w2, hor.1]; exact wr_id (rg_or _ _)
      · rw [up_n _ _ (by omega), w1 (97 + 3 * j + 2) (by omega)]; exact a6
  · obtain ⟨o, hO, ho⟩ := hS.r.2.2.2.2
    have ek : m_kept (m_setm r k (4 + c)) = m_kept r := by unfold m_kept; rw [w1 _ (by omega), w1 _ (by omega)]
    refine ⟨o, ?_, fun j hj => ?_⟩
    · rw [ek]
      refine hO.keep (w1 2 (by omega)) (fun j hj => ?_) (fun j hj => num_keep (w1 10 (by omega)) (w1 _ (by omega)))
      by_cases e : j = k
      · subst e; unfold m_mark; rw [w2, hor.2.2.1]
      · exact mark_keep (w1 _ (by omega))
    · rw [ek] at hj
      rw [hf.mI (by omega)]; exact ho j hj
  · exact (hS.c hd).keep (hf.mI (by omega)) (hf.mI (by omega)) (fun j h1 h2 => w1 j (by omega)) (by have := (hB.re d hd).2.2.1; omega)
  · exact hS.l.keep hS.o.l (fun q h1 h2 => hf.mI (by omega)) (hf.mP id) (fun j hj => w1 j (by omega)) hB.ni
/-- the marks of the first n rows of a batch -/
theorem markL_at {r B : RW} (hB : IB r) {c : Nat} (hc : c < 3) : ∀ n : Nat, (∀ k : Nat, k < n → 0 ≤ B k ∧ B k < r 2) → IB (m_markL r B c n) ∧ (∀ j, (j < 97 ∨ 697 ≤ j) → m_markL r B c n j = r j) ∧ ∀ k : Nat, (k : Int) < r 2 → m_markL r B c n (97 + 3 * k) = r (97 + 3 * k) ∧ m_markL r B c n (97 + 3 * k + 1) = r (97 + 3 * k + 1) := by
  intro n
  induction n with
  | zero => intro _; exact ⟨hB, fun _ _ => rfl, fun _ _ => ⟨rfl, rfl⟩⟩
  | succ n ih =>
    intro h
    obtain ⟨i1, i2, i3⟩ := ih fun k hk => h k (by omega)
    obtain ⟨K, hK⟩ : ∃ K : Nat, B n = K := ⟨(B n).toNat, by have := h n (by omega); omega⟩
    have hKr := h n (by omega)
    rw [hK] at hKr
    have b2 := hB.co.1
    have s1 := (setm_at i1.rf (K : Int) (4 + (c : Int))).1
    simp only [m_markL]
    rw [hK]
    refine ⟨ib_sent i1 (by rw [i2 2 (by omega)]; exact hKr.2) hc, fun j hj => by rw [s1 j (by omega)]; exact i2 j hj, fun k hk => ?_⟩
    rw [s1 _ (by omega), s1 _ (by omega)]; exact i3 k hk
theorem markL_congr (r : RW) {B B' : RW} (c : Int) : ∀ n : Nat, (∀ k : Nat, k < n → B k = B' k) → m_markL r B c n = m_markL r B' c n := by
  intro n
  induction n with
  | zero => intro _; rfl
  | succ n ih => intro h; simp only [m_markL]; rw [ih fun k hk => h k (by omega), h n (by omega)]
theorem ans_keep {r g : RW} (h10 : g 10 = r 10) {k c : Nat} (h0 : g (97 + 3 * k) = r (97 + 3 * k)) (h1 : g (97 + 3 * k + 1) = r (97 + 3 * k + 1)) (hw : m_of g c 0 = m_of r c 0) (h8 : m_of g c 8 = m_of r c 8) : m_ans g k c = m_ans r k c := by
  unfold m_ans m_wants m_topic
  rw [h0, hw, h8, num_keep h10 h1]
