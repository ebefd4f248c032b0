/-! the state: commits -/
def insO (o : Nat → Nat) (p K : Nat) : Nat → Nat := fun j => if j < p then o j else if j = p then K else o (j - 1)
theorem Ord.ins {r r' : RW} {n : Nat} {o : Nat → Nat} (h : Ord r n o) {K p : Nat} (hK : r 2 = K) (hK' : r' 2 = K + 1) (hp : p ≤ n) (hm : ∀ k : Nat, k < K → m_mark r' k 0 = m_mark r k 0) (hn : ∀ k : Nat, k < K → m_num r' k = m_num r k) (hmK : m_mark r' K 0 = false) (h1 : ∀ j, j < p → m_num r (o j) < m_num r' K) (h2 : ∀ j, p ≤ j → j < n → m_num r' K < m_num r (o j)) : Ord r' (n + 1) (insO o p K) := by
  obtain ⟨a1, a2, a3⟩ := h
  have a1' : ∀ j, j < n → o j < K ∧ m_mark r (o j) 0 = false := fun j hj => ⟨by have := (a1 j hj).1; omega, (a1 j hj).2⟩
  have key : ∀ j, j < n + 1 → (j = p ∧ insO o p K j = K) ∨ (∃ i, i < n ∧ insO o p K j = o i ∧ ((j < p ∧ i = j) ∨ (p < j ∧ i + 1 = j))) := fun j hj => by
    unfold insO
    rcases Nat.lt_trichotomy j p with q | q | q
    · right; exact ⟨j, by omega, by rw [if_pos q], Or.inl ⟨q, rfl⟩⟩
    · left; exact ⟨q, by rw [if_neg (by omega), if_pos q]⟩
    · right; exact ⟨j - 1, by omega, by rw [if_neg (by omega), if_neg (by omega)], Or.inr ⟨q, by omega⟩⟩
  refine ⟨fun j hj => ?_, fun i j hij hj => ?_, fun k hk hk0 => ?_⟩
  · rcases key j hj with ⟨-, e⟩ | ⟨i, hi, e, -⟩
    · rw [e]; exact ⟨by omega, hmK⟩
    · rw [e, hm _ (a1' i hi).1]; exact ⟨by have := (a1' i hi).1; omega, (a1' i hi).2⟩
  · rcases key i (by omega) with ⟨ei, e⟩ | ⟨x, hx, e, ex⟩ <;> rcases key j hj with ⟨ej, f⟩ | ⟨y, hy, f, ey⟩
    · omega
    · rw [e, f, hn _ (a1' y hy).1]; exact h2 y (by omega) hy
    · rw [e, f, hn _ (a1' x hx).1]; exact h1 x (by omega)
    · rw [e, f, hn _ (a1' x hx).1, hn _ (a1' y hy).1]; exact a2 x y (by omega) hy
  · by_cases e : k = K
    · exact ⟨p, by omega, by unfold insO; rw [if_neg (by omega), if_pos rfl, e]⟩
    · obtain ⟨j, hj, ej⟩ := a3 k (by omega) (by rw [← hm k (by omega)]; exact hk0)
      rcases Nat.lt_or_ge j p with q | q
      · exact ⟨j, by omega, by unfold insO; rw [if_pos q, ej]⟩
      · exact ⟨j + 1, by omega, by unfold insO; rw [if_neg (by omega), if_neg (by omega)]; exact ej⟩
/-- where a row goes in the order -/
theorem opos_at {u : Mem} {b : Nat} {r : RW} {N : Nat} {o : Nat → Nat} (hO : Ord r N o) (ho : ∀ j : Nat, j < N → mI u (b + 7) j = o j) (hn : ∀ k : Nat, (k : Int) < r 2 → mI u (b + 1) k = m_num r k) {x : Int} (hx : ∀ k : Nat, (k : Int) < r 2 → m_num r k ≠ x) : (∀ j, j < c_opos u b x N → m_num r (o j) < x) ∧ ∀ j, c_opos u b x N ≤ j → j < N → x < m_num r (o j) := by
  have hv : ∀ j, j < N → mI u (b + 1) (mI u (b + 7) j) = m_num r (o j) := fun j hj => by rw [ho j hj]; exact hn _ (hO.1 j hj).1
  have key : ∀ M, M ≤ N → (∀ j, j < c_opos u b x M → m_num r (o j) < x) ∧ ∀ j, c_opos u b x M ≤ j → j < M → x < m_num r (o j) := by
    intro M
    induction M with
    | zero => intro _; exact ⟨fun j hj => by simp [c_opos] at hj, fun j _ hj => by omega⟩
    | succ M ih =>
      intro hM
      obtain ⟨i1, i2⟩ := ih (by omega)
      simp only [c_opos]
      rw [hv M (by omega)]
      by_cases q : x < m_num r (o M)
      · rw [if_pos q]
        exact ⟨i1, fun j h1 h2 => by
          by_cases e : j = M
          · rw [e]; exact q
          · exact i2 j h1 (by omega)⟩
      · rw [if_neg q]
        have hne := hx _ (hO.1 M (by omega)).1
        refine ⟨fun j hj => ?_, fun j h1 h2 => by omega⟩
        have := hO.mono (show j ≤ M by omega) (by omega)
        omega
  exact key N (Nat.le_refl _)
/-- a row is added -/
theorem RSr.add {u w : Mem} {b : Nat} {g g' : RW} {x y t v : Int} (h : RSr u b g) (rf : RF g) (h2 : 0 ≤ g 2 ∧ g 2 < 200) (h3 : 0 ≤ g 3 ∧ g 3 ≤ g 2) (hk : m_kept g < 60) (ha : RoAd u b x y t v w) (hx : ∀ k : Nat, (k : Int) < g 2 → m_num g k ≠ x) (hxr : rg x) (hyr : rg y) (htr : rg t) (hvr : rg v) (e2 : g' 2 = g 2 + 1) (e3 : g' 3 = g 3) (e10 : g' 10 = g 10) (el : ∀ j, 97 ≤ j → j < 97 + 3 * g 2 → g' j = g j) (n1 : m_num g' (g 2) = x) (n2 : m_write g' (g 2) = y) (n3 : m_topic g' (g 2) = t) (n4 : m_value g' (g 2) = v) (n5 : g' (97 + 3 * g 2 + 2) = 0) : RSr w b g' := by
  obtain ⟨a1, a2, a3, a4, o, a5, a6⟩ := h
  obtain ⟨f0, f1, f2, f3, f4, f5, f6, f7, f8⟩ := ha
  obtain ⟨K, hK⟩ : ∃ K : Nat, g 2 = K := ⟨(g 2).toNat, by omega⟩
  obtain ⟨N, hNN⟩ : ∃ N : Nat, m_kept g = N := ⟨(m_kept g).toNat, by unfold m_kept; omega⟩
  have ek : m_kept g' = N + 1 := by rw [← hNN]; unfold m_kept; rw [e2, e3]; omega
  rw [hK] at n1 n2 n3 n4 n5 h2 e2 el a1
  rw [hNN] at a2 a5 a6 hk
  rw [a1] at f2 f3 f4 f5 f6 f7 f8
  rw [a1, a2] at f1
  rw [a2] at f8
  simp only [Int.toNat_natCast] at f8 a5 a6
  have hnum : ∀ k : Nat, k < K → m_num g' k = m_num g k := fun k hk => num_keep e10 (el _ (by omega) (by omega))
  have hmk : ∀ k : Nat, k < K → m_mark g' k 0 = m_mark g k 0 := fun k hk => mark_keep (el _ (by omega) (by omega))
  have hopos := opos_at (u := u) (b := b) a5 a6 (fun k hk => (a4 k hk).1) hx
  have hole := c_opos_le u b x N
  have hm0 : m_mark g' (K : Int) 0 = false := by unfold m_mark; rw [n5]; decide
  refine ⟨by rw [f1, up_s, e2, wr_id ⟨by omega, by omega⟩], by rw [f1, up_n _ _ (by decide), up_s, ek, wr_id ⟨by omega, by omega⟩], by rw [f1, up_n _ _ (by decide), up_n _ _ (by decide), e3]; exact a3, fun k hk => ?_, insO o (c_opos u b x N) K, ?_, fun j hj => ?_⟩
  · rw [f2, f3, f4, f5, f6, f7]
    by_cases q : k = K
    · subst q
      rw [up_s, up_s, up_s, up_s, up_s, n1, n2, n3, n4, n5, wr_id hxr, wr_id hyr, wr_id htr, wr_id hvr]
      exact ⟨rfl, rfl, rfl, rfl, by decide, by rw [up_s]; decide⟩
    · rw [up_n _ _ (by omega), up_n _ _ (by omega), up_n _ _ (by omega), up_n _ _ (by omega), up_n _ _ (by omega), up_n _ _ (by omega)]
      have hkK : k < K := by omega
      obtain ⟨b1, b2, b3, b4, b5, b6⟩ := a4 k (by omega)
      have m1 := el (97 + 3 * k) (by omega) (by omega)
      have m2 := el (97 + 3 * k + 1) (by omega) (by omega)
      have m3 := el (97 + 3 * k + 2) (by omega) (by omega)
      rw [hnum k hkK, m3]
      unfold m_write m_topic m_value
      rw [m1, m2]
      exact ⟨b1, b2, b3, b4, b5, b6⟩
  · rw [ek, show ((N : Int) + 1).toNat = N + 1 by omega]
    exact a5.ins hK e2 hole hmk hnum hm0 (fun j hj => by rw [n1]; exact hopos.1 j hj) (fun j h1 h2 => by rw [n1]; exact hopos.2 j h1 h2)
  · rw [ek, show ((N : Int) + 1).toNat = N + 1 by omega] at hj
    rw [f8]
    unfold insI insO
    rcases Nat.lt_trichotomy j (c_opos u b x N) with q | q | q
    · rw [if_neg (by omega), if_neg (by omega), if_pos q]; exact a6 j (by omega)
    · rw [if_neg (by omega), if_pos (by omega), if_neg (by omega), if_pos q, wr_id ⟨by omega, by omega⟩]
    · rw [if_pos (by omega), if_neg (by omega), if_neg (by omega)]
      rw [show (j : Int) - 1 = ((j - 1 : Nat) : Int) by omega]; exact a6 (j - 1) (by omega)
theorem commit1_at {g : RW} (rf : RF g) {q i : Nat} {K : Nat} (hq : q < 4) (hi : i < 6) (hK : g 2 = K) (hK2 : K < 200) (j : Int) : m_commit1 g q i j = if j = 2 then (K : Int) + 1 else if j = 97 + 3 * K + 2 then 0 else if j = 97 + 3 * K + 1 then m_its g q (4 + 3 * i) else if j = 97 + 3 * K then wr (m_its g q (2 + 3 * i) + 4 * m_its g q (2 + 3 * i + 1)) else g j := by
  unfold m_commit1
  simp only [hK]
  have e1 : (up g (97 + 3 * (K : Int)) (g (17 + 20 * (q : Int) + 2 + 3 * i) + 4 * g (17 + 20 * q + 2 + 3 * i + 1))) (17 + 20 * q + 2 + 3 * i + 2) = m_its g q (4 + 3 * i) := by
    rw [up_n _ _ (by omega)]; unfold m_its; congr 1; omega
  rw [e1]
  have e2 : (up (up (up g (97 + 3 * (K : Int)) (g (17 + 20 * (q : Int) + 2 + 3 * i) + 4 * g (17 + 20 * q + 2 + 3 * i + 1))) (97 + 3 * K + 1) (m_its g q (4 + 3 * i))) (97 + 3 * K + 2) 0) 2 = K := by
    rw [up_n _ _ (by omega), up_n _ _ (by omega), up_n _ _ (by omega), hK]
  rw [e2]
  have e3 : g (17 + 20 * (q : Int) + 2 + 3 * i) = m_its g q (2 + 3 * i) := by unfold m_its; congr 1; omega
  have e4 : g (17 + 20 * (q : Int) + 2 + 3 * i + 1) = m_its g q (2 + 3 * i + 1) := by unfold m_its; congr 1; omega
  rw [e3, e4]
  unfold up
  (repeat' split) <;> first | rfl | (exfalso; omega) | (exact wr_id ⟨by omega, by omega⟩) | exact wr_id (rg_its rf _ _)
/-- what the first n rows of a transaction make when they are committed -/
theorem commitL_at {r : RW} (rf : RF r) {q K : Nat} (hq : q < 4) (hK : r 2 = K) : ∀ n : Nat, n ≤ 6 → K + n ≤ 200 → (m_commitL r q n) 2 = K + n ∧ (∀ j, j ≠ 2 → (j < 97 + 3 * (K : Int) ∨ 97 + 3 * ((K : Int) + n) ≤ j) → (m_commitL r q n) j = r j) ∧ ∀ i : Nat, i < n → (m_commitL r q n) (97 + 3 * ((K : Int) + i)) = wr (m_its r q (2 + 3 * i) + 4 * m_its r q (2 + 3 * i + 1)) ∧ (m_commitL r q n) (97 + 3 * ((K : Int) + i) + 1) = m_its r q (4 + 3 * i) ∧ (m_commitL r q n) (97 + 3 * ((K : Int) + i) + 2) = 0 := by
  intro n
  induction n with
  | zero => intro _ _; exact ⟨by simp [m_commitL, hK], fun j _ _ => rfl, fun i hi => by omega⟩
  | succ n ih =>
    intro h6 h200
    obtain ⟨i1, i2, i3⟩ := ih (by omega) (by omega)
    have hg := rf_commitL rf q n
    have hat := fun j => commit1_at (g := m_commitL r q n) hg (q := q) (i := n) (K := K + n) hq (by omega) (by rw [i1]; omega) (by omega) j
    have hits : ∀ x : Int, 0 ≤ x → x < 20 → m_its (m_commitL r q n) q x = m_its r q x := fun x h1 h2 => by unfold m_its; exact i2 _ (by omega) (by omega)
    simp only [m_commitL]
    refine ⟨?_, fun j h1 h2 => ?_, fun i hi => ?_⟩
    · rw [hat, if_pos rfl]; omega
    · rw [hat, if_neg h1, if_neg (by omega), if_neg (by omega), if_neg (by omega)]; exact i2 j h1 (by omega)
    · rw [hat, hat, hat]
      by_cases e : i = n
      · subst e
        rw [if_neg (by omega), if_neg (by omega), if_neg (by omega), if_pos (by omega), if_neg (by omega), if_neg (by omega), if_pos (by omega), if_neg (by omega), if_pos (by omega)]
        rw [hits _ (by omega) (by omega), hits _ (by omega) (by omega), hits _ (by omega) (by omega)]
        exact ⟨rfl, rfl, rfl⟩
      · rw [if_neg (by omega), if_neg (by omega), if_neg (by omega), if_neg (by omega), if_neg (by omega), if_neg (by omega), if_neg (by omega), if_neg (by omega), if_neg (by omega), if_neg (by omega), if_neg (by omega), if_neg (by omega)]
        exact i3 i (by omega)
theorem tv_topic {t v : Int} (ht : 0 ≤ t ∧ t ≤ 3) (hv : 0 ≤ v ∧ v ≤ 99) : (wr (t + 4 * v)).tmod 4 = t ∧ (wr (t + 4 * v)).tdiv 4 = v := by
  rw [wr_id ⟨by omega, by omega⟩, Int.tmod_eq_emod_of_nonneg (by omega), Int.tdiv_eq_ediv_of_nonneg (by omega)]
  omega
theorem ib_commitL {r : RW} (hB : IB r) {q K n : Nat} (hq : q < 4) (hK : r 2 = K) (hpr : ∀ i : Nat, (i : Int) < m_its r q 1 → (0 ≤ m_its r q (2 + 3 * i) ∧ m_its r q (2 + 3 * i) ≤ 3) ∧ (0 ≤ m_its r q (2 + 3 * i + 1) ∧ m_its r q (2 + 3 * i + 1) ≤ 99) ∧ (0 ≤ m_its r q (4 + 3 * i) ∧ m_its r q (4 + 3 * i) < r 1)) (hn : (n : Int) ≤ m_its r q 1) (hk : m_kept r + n ≤ 60) (hc : (K : Int) + n ≤ 200) : IB (m_commitL r q n) := by
  obtain ⟨rf, ⟨c1, c2, c3, c4⟩, se, pl, ro, re, ni⟩ := hB
  have h6 := (pl q hq).2.1.2
  obtain ⟨g1, g2, g3⟩ := commitL_at rf hq hK n (by omega) (by omega)
  have e := fun j (h : j ≠ 2) (h2 : j < 97 ∨ 697 ≤ j) => g2 j h (by omega)
  refine ⟨rf_commitL rf q n, ⟨⟨by omega, by omega⟩, ?_, ?_, ?_⟩, ?_, ?_, ?_, ?_, ?_⟩
  · rw [e 3 (by omega) (by omega), g1]; exact ⟨by omega, by omega⟩
  · unfold m_kept at *; rw [e 3 (by omega) (by omega), g1]; omega
  · rw [e 9 (by omega) (by omega), e 5 (by omega) (by omega), e 4 (by omega) (by omega), e 6 (by omega) (by omega), e 8 (by omega) (by omega)]; exact c4
  · unfold ISe at *
    rw [e 10 (by omega) (by omega), e 11 (by omega) (by omega), e 12 (by omega) (by omega), e 13 (by omega) (by omega), e 14 (by omega) (by omega), e 15 (by omega) (by omega), e 16 (by omega) (by omega)]; exact se
  · intro p hp
    have ep : ∀ x : Int, 0 ≤ x → x < 20 → m_its (m_commitL r q n) p x = m_its r p x := fun x h1 h2 => by unfold m_its; exact e _ (by omega) (by omega)
    obtain ⟨a1, a2, a3⟩ := pl p hp
    rw [ep 0 (by omega) (by omega), ep 1 (by omega) (by omega), e 1 (by omega) (by omega)]
    exact ⟨a1, a2, fun i hi => by rw [ep _ (by omega) (by omega), ep _ (by omega) (by omega), ep _ (by omega) (by omega)]; exact a3 i hi⟩
  · intro k hk
    rw [g1] at hk
    unfold m_write
    rw [e 1 (by omega) (by omega)]
    rcases Nat.lt_or_ge k K with y | y
    · rw [g2 _ (by omega) (by omega), g2 _ (by omega) (by omega), g2 _ (by omega) (by omega)]
      exact ro k (by omega)
    · have ek : (k : Int) = (K : Int) + ((k - K : Nat) : Int) := by omega
      rw [ek]
      obtain ⟨b1, b2, b3⟩ := g3 (k - K) (by omega)
      obtain ⟨p1, p2, p3⟩ := hpr (k - K) (by omega)
      rw [b1, b2, b3, wr_id ⟨by omega, by omega⟩]
      omega
  · intro c hc
    have ec : ∀ x : Int, 0 ≤ x → x < 38 → m_of (m_commitL r q n) c x = m_of r c x := fun x h1 h2 => by unfold m_of; exact e _ (by omega) (by omega)
    rw [ec 0 (by omega) (by omega), ec 1 (by omega) (by omega), ec 2 (by omega) (by omega), ec 8 (by omega) (by omega), ec 9 (by omega) (by omega), ec 11 (by omega) (by omega), ec 10 (by omega) (by omega), e 0 (by omega) (by omega)]
    exact re c hc
  · rw [e 9 (by omega) (by omega)]; exact ni
abbrev rmX5_commitAt : Room := { frames := 3, cells := 0, slots := 0, locals := 64 }
set_option maxRecDepth 100000 in
theorem k_St_commitAt {l : Launch} {D : DD} (hfl : l.stackTraces = false) {u : Mem} {a : Nat} {r : RW} (hS : RS u a r) (hB : IB r) {p : Int} (hD : IDi r) (hp : rg p) (hop : m_open r p = true) (hk : m_kept r + m_its r p 1 ≤ 60) (hc : r 2 + m_its r p 1 ≤ 200) : CT l D yX5_commitAt cX5_commitAt 7 none rmX5_commitAt [xA a, xI p] u (fun o w => o = none ∧ RS w a (m_commits r p) ∧ Blk u w a) := by
  have b2 := hB.co.1
  have b3 := hB.co.2.1
  have bk := hB.co.2.2.1
  have rf := hB.rf
  refine CT.of hfl (by decide) (le_b rfl) ?_
  intro C hC hR hL hDD hN
  have hfC : (cxL C).stackTraces = false := by rw [hL]; exact hfl
  show VW C 0 [some (xA a), some (xI p), none, none, none, none, none] [] u 0 0
  refine r_aload_n hC dX5_commitAt_0 rfl ?_
  refine r_iload_n hC dX5_commitAt_1 rfl ?_
  refine r_V0 hC dX5_commitAt_2 mi_X5_hasRoomToCommit se_X5_hasRoomToCommit ml_X5_105 (rm := rmX5_hasRoomToCommit) rfl hS.o.o rfl rfl rfl rfl ⟨le_b rfl, le_b rfl⟩ (k_St_roomC hfC hS hB hp) ?_ rfl
  refine r_bne (t := 9) hC dX5_commitAt_5 (by rfl) (fun h_5 => ?_) (fun h_5 => ?_)
  · skip
    obtain ⟨q, rfl, hq4, hq1⟩ := open_q hop
    have ht := hS.t hq4
    obtain ⟨hpo, hpl, hpr⟩ := hB.pl q hq4
    obtain ⟨N, hNq⟩ : ∃ N : Nat, m_its r q 1 = N := ⟨(m_its r q 1).toNat, by omega⟩
    obtain ⟨K, hK⟩ : ∃ K : Nat, r 2 = K := ⟨(r 2).toNat, by omega⟩
    rw [hNq] at hk hc hpl
    have hcm : m_commits r q = up (m_commitL r q N) (17 + 20 * (q : Int) + 0) 0 := by
      unfold m_commits
      rw [if_neg (by rw [hop]; decide), if_neg (by rw [hNq]; omega), hNq]; rfl
    have lp : ∀ (bw : Int), (bw = if r 10 = 1 then 1 else 0) → ∀ (n : Nat) (i : Nat) (w : Mem) (w6 : Option SV), N - i = n → i ≤ N → RS w a (m_commitL r q i) → Fr u w (fun x => a + 19 ≤ x ∧ x < a + 27) (fun _ => False) → VW C 44 [some (xA a), some (xI q), some (xA (a + 3 + 4 * q)), some (xI K), some (xI bw), some (xI i), w6] [] w 0 0 := by
      intro bw hbw n
      induction n using Nat.strongRecOn with
      | _ n ih =>
        intro i w w6 hn hi hSw hfr
        obtain ⟨g1, g2, g3⟩ := commitL_at rf hq4 hK i (by omega) (by omega)
        have rg' := rf_commitL rf q i
        have htw := hSw.t hq4
        have hits : ∀ x : Int, 0 ≤ x → x < 20 → m_its (m_commitL r q i) q x = m_its r q x := fun x h1 h2 => by unfold m_its; exact g2 _ (by omega) (by omega)
        have hti := fun z : i < N => htw.2.2 i (by rw [hits _ (by decide) (by decide), hNq]; omega)
        refine r_iload hC dX5_commitAt_44 rfl ?_
        refine r_aload_n hC dX5_commitAt_46 rfl ?_
        refine r_getIv (j := 4) (v := N) hC dX5_commitAt_47 fl_X5_89 rfl rfl (hSw.o.t hq4).o (by rw [htw.2.1, hits _ (by decide) (by decide), hNq]) ?_
        refine r_icmp_ge (t := 110) hC dX5_commitAt_50 (by rfl) (by first | with_reducible exact rg_mI _ _ _ | assumption | with_reducible exact rf_at rf _ | with_reducible exact rg_of rf _ _ | with_reducible exact rg_its rf _ _ | with_reducible exact rg_way rf _ _ | with_reducible exact rg_and _ _ | with_reducible exact rg_or _ _ | exact ⟨by omega, by omega⟩) (by first | with_reducible exact rg_mI _ _ _ | assumption | with_reducible exact rf_at rf _ | with_reducible exact rg_of rf _ _ | with_reducible exact rg_its rf _ _ | with_reducible exact rg_way rf _ _ | with_reducible exact rg_and _ _ | with_reducible exact rg_or _ _ | exact ⟨by omega, by omega⟩) (fun h_50 => ?_) (fun h_50 => ?_)
        · skip
          refine r_aload_n hC dX5_commitAt_110 rfl ?_
          refine r_iconst hC dX5_commitAt_111 ?_
          refine r_putI (j := 3) hC dX5_commitAt_112 fl_X5_77 rfl (hSw.o.t hq4).o (by rintro _ ⟨⟩; rfl) (Or.inr ⟨rfl, by first | exact Or.inl rfl | exact Or.inr rfl⟩) ?_
          refine r_vret hC hR dX5_commitAt_115 (le_b rfl) (le_b rfl) ?_
          refine ⟨rfl, ?_, ?_⟩
          · rw [hcm, show N = i by omega]
            have hBi : IB (m_commitL r q i) → RS (sI w (a + 3 + 4 * q) 3 0) a (up (m_commitL r q i) (17 + 20 * (q : Int) + 0) 0) := fun hb => rs_drop hSw hb hq4
            refine hBi ?_
            exact ib_commitL hB hq4 hK hpr (by rw [hNq]; omega) (by omega) (by omega)
          · exact Fr.blk (S := fun x => a ≤ x ∧ x < a + 146) (by repeat (first | exact hfr.weak (fun y hy => by omega) (fun _ h => h) | refine Fr.sI ?_ _ _ (by omega))) (fun _ z => z)
        · skip
          refine r_iload hC dX5_commitAt_53 rfl ?_
          refine r_if_eq (t := 68) hC dX5_commitAt_55 (by rfl) (by rw [hbw]; split <;> exact ⟨by omega, by omega⟩) (fun h_55 => ?_) (fun h_55 => ?_)
          · skip
            refine r_iload_n hC dX5_commitAt_68 rfl ?_
            refine r_iload hC dX5_commitAt_69 rfl ?_
            refine r_iadd hC dX5_commitAt_71 ?_
            refine r_istore (lv' := [_, _, _, _, _, _, _]) hC dX5_commitAt_72 (lt_b rfl) rfl (lt_b rfl) rfl ?_
            refine r_aload_n hC dX5_commitAt_74 rfl ?_
            refine r_getR (j := 2) hC dX5_commitAt_75 fl_X5_33 rfl rfl hSw.o.o hSw.o.p2 ?_
            refine r_iload hC dX5_commitAt_78 rfl ?_
            refine r_aload_n hC dX5_commitAt_80 rfl ?_
            refine r_getR (j := 0) hC dX5_commitAt_81 fl_X5_108 rfl rfl (hSw.o.t hq4).o (hSw.o.t hq4).p0 ?_
            refine r_iload hC dX5_commitAt_84 rfl ?_
            refine r_ialdv (v := m_its r q (4 + 3 * i)) hC dX5_commitAt_86 (hSw.o.t hq4).a0 ⟨by omega, by omega⟩ (by rw [(hti (by omega)).1, hits _ (by omega) (by omega)]) ?_
            refine r_aload_n hC dX5_commitAt_87 rfl ?_
            refine r_getR (j := 1) hC dX5_commitAt_88 fl_X5_111 rfl rfl (hSw.o.t hq4).o (hSw.o.t hq4).p1 ?_
            refine r_iload hC dX5_commitAt_91 rfl ?_
            refine r_ialdv (v := m_its r q (2 + 3 * i)) hC dX5_commitAt_93 (hSw.o.t hq4).a1 ⟨by omega, by omega⟩ (by rw [(hti (by omega)).2.1, hits _ (by omega) (by omega)]) ?_
            refine r_aload_n hC dX5_commitAt_94 rfl ?_
            refine r_getR (j := 2) hC dX5_commitAt_95 fl_X5_114 rfl rfl (hSw.o.t hq4).o (hSw.o.t hq4).p2 ?_
            refine r_iload hC dX5_commitAt_98 rfl ?_
            refine r_ialdv (v := m_its r q (2 + 3 * i + 1)) hC dX5_commitAt_100 (hSw.o.t hq4).a2 ⟨by omega, by omega⟩ (by rw [(hti (by omega)).2.2, hits _ (by omega) (by omega)]) ?_
            have hpi := hpr i (by rw [hNq]; omega)
            have hRw := hSw.r
            have hkept : m_kept (m_commitL r q i) = m_kept r + i := by unfold m_kept; rw [g1, g2 3 (by omega) (by omega)]; omega
            have hmm : ∀ (bb : Nat) (xx : Int) (A : Int), (A = (if bw = 0 then (K : Int) + i else m_its r q (4 + 3 * i))) → m_num (m_commitL r q (i + 1)) ((K : Int) + i) = A ∧ (∀ k : Nat, (k : Int) < (m_commitL r q i) 2 → m_num (m_commitL r q i) k ≠ A) := by
              intro _ _ A hA
              obtain ⟨q1, q2, q3⟩ := commitL_at rf hq4 hK (i + 1) (by omega) (by omega)
              have hw1 : ∀ k : Nat, k < K → m_write (m_commitL r q i) k = m_write r k := fun k hk => by unfold m_write; exact g2 _ (by omega) (by omega)
              have hw2 : ∀ k : Nat, k < i → m_write (m_commitL r q i) ((K + k : Nat) : Int) = m_its r q (4 + 3 * k) := fun k hk => by
                have := (g3 k hk).2.1
                unfold m_write; rw [← this]; congr 1 <;> omega
              have hdi := hD.2 q hq4 hq1 i (by rw [hNq]; omega)
              unfold m_num
              rw [q2 10 (by omega) (by omega), g2 10 (by omega) (by omega), g1]
              by_cases z : r 10 = 0
              · rw [if_pos z]
                rw [if_neg (by omega)] at hbw
                refine ⟨by omega, fun k hk => ?_⟩
                rw [if_pos z]; omega
              · have z1 : r 10 = 1 := by have := hB.se.1; omega
                rw [if_neg z]
                rw [if_pos z1] at hbw
                have hA' : A = m_its r q (4 + 3 * i) := by omega
                refine ⟨?_, fun k hk => ?_⟩
                · unfold m_write; rw [hA', ← (q3 i (by omega)).2.1]
                · rw [if_neg z, hA']
                  rcases Nat.lt_or_ge k K with y | y
                  · rw [hw1 k y]; exact hdi.1 k (by omega)
                  · have e : k = K + (k - K) := by omega
                    rw [e, hw2 (k - K) (by omega)]
                    intro h'
                    exact hdi.2 q hq4 hq1 (k - K) (by rw [hNq]; omega) (Or.inr (by omega)) h'.symm
            obtain ⟨hm1, hm2⟩ := hmm 0 0 ((K : Int) + i) (by first | (rw [if_pos (by omega)]; done) | (rw [if_neg (by omega)]; done))
            refine r_V0p hC dX5_commitAt_101 mi_X4_addRow se_X4_addRow ml_X5_117 (rm := rmX4_addRow) rfl hSw.o.r.o rfl rfl rfl rfl ⟨le_b rfl, le_b rfl⟩ (k_Ro_add hfC hSw.o.r ⟨by omega, by omega⟩ (by rw [hRw.1, g1]; exact ⟨by omega, by omega⟩) (by rw [hRw.2.1, hkept]; unfold m_kept at *; exact ⟨by omega, by omega⟩) (fun j h1 h2 => by
              obtain ⟨o, hO, ho⟩ := hRw.2.2.2.2
              rw [hRw.2.1] at h2
              have := ho j.toNat (by omega)
              rw [show ((j.toNat : Nat) : Int) = j by omega] at this
              rw [this, hRw.1]
              have := (hO.1 j.toNat (by omega)).1
              omega)) ?_ rfl
            rintro o w1 ⟨rfl, had⟩
            have hstep : RS w1 a (m_commitL r q (i + 1)) := by
              obtain ⟨q1, q2, q3⟩ := commitL_at rf hq4 hK (i + 1) (by omega) (by omega)
              have f1 := had.1
              have hlow : ∀ j, j ≠ 2 → (j < 97 + 3 * ((K : Int) + i) ∨ 97 + 3 * ((K : Int) + i) + 3 ≤ j) → (m_commitL r q (i + 1)) j = (m_commitL r q i) j := fun j h1 h2 => by
                simp only [m_commitL]
                rw [commit1_at (g := m_commitL r q i) rg' (K := K + i) hq4 (by omega) (by rw [g1]; omega) (by omega), if_neg h1, if_neg (by omega), if_neg (by omega), if_neg (by omega)]
              refine ⟨f1.stO hSw.o, ⟨?_, ?_⟩, fun x hx => ?_, fun x hx => ?_, ?_, fun x hx => ?_, ?_⟩
              · rw [f1.mI (by omega), hlow _ (by omega) (by omega)]; exact hSw.tick
              · rw [f1.mI (by omega), hlow _ (by omega) (by omega)]; exact hSw.writ
              · rw [f1.mI (by omega), hlow _ (by omega) (by omega)]; exact hSw.set hx
              · exact (hSw.t hx).keep (fun y h1 h2 => f1.mI (by omega)) (fun j h1 h2 => hlow j (by omega) (by omega)) (by
                  have := (hB.pl x hx).2.1.2
                  have e : m_its (m_commitL r q i) x 1 = m_its r x 1 := by unfold m_its; exact g2 _ (by omega) (by omega)
                  rw [e]; exact this)
              · have hKi : ((K : Int) + i) = (m_commitL r q i) 2 := by rw [g1]
                refine RSr.add hRw rg' (by rw [g1]; exact ⟨by omega, by omega⟩) (by rw [g1, g2 3 (by omega) (by omega)]; exact ⟨by omega, by omega⟩) (by rw [hkept]; omega) had hm2 ⟨by omega, by omega⟩ (rg_its rf _ _) (rg_its rf _ _) (rg_its rf _ _) (by rw [q1, g1]; omega) (hlow 3 (by omega) (by omega)) (hlow 10 (by omega) (by omega)) (fun j h1 h2 => hlow j (by omega) (by rw [g1] at h2; omega)) (by rw [← hKi]; exact hm1) (by rw [← hKi]; exact (q3 i (by omega)).2.1) ?_ ?_ (by rw [← hKi]; exact (q3 i (by omega)).2.2)
                · rw [← hKi]; unfold m_topic; rw [(q3 i (by omega)).1]; exact (tv_topic hpi.1 hpi.2.1).1
                · rw [← hKi]; unfold m_value; rw [(q3 i (by omega)).1]; exact (tv_topic hpi.1 hpi.2.1).2
              · exact (hSw.c hx).keep (f1.mI (by omega)) (f1.mI (by omega)) (fun j h1 h2 => hlow j (by omega) (by omega)) (by
                  have := (hB.re x hx).2.2.1.2
                  have e : m_of (m_commitL r q i) x 2 = m_of r x 2 := by unfold m_of; exact g2 _ (by omega) (by omega)
                  rw [e]; omega)
              · exact hSw.l.keep hSw.o.l (fun y h1 h2 => f1.mI (by omega)) (f1.mP id) (fun j hj => hlow j (by omega) (by omega)) (by rw [g2 9 (by omega) (by omega)]; exact hB.ni)
            refine r_iinc (lv' := [_, _, _, _, _, _, _]) hC dX5_commitAt_104 rfl (lt_b rfl) rfl (lt_b rfl) rfl ?_
            refine r_goto (t := 44) hC dX5_commitAt_107 (by rfl) ?_
            exact ih _ (by omega) (i + 1) w1 _ rfl (by omega) hstep (hfr.trans (had.1.weak (fun y hy => by omega) (fun _ h => h)))
          · skip
            refine r_aload_n hC dX5_commitAt_58 rfl ?_
            refine r_getR (j := 0) hC dX5_commitAt_59 fl_X5_108 rfl rfl (hSw.o.t hq4).o (hSw.o.t hq4).p0 ?_
            refine r_iload hC dX5_commitAt_62 rfl ?_
            refine r_ialdv (v := m_its r q (4 + 3 * i)) hC dX5_commitAt_64 (hSw.o.t hq4).a0 ⟨by omega, by omega⟩ (by rw [(hti (by omega)).1, hits _ (by omega) (by omega)]) ?_
            refine r_goto (t := 72) hC dX5_commitAt_65 (by rfl) ?_
            refine r_istore (lv' := [_, _, _, _, _, _, _]) hC dX5_commitAt_72 (lt_b rfl) rfl (lt_b rfl) rfl ?_
            refine r_aload_n hC dX5_commitAt_74 rfl ?_
            refine r_getR (j := 2) hC dX5_commitAt_75 fl_X5_33 rfl rfl hSw.o.o hSw.o.p2 ?_
            refine r_iload hC dX5_commitAt_78 rfl ?_
            refine r_aload_n hC dX5_commitAt_80 rfl ?_
            refine r_getR (j := 0) hC dX5_commitAt_81 fl_X5_108 rfl rfl (hSw.o.t hq4).o (hSw.o.t hq4).p0 ?_
            refine r_iload hC dX5_commitAt_84 rfl ?_
            refine r_ialdv (v := m_its r q (4 + 3 * i)) hC dX5_commitAt_86 (hSw.o.t hq4).a0 ⟨by omega, by omega⟩ (by rw [(hti (by omega)).1, hits _ (by omega) (by omega)]) ?_
            refine r_aload_n hC dX5_commitAt_87 rfl ?_
            refine r_getR (j := 1) hC dX5_commitAt_88 fl_X5_111 rfl rfl (hSw.o.t hq4).o (hSw.o.t hq4).p1 ?_
            refine r_iload hC dX5_commitAt_91 rfl ?_
            refine r_ialdv (v := m_its r q (2 + 3 * i)) hC dX5_commitAt_93 (hSw.o.t hq4).a1 ⟨by omega, by omega⟩ (by rw [(hti (by omega)).2.1, hits _ (by omega) (by omega)]) ?_
            refine r_aload_n hC dX5_commitAt_94 rfl ?_
            refine r_getR (j := 2) hC dX5_commitAt_95 fl_X5_114 rfl rfl (hSw.o.t hq4).o (hSw.o.t hq4).p2 ?_
            refine r_iload hC dX5_commitAt_98 rfl ?_
            refine r_ialdv (v := m_its r q (2 + 3 * i + 1)) hC dX5_commitAt_100 (hSw.o.t hq4).a2 ⟨by omega, by omega⟩ (by rw [(hti (by omega)).2.2, hits _ (by omega) (by omega)]) ?_
            have hpi := hpr i (by rw [hNq]; omega)
            have hRw := hSw.r
            have hkept : m_kept (m_commitL r q i) = m_kept r + i := by unfold m_kept; rw [g1, g2 3 (by omega) (by omega)]; omega
            have hmm : ∀ (bb : Nat) (xx : Int) (A : Int), (A = (if bw = 0 then (K : Int) + i else m_its r q (4 + 3 * i))) → m_num (m_commitL r q (i + 1)) ((K : Int) + i) = A ∧ (∀ k : Nat, (k : Int) < (m_commitL r q i) 2 → m_num (m_commitL r q i) k ≠ A) := by
              intro _ _ A hA
              obtain ⟨q1, q2, q3⟩ := commitL_at rf hq4 hK (i + 1) (by omega) (by omega)
              have hw1 : ∀ k : Nat, k < K → m_write (m_commitL r q i) k = m_write r k := fun k hk => by unfold m_write; exact g2 _ (by omega) (by omega)
              have hw2 : ∀ k : Nat, k < i → m_write (m_commitL r q i) ((K + k : Nat) : Int) = m_its r q (4 + 3 * k) := fun k hk => by
                have := (g3 k hk).2.1
                unfold m_write; rw [← this]; congr 1 <;> omega
              have hdi := hD.2 q hq4 hq1 i (by rw [hNq]; omega)
              unfold m_num
              rw [q2 10 (by omega) (by omega), g2 10 (by omega) (by omega), g1]
              by_cases z : r 10 = 0
              · rw [if_pos z]
                rw [if_neg (by omega)] at hbw
                refine ⟨by omega, fun k hk => ?_⟩
                rw [if_pos z]; omega
              · have z1 : r 10 = 1 := by have := hB.se.1; omega
                rw [if_neg z]
                rw [if_pos z1] at hbw
                have hA' : A = m_its r q (4 + 3 * i) := by omega
                refine ⟨?_, fun k hk => ?_⟩
                · unfold m_write; rw [hA', ← (q3 i (by omega)).2.1]
                · rw [if_neg z, hA']
                  rcases Nat.lt_or_ge k K with y | y
                  · rw [hw1 k y]; exact hdi.1 k (by omega)
                  · have e : k = K + (k - K) := by omega
                    rw [e, hw2 (k - K) (by omega)]
                    intro h'
                    exact hdi.2 q hq4 hq1 (k - K) (by rw [hNq]; omega) (Or.inr (by omega)) h'.symm
            obtain ⟨hm1, hm2⟩ := hmm 0 0 (m_its r q (4 + 3 * i)) (by first | (rw [if_pos (by omega)]; done) | (rw [if_neg (by omega)]; done))
            refine r_V0p hC dX5_commitAt_101 mi_X4_addRow se_X4_addRow ml_X5_117 (rm := rmX4_addRow) rfl hSw.o.r.o rfl rfl rfl rfl ⟨le_b rfl, le_b rfl⟩ (k_Ro_add hfC hSw.o.r (rg_its rf _ _) (by rw [hRw.1, g1]; exact ⟨by omega, by omega⟩) (by rw [hRw.2.1, hkept]; unfold m_kept at *; exact ⟨by omega, by omega⟩) (fun j h1 h2 => by
              obtain ⟨o, hO, ho⟩ := hRw.2.2.2.2
              rw [hRw.2.1] at h2
              have := ho j.toNat (by omega)
              rw [show ((j.toNat : Nat) : Int) = j by omega] at this
              rw [this, hRw.1]
              have := (hO.1 j.toNat (by omega)).1
              omega)) ?_ rfl
            rintro o w1 ⟨rfl, had⟩
            have hstep : RS w1 a (m_commitL r q (i + 1)) := by
              obtain ⟨q1, q2, q3⟩ := commitL_at rf hq4 hK (i + 1) (by omega) (by omega)
              have f1 := had.1
              have hlow : ∀ j, j ≠ 2 → (j < 97 + 3 * ((K : Int) + i) ∨ 97 + 3 * ((K : Int) + i) + 3 ≤ j) → (m_commitL r q (i + 1)) j = (m_commitL r q i) j := fun j h1 h2 => by
                simp only [m_commitL]
                rw [commit1_at (g := m_commitL r q i) rg' (K := K + i) hq4 (by omega) (by rw [g1]; omega) (by omega), if_neg h1, if_neg (by omega), if_neg (by omega), if_neg (by omega)]
              refine ⟨f1.stO hSw.o, ⟨?_, ?_⟩, fun x hx => ?_, fun x hx => ?_, ?_, fun x hx => ?_, ?_⟩
              · rw [f1.mI (by omega), hlow _ (by omega) (by omega)]; exact hSw.tick
              · rw [f1.mI (by omega), hlow _ (by omega) (by omega)]; exact hSw.writ
              · rw [f1.mI (by omega), hlow _ (by omega) (by omega)]; exact hSw.set hx
              · exact (hSw.t hx).keep (fun y h1 h2 => f1.mI (by omega)) (fun j h1 h2 => hlow j (by omega) (by omega)) (by
                  have := (hB.pl x hx).2.1.2
                  have e : m_its (m_commitL r q i) x 1 = m_its r x 1 := by unfold m_its; exact g2 _ (by omega) (by omega)
                  rw [e]; exact this)
              · have hKi : ((K : Int) + i) = (m_commitL r q i) 2 := by rw [g1]
                refine RSr.add hRw rg' (by rw [g1]; exact ⟨by omega, by omega⟩) (by rw [g1, g2 3 (by omega) (by omega)]; exact ⟨by omega, by omega⟩) (by rw [hkept]; omega) had hm2 (rg_its rf _ _) (rg_its rf _ _) (rg_its rf _ _) (rg_its rf _ _) (by rw [q1, g1]; omega) (hlow 3 (by omega) (by omega)) (hlow 10 (by omega) (by omega)) (fun j h1 h2 => hlow j (by omega) (by rw [g1] at h2; omega)) (by rw [← hKi]; exact hm1) (by rw [← hKi]; exact (q3 i (by omega)).2.1) ?_ ?_ (by rw [← hKi]; exact (q3 i (by omega)).2.2)
                · rw [← hKi]; unfold m_topic; rw [(q3 i (by omega)).1]; exact (tv_topic hpi.1 hpi.2.1).1
                · rw [← hKi]; unfold m_value; rw [(q3 i (by omega)).1]; exact (tv_topic hpi.1 hpi.2.1).2
              · exact (hSw.c hx).keep (f1.mI (by omega)) (f1.mI (by omega)) (fun j h1 h2 => hlow j (by omega) (by omega)) (by
                  have := (hB.re x hx).2.2.1.2
                  have e : m_of (m_commitL r q i) x 2 = m_of r x 2 := by unfold m_of; exact g2 _ (by omega) (by omega)
                  rw [e]; omega)
              · exact hSw.l.keep hSw.o.l (fun y h1 h2 => f1.mI (by omega)) (f1.mP id) (fun j hj => hlow j (by omega) (by omega)) (by rw [g2 9 (by omega) (by omega)]; exact hB.ni)
            refine r_iinc (lv' := [_, _, _, _, _, _, _]) hC dX5_commitAt_104 rfl (lt_b rfl) rfl (lt_b rfl) rfl ?_
            refine r_goto (t := 44) hC dX5_commitAt_107 (by rfl) ?_
            exact ih _ (by omega) (i + 1) w1 _ rfl (by omega) hstep (hfr.trans (had.1.weak (fun y hy => by omega) (fun _ h => h)))
    refine r_aload_n hC dX5_commitAt_9 rfl ?_
    refine r_getR (j := 1) hC dX5_commitAt_10 fl_X5_25 rfl rfl hS.o.o hS.o.p1 ?_
    refine r_iload_n hC dX5_commitAt_13 rfl ?_
    refine r_aald hC dX5_commitAt_14 hS.o.a1 (le_b rfl) (lt_b rfl) ⟨by omega, by omega⟩ (hS.o.pt (p := q) (by omega)) ?_
    refine r_astore_n (lv' := [_, _, _, _, _, _, _]) hC dX5_commitAt_15 (lt_b rfl) rfl (lt_b rfl) rfl ?_
    refine r_aload_n hC dX5_commitAt_16 rfl ?_
    refine r_getR (j := 2) hC dX5_commitAt_17 fl_X5_33 rfl rfl hS.o.o hS.o.p2 ?_
    refine r_getIv (j := 7) (v := K) hC dX5_commitAt_20 fl_X5_95 rfl rfl hS.o.r.o (by rw [hS.r.1]; exact hK) ?_
    refine r_istore_n (lv' := [_, _, _, _, _, _, _]) hC dX5_commitAt_23 (lt_b rfl) rfl (lt_b rfl) rfl ?_
    refine r_aload_n hC dX5_commitAt_24 rfl ?_
    refine r_getR (j := 0) hC dX5_commitAt_25 fl_X5_18 rfl rfl hS.o.o hS.o.p0 ?_
    refine r_iconst hC dX5_commitAt_28 ?_
    refine r_ialdv (v := r 10) hC dX5_commitAt_29 hS.o.a0 ⟨by omega, by omega⟩ (hS.set (i := 0) (by decide)) ?_
    refine r_iconst hC dX5_commitAt_30 ?_
    refine r_icmp_ne (t := 38) hC dX5_commitAt_31 (by rfl) (rf_at rf _) ⟨by omega, by omega⟩ (fun h_31 => ?_) (fun h_31 => ?_)
    · skip
      refine r_iconst hC dX5_commitAt_38 ?_
      refine r_istore (lv' := [_, _, _, _, _, _, _]) hC dX5_commitAt_39 (lt_b rfl) rfl (lt_b rfl) rfl ?_
      refine r_iconst hC dX5_commitAt_41 ?_
      refine r_istore (lv' := [_, _, _, _, _, _, _]) hC dX5_commitAt_42 (lt_b rfl) rfl (lt_b rfl) rfl ?_
      exact lp _ (by first | (rw [if_pos (by assumption)]; done) | (rw [if_neg (by assumption)]; done)) _ 0 u _ rfl (by omega) hS (Fr.refl _ _ _)
    · skip
      refine r_iconst hC dX5_commitAt_34 ?_
      refine r_goto (t := 39) hC dX5_commitAt_35 (by rfl) ?_
      refine r_istore (lv' := [_, _, _, _, _, _, _]) hC dX5_commitAt_39 (lt_b rfl) rfl (lt_b rfl) rfl ?_
      refine r_iconst hC dX5_commitAt_41 ?_
      refine r_istore (lv' := [_, _, _, _, _, _, _]) hC dX5_commitAt_42 (lt_b rfl) rfl (lt_b rfl) rfl ?_
      exact lp _ (by first | (rw [if_pos (by assumption)]; done) | (rw [if_neg (by assumption)]; done)) _ 0 u _ rfl (by omega) hS (Fr.refl _ _ _)
  · skip
    refine r_vret hC hR dX5_commitAt_8 (le_b rfl) (le_b rfl) ?_
    exact absurd ⟨hop, hk, hc⟩ h_5
