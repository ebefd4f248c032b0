/-! the mail: a message goes out -/
def DC (u : Mem) (q : Nat) (kd c mn gr : Int) (b : RW) : Prop := mI u q 1 = kd ∧ mI u q 2 = c ∧ mI u q 4 = mn ∧ mI u q 5 = gr ∧ ∀ k : Nat, (k : Int) < mn → mI u (q + 1) k = b k
def m_cnt2 (r : RW) (kd mn : Int) : RW := if kd = 0 then up (up r 6 (r 6 + 1)) 8 (r 8 + mn) else r
theorem cnt2_at (r : RW) (kd mn : Int) : (∀ j, j ≠ 6 → j ≠ 8 → m_cnt2 r kd mn j = r j) ∧ m_cnt2 r kd mn 6 = (if kd = 0 then wr (r 6 + 1) else r 6) ∧ m_cnt2 r kd mn 8 = (if kd = 0 then wr (r 8 + mn) else r 8) := by
  unfold m_cnt2
  by_cases h : kd = 0
  · rw [if_pos h, if_pos h, if_pos h]
    exact ⟨fun j h1 h2 => by rw [up_n _ _ h2, up_n _ _ h1], by rw [up_n _ _ (by decide), up_s], by rw [up_s]⟩
  · rw [if_neg h, if_neg h, if_neg h]
    exact ⟨fun _ _ _ => rfl, rfl, rfl⟩
theorem rf_cnt2 {r : RW} (rf : RF r) (kd mn : Int) : RF (m_cnt2 r kd mn) := by
  unfold m_cnt2; split
  · exact rf_up (rf_up rf _ _) _ _
  · exact rf
/-- the queue's place of a new message -/
theorem pos_at {u : Mem} {b N : Nat} {v : Nat → Int} (hv : ∀ j, j < N → mI u (qa u b j) 3 = v j) (hs : ∀ i j, i < j → j < N → v i ≤ v j) (d : Int) : c_pos u b d N ≤ N ∧ (∀ j, j < c_pos u b d N → v j ≤ d) ∧ ∀ j, c_pos u b d N ≤ j → j < N → d < v j := by
  have key : ∀ M, M ≤ N → (∀ j, j < c_pos u b d M → v j ≤ d) ∧ ∀ j, c_pos u b d M ≤ j → j < M → d < v j := by
    intro M
    induction M with
    | zero => intro _; exact ⟨fun j hj => by simp [c_pos] at hj, fun j _ hj => by omega⟩
    | succ M ih =>
      intro hM
      obtain ⟨i1, i2⟩ := ih (by omega)
      simp only [c_pos]
      rw [hv M (by omega)]
      by_cases q : d < v M
      · rw [if_pos q]
        exact ⟨i1, fun j h1 h2 => by
          by_cases e : j = M
          · rw [e]; exact q
          · exact i2 j h1 (by omega)⟩
      · rw [if_neg q]
        refine ⟨fun j hj => ?_, fun j h1 h2 => by omega⟩
        by_cases e : j = M
        · rw [e]; omega
        · have := hs j M (by omega) (by omega); omega
  exact ⟨c_pos_le _ _ _ _, key N (Nat.le_refl _)⟩
def insP (p N j : Nat) : Nat := if p < j ∧ j ≤ N then j - 1 else if j = p then N else j
theorem insQ_at (q : Int → Option Nat) {p N : Nat} (j : Nat) : insQ q N p j = q (insP p N j) := by
  unfold insQ insP
  by_cases h : p < j ∧ j ≤ N
  · rw [if_pos (by omega), if_pos h]; congr 1; omega
  · rw [if_neg (by omega), if_neg h]
    by_cases e : j = p
    · rw [if_pos (by omega), if_pos e]
    · rw [if_neg (by omega), if_neg e]
/-- pointers in another order -/
theorem QuO.perm {u w : Mem} {b : Nat} (h : QuO u b) {s : Nat → Nat} (hs : ∀ j, j < 55 → s j < 55) (hi : ∀ i j, i < 55 → j < 55 → s i = s j → i = j) (hw : ∀ j : Nat, j < 55 → mP w (b + 1) j = mP u (b + 1) (s j)) : QuO w b := by
  refine ⟨fun j hj => by rw [hw j hj]; exact h.1 _ (hs j hj), fun i j h1 h2 e => ?_⟩
  rw [hw i h1, hw j h2] at e
  exact hi i j h1 h2 (h.2 _ _ (hs i h1) (hs j h2) e)
theorem qa_perm {u w : Mem} {b j i : Nat} (h : mP w (b + 1) j = mP u (b + 1) i) : qa w b j = qa u b i := by unfold qa; rw [h]
/-- the state but for the mail -/
theorem RS.mail {u w : Mem} {a : Nat} {r r' : RW} (h : RS u a r) (hB : IB r) (hsh : mSh w = mSh u) (hP : ∀ q, q ≠ a + 35 → mP w q = mP u q) (hI : ∀ q, a ≤ q → q < a + 34 → mI w q = mI u q) (hq : QuO w (a + 34)) (hr : ∀ j, (j < 4 ∨ 9 < j) → j < 811 → r' j = r j) (hl : RSl w (a + 34) r') : RS w a r' := by
  refine ⟨h.o.fr hsh (fun q _ _ hq => hP q hq) hq, ⟨?_, ?_⟩, fun i hi => ?_, fun p hp => ?_, ?_, fun c hc => ?_, hl⟩
  · rw [hI _ (by omega) (by omega), hr _ (by omega) (by omega)]; exact h.tick
  · rw [hI _ (by omega) (by omega), hr _ (by omega) (by omega)]; exact h.writ
  · rw [hI _ (by omega) (by omega), hr _ (by omega) (by omega)]; exact h.set hi
  · exact (h.t hp).keep (fun q h1 h2 => hI q (by omega) (by omega)) (fun j h1 h2 => hr j (by omega) (by omega)) (hB.pl p hp).2.1.2
  · exact h.r.keep (fun q h1 h2 => hI q (by omega) (by omega)) (fun j hj => hr j (by omega) (by omega)) hB.co.1.2
  · exact (h.c hc).keep (hI _ (by omega) (by omega)) (hI _ (by omega) (by omega)) (fun j h1 h2 => hr j (by omega) (by omega)) (by have := (hB.re c hc).2.2.1; omega)
theorem rs_post {u : Mem} {a : Nat} {r : RW} (hS : RS u a r) (hB : IB r) {N mn : Nat} {kd c gr : Int} {b : RW} (hN : r 9 = N) (hN2 : N ≤ 53) (hd : DC u (qa u (a + 34) N) kd c mn gr b) (hkd : kd = 0 ∨ kd = 1) (hc : 0 ≤ c ∧ c ≤ 2) (hmn : mn ≤ 8) (hgr : rg gr) (hb : ∀ k : Nat, k < mn → 0 ≤ b k ∧ b k < 256) (hdue : rg (r 0 + r 11)) (hlen : ∀ n : Nat, n < N → m_way r n 3 ≤ 8) : RS (poM u (a + 34) (r 0 + r 11) (r 14)) a (m_sends (m_cnt2 r kd mn) b kd c mn gr) ∧ Fr u (poM u (a + 34) (r 0 + r 11) (r 14)) (fun q => a + 34 ≤ q ∧ q < a + 146) (fun q => q = a + 35) := by
  have rf := hB.rf
  have hM := hS.o.l
  obtain ⟨d1, d2, d4, d5, d6⟩ := hd
  obtain ⟨l1, l2, l3, l4, l5, l6, s, hs, hm⟩ := hS.l
  rw [hN] at hs hm
  simp only [Int.toNat_natCast] at hs hm
  obtain ⟨t1, t2, t3⟩ := cnt2_at r kd mn
  obtain ⟨F, hF⟩ : ∃ F, F = poF (mI u (a + 34)) kd mn := ⟨_, rfl⟩
  have rF : RF F := by rw [hF]; exact rf_poF (rf_mI u _) _ _
  have f1 : F 1 = N := by rw [hF]; unfold poF; rw [if_neg (by omega), if_neg (by omega), if_neg (by omega), l1, hN]
  have f2 : F 2 = wr (r 4 + 1) := by rw [hF]; unfold poF; rw [if_pos rfl, l2]
  have f3 : F 3 = r 5 := by rw [hF]; unfold poF; rw [if_neg (by omega), if_neg (by omega), if_neg (by omega), l3]
  have f4 : F 4 = m_cnt2 r kd mn 6 := by
    rw [hF, t2]; unfold poF; rw [if_neg (by omega)]
    by_cases z : kd = 0
    · rw [if_pos ⟨z, rfl⟩, if_pos z, l4]
    · rw [if_neg (fun y => z y.1), if_neg (fun y => z y.1), if_neg z, l4]
  have f5 : F 5 = m_cnt2 r kd mn 8 := by
    rw [hF, t3]; unfold poF; rw [if_neg (by omega), if_neg (by omega)]
    by_cases z : kd = 0
    · rw [if_pos ⟨z, rfl⟩, if_pos z, l5]
    · rw [if_neg (fun y => z y.1), if_neg z, l5]
  have f6 : F 6 = r 7 := by rw [hF]; unfold poF; rw [if_neg (by omega), if_neg (by omega), if_neg (by omega), l6]
  have hpo : poM u (a + 34) (r 0 + r 11) (r 14) = if 0 < r 14 ∧ (F 2).tmod (r 14) = 0 then sA u (a + 34) (up F 3 (F 3 + 1)) else sQ (sI (sA u (a + 34) (up F 1 (N + 1))) (qa u (a + 34) N) 3 (r 0 + r 11)) (a + 34 + 1) (insQ (mP u (a + 34 + 1)) N (c_pos u (a + 34) (r 0 + r 11) N)) := by
    unfold poM
    simp only [l1, hN, Int.toNat_natCast, d1, d4, ← hF]
  have hlst : m_isLost (m_cnt2 r kd mn) ↔ (0 < r 14 ∧ (F 2).tmod (r 14) = 0) := by
    unfold m_isLost
    rw [t1 14 (by decide) (by decide), t1 4 (by decide) (by decide), f2]
    have := hB.se.2.2.2.2.1
    constructor
    · rintro ⟨z1, z2⟩; exact ⟨by omega, z2⟩
    · rintro ⟨z1, z2⟩; exact ⟨by omega, z2⟩
  obtain ⟨e1, e2⟩ := sends_at (r := m_cnt2 r kd mn) (b := b) (kd := kd) (c := c) (gr := gr) (rf_cnt2 rf kd mn) (N := N) (by rw [t1 9 (by decide) (by decide), hN]) (by omega) hmn (by rcases hkd with z | z <;> rw [z] <;> exact ⟨by decide, by decide⟩) ⟨by omega, by omega⟩ hgr hb
  have hbN := hM.bq (j := N) (by omega)
  rw [hpo]
  by_cases hL : 0 < r 14 ∧ (F 2).tmod (r 14) = 0
  · rw [if_pos hL, e1 (hlst.mpr hL), t1 4 (by decide) (by decide), t1 5 (by decide) (by decide)]
    have hf : Fr u (sA u (a + 34) (up F 3 (F 3 + 1))) (fun q => q = a + 34) (fun _ => False) := (Fr.refl _ _ _).sA _ rfl
    have rU : RF (up F 3 (F 3 + 1)) := rf_up rF _ _
    have hr : ∀ j, j ≠ 4 → j ≠ 5 → (up (up (m_cnt2 r kd mn) 4 (r 4 + 1)) 5 (r 5 + 1)) j = m_cnt2 r kd mn j := fun j h1 h2 => by rw [up_n _ _ h2, up_n _ _ h1]
    refine ⟨hS.mail hB hf.mSh (fun q _ => hf.mP id) (fun q h1 h2 => hf.mI (by omega)) hM.2.2.2 (fun j h1 h2 => by rw [hr j (by omega) (by omega), t1 j (by omega) (by omega)]) ⟨?_, ?_, ?_, ?_, ?_, ?_, s, ?_, fun j hj => ?_⟩, hf.weak (fun q hq => by omega) (fun _ z => z.elim)⟩
    · rw [mI_sA_f _ _ rU, up_n _ _ (by decide), f1, hr 9 (by decide) (by decide), t1 9 (by decide) (by decide), hN]
    · rw [mI_sA_f _ _ rU, up_n _ _ (by decide), f2, up_n _ _ (by decide), up_s]
    · rw [mI_sA_f _ _ rU, up_s, f3, up_s]
    · rw [mI_sA_f _ _ rU, up_n _ _ (by decide), f4, hr 6 (by decide) (by decide)]
    · rw [mI_sA_f _ _ rU, up_n _ _ (by decide), f5, hr 8 (by decide) (by decide)]
    · rw [mI_sA_f _ _ rU, up_n _ _ (by decide), f6, hr 7 (by decide) (by decide), t1 7 (by decide) (by decide)]
    · rw [hr 9 (by decide) (by decide), t1 9 (by decide) (by decide), hN, Int.toNat_natCast]
      exact hs.keep (fun j hj => by rw [hr j (by omega) (by omega), t1 j (by omega) (by omega)])
    · rw [hr 9 (by decide) (by decide), t1 9 (by decide) (by decide), hN, Int.toNat_natCast] at hj
      have hb' := hM.bq (j := j) (by omega)
      exact (hm j hj).keep (by omega) (hf.mI (by omega)) (hf.mI (by omega)) (fun x hx => by rw [hr x (by omega) (by omega), t1 x (by omega) (by omega)])
  · rw [if_neg hL]
    obtain ⟨g1, g4, g9, w0, w1, w2, w3, w4, w5⟩ := e2 (fun z => hL (hlst.mp z))
    obtain ⟨R, hR⟩ : ∃ R, R = m_sends (m_cnt2 r kd mn) b kd c mn gr := ⟨_, rfl⟩
    rw [← hR] at g1 g4 g9 w0 w1 w2 w3 w4 w5 ⊢
    rw [t1 0 (by decide) (by decide), t1 11 (by decide) (by decide), wr_id hdue] at w2
    rw [t1 4 (by decide) (by decide)] at g4
    have hway : ∀ n : Nat, n < N → ∀ x : Int, 0 ≤ x → x ≤ 6 → m_way R n x = m_way r n x := fun n hn x h0 h1 => by
      unfold m_way; rw [g1 _ (by omega) (by omega) (by omega), t1 _ (by omega) (by omega)]
    have hrow : ∀ n : Nat, n < N → ∀ k : Nat, k < 8 → m_rowOf R n k = m_rowOf r n k := fun n hn k hk => by
      unfold m_rowOf
      rw [hway n hn _ (by have := Int.tdiv_nonneg (a := (k : Int)) (b := 4) (by omega) (by decide); omega) (by rw [Int.tdiv_eq_ediv_of_nonneg (by omega)]; omega)]
    obtain ⟨D, hD⟩ : ∃ D, D = r 0 + r 11 := ⟨_, rfl⟩
    obtain ⟨q0, hq0⟩ : ∃ q, q = qa u (a + 34) N := ⟨_, rfl⟩
    obtain ⟨p, hp⟩ : ∃ p, p = c_pos u (a + 34) D N := ⟨_, rfl⟩
    rw [← hD] at w2 ⊢
    rw [← hD] at hdue
    rw [← hp, ← hq0]
    rw [← hq0] at hbN d1 d2 d4 d5 d6
    have hsv : ∀ i j, i < j → j < N → m_way r (s i) 2 ≤ m_way r (s j) 2 := fun i j hij hj => by
      have := hs.2.2 i j hij hj; unfold Lex at this; omega
    obtain ⟨hpN, hp1, hp2⟩ := pos_at (u := u) (b := a + 34) (v := fun j => m_way r (s j) 2) (fun j hj => (hm j hj).2.2.1) hsv D
    rw [← hp] at hpN hp1 hp2
    obtain ⟨W, hW⟩ : ∃ W, W = sQ (sI (sA u (a + 34) (up F 1 (N + 1))) q0 3 D) (a + 34 + 1) (insQ (mP u (a + 34 + 1)) N p) := ⟨_, rfl⟩
    rw [← hW]
    have rU : RF (up F 1 ((N : Int) + 1)) := rf_up rF _ _
    have hf : Fr u W (fun q => q = a + 34 ∨ q = q0) (fun q => q = a + 35) := by
      rw [hW]; exact Fr.sQ (Fr.sI (Fr.sA (Fr.refl _ _ _) _ (Or.inl rfl)) _ _ (Or.inr rfl)) _ (by omega)
    have hWb : mI W (a + 34) = up F 1 (N + 1) := by rw [hW, mI_sQ, up_mI_n _ _ _ (by omega), mI_sA_f _ _ rU]
    have hWq : mI W q0 = up (mI u q0) 3 D := by rw [hW, mI_sQ, up_mI, mI_sA_n _ _ (by omega)]
    have hWP : ∀ j : Nat, mP W (a + 34 + 1) j = mP u (a + 34 + 1) (insP p N j) := fun j => by
      rw [hW, mP_sQ]; exact insQ_at _ j
    have hqj : ∀ j : Nat, qa W (a + 34) j = qa u (a + 34) (insP p N j) := fun j => qa_perm (hWP j)
    have hlt : ∀ j, j < N → s j < N := hs.1
    refine ⟨hS.mail hB hf.mSh (fun q hq => hf.mP hq) (fun q h1 h2 => hf.mI (by omega)) (hM.2.2.2.perm (s := insP p N) (fun j hj => ?_) (fun i j hi hj e => ?_) (fun j _ => hWP j)) (fun j h1 h2 => ?_) ⟨?_, ?_, ?_, ?_, ?_, ?_, fun j => if j < p then s j else if j = p then N else s (j - 1), ⟨fun j hj => ?_, fun m hm' => ?_, fun i j hij hj => ?_⟩, fun j hj => ?_⟩, hf.weak (fun q hq => by omega) (fun q hq => hq)⟩
    · unfold insP; split
      · omega
      · split <;> omega
    · unfold insP at e
      (repeat' split at e) <;> omega
    · rw [g1 j (by omega) (by omega) (by omega), t1 j (by omega) (by omega)]
    · rw [hWb, up_s, g9, wr_id ⟨by omega, by omega⟩]
    · rw [hWb, up_n _ _ (by decide), f2, g4]
    · rw [hWb, up_n _ _ (by decide), f3, g1 5 (by decide) (by decide) (by omega), t1 5 (by decide) (by decide)]
    · rw [hWb, up_n _ _ (by decide), f4, g1 6 (by decide) (by decide) (by omega)]
    · rw [hWb, up_n _ _ (by decide), f5, g1 8 (by decide) (by decide) (by omega)]
    · rw [hWb, up_n _ _ (by decide), f6, g1 7 (by decide) (by decide) (by omega), t1 7 (by decide) (by decide)]
    · rw [g9, show ((N : Int) + 1).toNat = N + 1 by omega] at hj ⊢
      dsimp only
      split
      · have := hlt j (by omega); omega
      · split
        · omega
        · have := hlt (j - 1) (by omega); omega
    · rw [g9, show ((N : Int) + 1).toNat = N + 1 by omega] at hm' ⊢
      by_cases e : m = N
      · exact ⟨p, by omega, by dsimp only; rw [if_neg (by omega), if_pos rfl, e]⟩
      · obtain ⟨j, hj, ej⟩ := hs.2.1 m (by omega)
        rcases Nat.lt_or_ge j p with y | y
        · exact ⟨j, by omega, by dsimp only; rw [if_pos y, ej]⟩
        · exact ⟨j + 1, by omega, by dsimp only; rw [if_neg (by omega), if_neg (by omega)]; exact ej⟩
    · rw [g9, show ((N : Int) + 1).toNat = N + 1 by omega] at hj
      dsimp only
      have old : ∀ x y, x < N → y < N → Lex r (s x) (s y) → Lex R (s x) (s y) := fun x y hx hy h => by
        unfold Lex at h ⊢
        rw [hway _ (hlt x hx) 2 (by decide) (by decide), hway _ (hlt y hy) 2 (by decide) (by decide)]; exact h
      rcases Nat.lt_trichotomy i p with qi | qi | qi
      · rw [if_pos qi]
        rcases Nat.lt_trichotomy j p with qj | qj | qj
        · rw [if_pos qj]; exact old i j (by omega) (by omega) (hs.2.2 i j hij (by omega))
        · rw [if_neg (by omega), if_pos qj]
          unfold Lex
          rw [hway _ (hlt i (by omega)) 2 (by decide) (by decide), w2]
          have h1 := hp1 i qi
          have h2 := hlt i (by omega)
          omega
        · rw [if_neg (by omega), if_neg (by omega)]; exact old i (j - 1) (by omega) (by omega) (hs.2.2 i (j - 1) (by omega) (by omega))
      · rw [if_neg (by omega), if_pos qi, if_neg (by omega), if_neg (by omega)]
        unfold Lex
        rw [hway _ (hlt (j - 1) (by omega)) 2 (by decide) (by decide), w2]
        have h1 := hp2 (j - 1) (by omega) (by omega)
        omega
      · rw [if_neg (by omega), if_neg (by omega), if_neg (by omega), if_neg (by omega)]
        exact old (i - 1) (j - 1) (by omega) (by omega) (hs.2.2 (i - 1) (j - 1) (by omega) (by omega))
    · rw [g9, show ((N : Int) + 1).toNat = N + 1 by omega] at hj
      rw [hqj j]
      have hold : ∀ x : Nat, x < N → RSm W (qa u (a + 34) x) R (s x) := fun x hx => by
        have hbx := hM.bq (j := x) (by omega)
        have hnx := hM.nq (i := x) (j := N) (by omega) (by omega) (by omega)
        rw [← hq0] at hnx
        obtain ⟨m1, m2, m3, m4, m5, m6⟩ := hm x hx
        have hsx := hlt x hx
        unfold RSm
        rw [hf.mI (by omega), hf.mI (q := qa u (a + 34) x + 1) (by omega), hway _ hsx 0 (by decide) (by decide), hway _ hsx 1 (by decide) (by decide), hway _ hsx 2 (by decide) (by decide), hway _ hsx 3 (by decide) (by decide), hway _ hsx 4 (by decide) (by decide)]
        exact ⟨m1, m2, m3, m4, m5, fun k hk => by
          have h8 := hlen _ hsx
          rw [hrow _ hsx k (by omega)]; exact m6 k hk⟩
      unfold insP
      dsimp only
      rcases Nat.lt_trichotomy j p with qj | qj | qj
      · rw [if_neg (by omega), if_neg (by omega), if_pos qj]; exact hold j (by omega)
      · rw [if_neg (by omega), if_pos qj, if_neg (by omega), if_pos qj, ← hq0]
        unfold RSm
        rw [w0, w1, w2, w3, w4, hWq, hf.mI (q := q0 + 1) (by omega), up_n _ _ (by decide), up_n _ _ (by decide), up_s, up_n _ _ (by decide), up_n _ _ (by decide), wr_id hdue]
        exact ⟨d1, d2, rfl, d4, d5, fun k hk => by rw [w5 k (by omega)]; exact d6 k hk⟩
      · rw [if_pos (by omega), if_neg (by omega), if_neg (by omega)]
        exact hold (j - 1) (by omega)
