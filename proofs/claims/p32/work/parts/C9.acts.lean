/-! ===== the other acts: what they keep, what they show ===== -/
theorem AP.more {u w : Mem} {x : Nat} {kp : Int} {K : RW} {T T1 B B1 : Int} {o : Option SV} (h : AP u x kp K T B o w) (hT : T ≤ T1) (hB : B ≤ B1) : AP u x kp K T1 B1 o w := by
  obtain ⟨h1, g, s, P, h2, h3, h4, h5⟩ := h
  exact ⟨h1, g, s, P, h2.more hT, h3, h4.more hB, h5⟩
theorem Inv.o24 {f : RW} {T : Int} (h : Inv f T) : ∀ c : Nat, c < 3 → m_of f c 2 ≤ 24 := fun c hc => by have := (h.re c hc).2.2.1; omega
theorem Ew.places {r g : RW} {T B : Int} (h : Ew r B) (hI : Inv r T) (e : ∀ j, j ≠ 1 → (j < 17 ∨ 97 ≤ j) → g j = r j) : Ew g B :=
  h.same hI.me.mk hI.co.1.2 hI.o24 (fun j hj => e j (by omega) (by omega)) (fun d x hd h1 h2 _ _ _ _ => by unfold m_of; exact e _ (by omega) (by omega))
theorem open_iff {r : RW} {p : Nat} (hp : p < 4) : m_open r p = true ↔ m_its r p 0 = 1 := by
  unfold m_open
  simp only [Bool.and_eq_true, decide_eq_true_eq]
  constructor
  · intro z; exact z.2
  · intro z; exact ⟨by omega, z⟩
theorem open_not {r : RW} {p : Nat} (hp : p < 4) : m_open r p = false ↔ m_its r p 0 ≠ 1 := by
  rw [← Bool.not_eq_true, open_iff hp]
/-! begin -/
theorem begins_l {f : RW} {T : Int} (h : Inv f T) (ho : m_openOnes f ≠ 4) : ∃ q : Nat, q < 4 ∧ m_free f = q ∧ m_open (m_begins f) q = true ∧ m_its (m_begins f) q 1 = 0 ∧ m_openOnes (m_begins f) = m_openOnes f + 1 := by
  have p0 := (h.pl 0 (by decide)).1
  have p1 := (h.pl 1 (by decide)).1
  have p2 := (h.pl 2 (by decide)).1
  have p3 := (h.pl 3 (by decide)).1
  rw [show ((0 : Nat) : Int) = 0 from rfl] at p0
  rw [show ((1 : Nat) : Int) = 1 from rfl] at p1
  rw [show ((2 : Nat) : Int) = 2 from rfl] at p2
  rw [show ((3 : Nat) : Int) = 3 from rfl] at p3
  rcases free_rg f with hf | ⟨q, hq, hf, hq0⟩
  · exfalso
    unfold m_free at hf
    unfold m_openOnes at ho
    by_cases a0 : m_its f 0 0 = 0
    · rw [if_pos a0] at hf; omega
    · rw [if_neg a0] at hf
      by_cases a1 : m_its f 1 0 = 0
      · rw [if_pos a1] at hf; omega
      · rw [if_neg a1] at hf
        by_cases a2 : m_its f 2 0 = 0
        · rw [if_pos a2] at hf; omega
        · rw [if_neg a2] at hf
          by_cases a3 : m_its f 3 0 = 0
          · rw [if_pos a3] at hf; omega
          · omega
  · have e0 : m_its (m_begins f) q 0 = 1 := by unfold m_its; rw [begins_at hf, if_neg (by omega), if_pos (by omega)]
    have e1 : m_its (m_begins f) q 1 = 0 := by unfold m_its; rw [begins_at hf, if_pos (by omega)]
    have eo : ∀ p : Nat, p < 4 → p ≠ q → m_its (m_begins f) p 0 = m_its f p 0 := fun p hp hne => by unfold m_its; rw [begins_at hf, if_neg (by omega), if_neg (by omega)]
    refine ⟨q, hq, hf, (open_iff hq).mpr e0, e1, ?_⟩
    unfold m_openOnes
    have f0 := eo 0 (by decide)
    have f1 := eo 1 (by decide)
    have f2 := eo 2 (by decide)
    have f3 := eo 3 (by decide)
    rw [show ((0 : Nat) : Int) = 0 from rfl] at f0
    rw [show ((1 : Nat) : Int) = 1 from rfl] at f1
    rw [show ((2 : Nat) : Int) = 2 from rfl] at f2
    rw [show ((3 : Nat) : Int) = 3 from rfl] at f3
    rcases (show q = 0 ∨ q = 1 ∨ q = 2 ∨ q = 3 by omega) with e | e | e | e
    · subst e
      rw [show ((0 : Nat) : Int) = 0 from rfl] at e0 hq0
      rw [e0, f1 (by decide), f2 (by decide), f3 (by decide), hq0]; omega
    · subst e
      rw [show ((1 : Nat) : Int) = 1 from rfl] at e0 hq0
      rw [e0, f0 (by decide), f2 (by decide), f3 (by decide), hq0]; omega
    · subst e
      rw [show ((2 : Nat) : Int) = 2 from rfl] at e0 hq0
      rw [e0, f0 (by decide), f1 (by decide), f3 (by decide), hq0]; omega
    · subst e
      rw [show ((3 : Nat) : Int) = 3 from rfl] at e0 hq0
      rw [e0, f0 (by decide), f1 (by decide), f2 (by decide), hq0]; omega
theorem begins_e {f : RW} {T B : Int} (h : Inv f T) (hE : Ew f B) {q : Nat} (hq : q < 4) (hf : m_free f = q) : Ew (m_begins f) B := hE.places h fun j h1 h2 => by
  rw [begins_at hf, if_neg (by omega), if_neg (by omega)]
/-! write -/
theorem writes_l {f : RW} {T B : Int} (h : Inv f T) (hE : Ew f B) (hT : T + 1 ≤ 2000000) {q : Nat} (hq : q < 4) (ho : m_open f q = true) (h6 : m_its f q 1 < 6) {t v : Int} (ht : 0 ≤ t ∧ t ≤ 3) (hv : 0 ≤ v ∧ v ≤ 99) : q_write f q t v = 0 ∧ m_writesC f q t v = f 1 ∧ Ew (m_writes f q t v) B ∧ m_open (m_writes f q t v) q = true ∧ m_its (m_writes f q t v) q 1 = m_its f q 1 + 1 ∧ m_vals (m_writes f q t v) q = m_vals f q + v ∧ (m_writes f q t v) 1 = f 1 + 1 := by
  obtain ⟨n, hn⟩ : ∃ n : Nat, m_its f q 1 = n := ⟨(m_its f q 1).toNat, by have := (h.pl q hq).2.1.1; omega⟩
  have i2 := h.ti.2.1
  have hnot : ¬ ¬ ((0 ≤ t ∧ t ≤ 3) ∧ (0 ≤ v ∧ v ≤ 99)) := fun z => z ⟨ht, hv⟩
  have e : m_writes f q t v = m_writesR f q t v := by
    unfold m_writes
    rw [if_neg (by rw [ho]; decide), if_neg hnot, if_neg (by omega)]
  have at_ := writesR_at h.rf (q := q) (t := t) (v := v) hn ⟨by omega, by omega⟩
  have g1 : (m_writesR f q t v) 1 = f 1 + 1 := by rw [at_, if_pos rfl, wr_id ⟨by omega, by omega⟩]
  have c1 : m_its (m_writesR f q t v) q 1 = (n : Int) + 1 := by
    unfold m_its; rw [at_, if_neg (by omega), if_pos (by omega), wr_id ⟨by omega, by omega⟩]
  have c0 : m_its (m_writesR f q t v) q 0 = m_its f q 0 := by
    unfold m_its; rw [at_, if_neg (by omega), if_neg (by omega), if_neg (by omega), if_neg (by omega), if_neg (by omega)]
  have cv : m_its (m_writesR f q t v) q (2 + 3 * (n : Int) + 1) = v := by
    unfold m_its; rw [at_, if_neg (by omega), if_neg (by omega), if_neg (by omega), if_pos (by omega), wr_id ⟨by omega, by omega⟩]
  have co : ∀ k : Nat, k < n → m_its (m_writesR f q t v) q (2 + 3 * (k : Int) + 1) = m_its f q (2 + 3 * (k : Int) + 1) := fun k hk => by
    unfold m_its; rw [at_, if_neg (by omega), if_neg (by omega), if_neg (by omega), if_neg (by omega), if_neg (by omega)]
  have vl : ∀ k : Nat, k ≤ n → m_valsL (m_writesR f q t v) q k = m_valsL f q k := by
    intro k
    induction k with
    | zero => intro _; rfl
    | succ k ih => intro hk; simp only [m_valsL]; rw [ih (by omega), co k (by omega)]
  refine ⟨?_, ?_, ?_, ?_, ?_, ?_, ?_⟩
  · unfold q_write
    rw [if_neg (by rw [ho]; decide), if_neg hnot, if_neg (by omega)]
  · unfold m_writesC
    rw [if_neg (by rw [ho]; decide), if_neg hnot, if_neg (by omega), g1]; omega
  · rw [e]
    exact hE.places h fun j h1 h2 => by
      rw [at_, if_neg h1, if_neg (by omega), if_neg (by omega), if_neg (by omega), if_neg (by omega)]
  · rw [e, open_iff hq, c0]; exact (open_iff hq).mp ho
  · rw [e, c1, hn]
  · rw [e]
    unfold m_vals
    rw [c1, hn, show ((n : Int) + 1).toNat = n + 1 by omega, Int.toNat_natCast]
    simp only [m_valsL]
    rw [vl n (Nat.le_refl _), cv]
  · rw [e, g1]
theorem vals_rg {f : RW} {T : Int} (h : Inv f T) {q : Nat} (hq : q < 4) : 0 ≤ m_vals f q ∧ m_vals f q ≤ 600 := by
  obtain ⟨-, h6, hr⟩ := h.pl q hq
  have : ∀ n : Nat, (n : Int) ≤ m_its f q 1 → 0 ≤ m_valsL f q n ∧ m_valsL f q n ≤ 100 * n := by
    intro n
    induction n with
    | zero => intro _; simp [m_valsL]
    | succ n ih =>
      intro hn
      have a := ih (by omega)
      have b := (hr n (by omega)).2.1
      simp only [m_valsL]; omega
  have := this (m_its f q 1).toNat (by omega)
  unfold m_vals; omega
/-! drop -/
theorem drops_l {f : RW} {T B : Int} (h : Inv f T) (hE : Ew f B) {q : Nat} (hq : q < 4) (ho : m_open f q = true) : m_dropsC f q = m_its f q 1 ∧ Ew (m_drops f q) B ∧ m_open (m_drops f q) q = false ∧ m_kept (m_drops f q) = m_kept f := by
  have e : m_drops f q = up f (17 + 20 * (q : Int) + 0) 0 := by unfold m_drops; rw [if_neg (by rw [ho]; decide)]
  have ej : ∀ j, j ≠ 17 + 20 * (q : Int) → m_drops f q j = f j := fun j hj => by rw [e]; exact up_n _ _ (by omega)
  refine ⟨?_, hE.places h fun j h1 h2 => ej j (by omega), ?_, ?_⟩
  · unfold m_dropsC
    rw [if_neg (by rw [ho]; decide)]
    unfold m_its; exact ej _ (by omega)
  · rw [open_not hq]
    unfold m_its
    rw [e, up_s]; decide
  · unfold m_kept; rw [ej 2 (by omega), ej 3 (by omega)]
/-! commit -/
theorem mark_0 : ∀ b : Fin 7, b_and (b_shr 0 (b.val : Int)) 1 = 0 := by decide +kernel
theorem commits_l {f : RW} {T B : Int} (h : Inv f T) (hE : Ew f B) {q : Nat} (hq : q < 4) (ho : m_open f q = true) (hk : m_kept f + m_its f q 1 ≤ 60) (hc : f 2 + m_its f q 1 ≤ 200) : q_commit f q = 0 ∧ m_commitsC f q = m_kept f + m_its f q 1 ∧ Ew (m_commits f q) B ∧ (m_commits f q) 2 = f 2 + m_its f q 1 ∧ m_open (m_commits f q) q = false := by
  obtain ⟨n, hn⟩ : ∃ n : Nat, m_its f q 1 = n := ⟨(m_its f q 1).toNat, by have := (h.pl q hq).2.1.1; omega⟩
  have h6 := (h.pl q hq).2.1.2
  have c1 := h.co.1
  obtain ⟨K, hK⟩ : ∃ K : Nat, f 2 = K := ⟨(f 2).toNat, by omega⟩
  have hnot : ¬ (m_kept f + m_its f q 1 > 60 ∨ f 2 + m_its f q 1 > 200) := fun z => by omega
  have e : m_commits f q = up (m_commitL f q n) (17 + 20 * (q : Int) + 0) 0 := by
    unfold m_commits
    rw [if_neg (by rw [ho]; decide), if_neg hnot, hn, Int.toNat_natCast]
  obtain ⟨l1, l2, l3⟩ := commitL_at h.rf hq hK n (by omega) (by omega)
  have g2 : (m_commits f q) 2 = (K : Int) + n := by rw [e, up_n _ _ (by omega)]; exact l1
  have eo : ∀ j, j ≠ 2 → j ≠ 17 + 20 * (q : Int) → (j < 97 + 3 * (K : Int) ∨ 97 + 3 * ((K : Int) + n) ≤ j) → (m_commits f q) j = f j := fun j h2 h17 hj => by rw [e, up_n _ _ (by omega)]; exact l2 j h2 hj
  have en : ∀ i : Nat, i < n → (m_commits f q) (97 + 3 * ((K : Int) + i) + 2) = 0 := fun i hi => by rw [e, up_n _ _ (by omega)]; exact (l3 i hi).2.2
  have em : ∀ (d : Nat) (x : Int), d < 3 → 0 ≤ x → x < 38 → m_of (m_commits f q) d x = m_of f d x := fun d x hd h0 h1 => by unfold m_of; exact eo _ (by omega) (by omega) (by omega)
  have mo : ∀ k b : Nat, k < K → m_mark (m_commits f q) k b = m_mark f k b := fun k b hk => mark_keep (eo _ (by omega) (by omega) (by omega))
  have mn : ∀ k b : Nat, K ≤ k → (k : Int) < (K : Int) + n → b < 7 → m_mark (m_commits f q) k b = false := fun k b h1 h2 hb => by
    have := en (k - K) (by omega)
    rw [show (K : Int) + ((k - K : Nat) : Int) = k by omega] at this
    unfold m_mark
    rw [this, mark_0 ⟨b, hb⟩]; decide
  have nk : ∀ k : Nat, k < K → m_num (m_commits f q) k = m_num f k := fun k hk => num_keep (eo 10 (by decide) (by omega) (by omega)) (eo _ (by omega) (by omega) (by omega))
  obtain ⟨hC, hR, hM, h7⟩ := hE
  refine ⟨?_, ?_, ⟨fun d hd => ?_, fun k hk d hd z => ?_, fun m hm => ?_, by rw [eo 7 (by decide) (by omega) (by omega)]; exact h7⟩, by rw [g2, hK, hn], ?_⟩
  · unfold q_commit
    rw [if_neg (by rw [ho]; decide), if_neg hnot]
  · unfold m_commitsC
    rw [if_neg (by rw [ho]; decide), if_neg hnot, hn, Int.toNat_natCast, ← e]
    unfold m_kept
    rw [g2, eo 3 (by decide) (by omega) (by omega)]; omega
  · obtain ⟨a1, a2, a3, a4, a5, a6, a7⟩ := hC d hd
    have := h.o24 d hd
    unfold EC1
    rw [em d 8 hd (by decide) (by decide), em d 1 hd (by decide) (by decide), em d 6 hd (by decide) (by decide), em d 3 hd (by decide) (by decide), em d 7 hd (by decide) (by decide), em d 2 hd (by decide) (by decide), em d 5 hd (by decide) (by decide), em d 12 hd (by decide) (by decide), eo 3 (by decide) (by omega) (by omega)]
    exact ⟨a1, a2, a3, a4, fun j hj => by rw [em d _ hd (by omega) (by omega)]; exact a5 j hj, a6, a7⟩
  · rw [g2] at hk
    rw [show (1 + (d : Int)) = ((1 + d : Nat) : Int) by omega] at z
    rw [show (4 + (d : Int)) = ((4 + d : Nat) : Int) by omega]
    rcases Nat.lt_or_ge k K with y | y
    · rw [mo k _ y] at z ⊢
      rw [show ((4 + d : Nat) : Int) = 4 + (d : Int) by omega]
      exact hR k (by omega) d hd (by rw [show (1 + (d : Int)) = ((1 + d : Nat) : Int) by omega]; exact z)
    · rw [mn k _ y hk (by omega)] at z; cases z
  · rw [eo 9 (by decide) (by omega) (by omega)] at hm
    have hw : ∀ x : Int, 0 ≤ x → m_way (m_commits f q) m x = m_way f m x := fun x hx => by unfold m_way; exact eo _ (by omega) (by omega) (by omega)
    obtain ⟨k1, k2, k3, k4, k5, k6⟩ := h.me.mk m hm
    obtain ⟨em0, em1⟩ := hM m hm
    obtain ⟨d, hd, ed⟩ := nat3 k2
    have er : ∀ k : Nat, (k : Int) < m_way f m 3 → m_rowOf (m_commits f q) m k = m_rowOf f m k := fun k hk => row_as (fun x hx _ => hw x hx) (by omega)
    have key : ∀ k : Nat, (k : Int) < m_way f m 3 → m_num (m_commits f q) (m_rowOf f m k) = m_num f (m_rowOf f m k) ∧ m_mark (m_commits f q) (m_rowOf f m k) (4 + m_way f m 1) = m_mark f (m_rowOf f m k) (4 + m_way f m 1) := fun k hk => by
      have h2 := k5 k hk
      obtain ⟨R, hR⟩ : ∃ R : Nat, m_rowOf f m k = R := ⟨(m_rowOf f m k).toNat, by omega⟩
      rw [hR] at h2 ⊢
      refine ⟨nk R (by omega), ?_⟩
      rw [ed, show (4 + (d : Int)) = ((4 + d : Nat) : Int) by omega]
      exact mo R _ (by omega)
    unfold EM1
    rw [hw 0 (by decide), hw 1 (by decide), hw 3 (by decide), hw 4 (by decide)]
    refine ⟨fun z => ?_, fun z => ?_⟩
    · obtain ⟨a1, a2, a3, k, hk, a4⟩ := em0 z
      refine ⟨a1, a2, fun k hk => ?_, k, hk, ?_⟩
      · rw [er k hk, (key k hk).1, (key k hk).2]; exact a3 k hk
      · rw [er k hk, (key k hk).1]; exact a4
    · have := em1 z
      rw [ed] at this ⊢
      rw [em d 1 hd (by decide) (by decide)]; exact this
  · rw [open_not hq]
    unfold m_its
    rw [e, up_s]; decide
/-! lose -/
theorem lose_l {f : RW} {T B : Int} (h : Inv f T) (hE : Ew f B) {N : Nat} {sg : Nat → Nat} (hN : f 9 = N) (hsg : Sig f N sg) (h0 : 0 < N) : Ew (m_lose f) B ∧ (m_lose f) 9 = (N : Int) - 1 ∧ (m_lose f) 5 = f 5 + 1 := by
  have hr := ranked_at (r := f) (by omega) hsg 0 h0
  have hn := hsg.1 0 h0
  have h54 := h.nine
  have hco := h.co
  have i4 := h.ti.2.2.1
  obtain ⟨t1, t9, t3⟩ := takeOff_at hN hn (by omega)
  have e5 : m_takeOff f (sg 0) 5 = f 5 := t1 5 (by decide) (by omega)
  unfold m_lose
  rw [show ((0 : Nat) : Int) = 0 from rfl] at hr
  rw [hr, e5]
  have hoff := hE.2.2.1.off h.me.mk h.co.1.2 hN hn (by omega)
  have y0 : ∀ j, j ≠ 9 → j < 811 → m_takeOff f (sg 0) j = f j := fun j h9 hj => t1 j h9 (by omega)
  obtain ⟨og, hG⟩ := h.me
  have hK1 : MK (m_takeOff f (sg 0)) := IMe.mk ⟨_, IMeG.off hG hN hn (by omega)⟩
  generalize m_takeOff f (sg 0) = Y at t1 t9 t3 e5 hoff y0 hK1 ⊢
  have hEY : Ew Y B := ⟨hE.1.low h.o24 fun j hj => y0 j (by omega) (by omega), hE.2.1.low h.co.1.2 fun j hj => y0 j (by omega) (by omega), hoff, by rw [y0 7 (by decide) (by decide)]; exact hE.2.2.2⟩
  obtain ⟨c1, c2, c3, c4, c5, c6, c7, c8, c9⟩ := hco
  refine ⟨hEY.same hK1 (by rw [y0 2 (by decide) (by decide)]; exact c1.2) (fun c hc => ?_) (fun j hj => up_n _ _ (by omega)) (fun d x hd h1 h2 _ _ _ _ => by unfold m_of; exact up_n _ _ (by omega)), ?_, ?_⟩
  · have : m_of Y c 2 = m_of f c 2 := by unfold m_of; exact y0 _ (by omega) (by omega)
    rw [this]; exact h.o24 c hc
  · rw [up_n _ _ (by decide), t9]
  · rw [up_s]; exact wr_id (by
      have i0 := h.ti.1
      have := h.rf 4
      exact ⟨by omega, by omega⟩)
/-! want, set -/
theorem want_l {f : RW} {T B : Int} (h : Inv f T) (hE : Ew f B) {c : Nat} (hc : c < 3) {t : Int} (ht : 0 ≤ t ∧ t ≤ 15) : Ew (up f (697 + 38 * (c : Int) + 0) t) B ∧ m_of (up f (697 + 38 * (c : Int) + 0) t) c 0 = t :=
  ⟨hE.same h.me.mk h.co.1.2 h.o24 (fun j hj => up_n _ _ (by omega)) (fun d x hd h1 h2 _ _ _ _ => by unfold m_of; exact up_n _ _ (by omega)), by unfold m_of; rw [up_s]; exact wr_id ⟨by omega, by omega⟩⟩
theorem set_l {f : RW} {T B : Int} (h : Inv f T) (hE : Ew f B) {s v : Int} (hs : 1 ≤ s ∧ s ≤ 6) : Ew (up f (10 + s) v) B :=
  hE.same h.me.mk h.co.1.2 h.o24 (fun j hj => up_n _ _ (by omega)) (fun d x hd h1 h2 _ _ _ _ => by unfold m_of; exact up_n _ _ (by omega))
/-! at first -/
theorem first_e (v : Int) : Ew (up m_row0 10 v) 0 := by
  have hf := row0_few
  have eo : ∀ j, j ≠ 10 → (up m_row0 10 v) j = m_row0 j := fun j hj => up_n _ _ hj
  refine ⟨fun c hc => ?_, fun k hk => ?_, fun n hn => ?_, ?_⟩
  · have r := row0_of ⟨c, hc⟩
    have em : ∀ x : Int, 0 ≤ x → m_of (up m_row0 10 v) c x = m_of m_row0 c x := fun x hx => by unfold m_of; exact eo _ (by omega)
    unfold EC1
    rw [em 8 (by decide), em 1 (by decide), em 6 (by decide), em 3 (by decide), em 7 (by decide), em 2 (by decide), em 5 (by decide), em 12 (by decide), eo 3 (by decide)]
    dsimp only at r
    rw [r.2.1, r.2.2.1, r.2.2.2.1, r.2.2.2.2.2.1, r.2.2.2.2.2.2.1, r.2.2.2.2.2.2.2.1, r.2.2.2.2.2.2.2.2.1, r.2.2.2.2.2.2.2.2.2.2.2.2, hf.1.2.2.2.1]
    exact ⟨by decide, by decide, by decide, fun z => absurd z (by decide), fun j hj => by omega, by decide, by decide⟩
  · rw [eo 2 (by decide), hf.1.2.2.1] at hk; omega
  · rw [eo 9 (by decide), hf.1.2.2.2.2.2.2.2.2] at hn; omega
  · rw [eo 7 (by decide), row0_7]; decide
