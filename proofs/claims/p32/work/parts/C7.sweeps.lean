/-! ===== sweeping, and the law's look at it ===== -/
theorem why_0 (f : RW) (k : Int) : m_why f k = 0 ↔ m_ansBy f k = 7 := by
  rw [ansBy_7]
  unfold m_why m_wh
  generalize m_ans f k 0 = a0
  generalize m_ans f k 1 = a1
  generalize m_ans f k 2 = a2
  generalize m_mark f k (4 + 0) = s0
  generalize m_mark f k (4 + 1) = s1
  generalize m_mark f k (4 + 2) = s2
  generalize m_mark f k (1 + 0) = e0
  generalize m_mark f k (1 + 1) = e1
  generalize m_mark f k (1 + 2) = e2
  revert a0 a1 a2 s0 s1 s2 e0 e1 e2
  decide +kernel
theorem sw_sum {f : RW} {N : Nat} {o : Nat → Nat} (hO : Ord f N o) (F : Nat → Int) : sumN (fun j => if swS f (o j) then F (o j) else 0) N = sumN (fun k => if swS f k then F k else 0) (f 2).toNat := by
  have h := sumN_bij (fun k => if swS f k then F k else 0) (f 2).toNat N o (fun k => decide (m_mark f k 0 = false)) (fun j hj => by have := hO.1 j hj; exact ⟨by omega, by simp [this.2]⟩) (fun i j hij hj e => by have := hO.inj (by omega) hj e; omega) (fun k hk q => hO.2.2 k (by omega) (by simpa using q))
  rw [h]
  exact sumN_congr _ fun k hk => by
    by_cases z : m_mark f k 0 = false
    · rw [if_pos (by simp [z])]
    · rw [if_neg (by simpa using z), if_neg (fun y => z y.1)]
/-- what sweeping leaves -/
theorem sweeps_at {f : RW} {T : Int} (h : Inv f T) {N : Nat} {o : Nat → Nat} (hO : Ord f N o) : m_sweepsC f = sumN (fun j => if swS f (o j) then 1 else 0) N ∧ m_sweeps f 3 = f 3 + m_sweepsC f ∧ m_sweeps f 2 = f 2 ∧ (∀ j, (j < 97 ∨ 697 ≤ j) → j ≠ 3 → (∀ c : Nat, c < 3 → j ≠ 697 + 38 * (c : Int) + 12) → m_sweeps f j = f j) ∧ (∀ k : Nat, (k : Int) < f 2 → m_sweeps f (97 + 3 * k) = f (97 + 3 * k) ∧ m_sweeps f (97 + 3 * k + 1) = f (97 + 3 * k + 1) ∧ m_sweeps f (97 + 3 * k + 2) = if swS f k then b_or (f (97 + 3 * k + 2)) (b_shl 1 0) else f (97 + 3 * k + 2)) ∧ ∀ c : Nat, c < 3 → m_of (m_sweeps f) c 12 = wr (m_of f c 12 + sumN (fun j => if swS f (o j) then c_los f (o j) c else 0) N) := by
  have b2 := h.co.1
  have b3 := h.co.2.1
  obtain ⟨s1, s2, s3, s4⟩ := sweepL_at h.rf h.ro (f 2).toNat (by omega) b2.2
  have e1 : m_sweepsC f = sumN (fun j => if swS f (o j) then 1 else 0) N := by
    unfold m_sweepsC
    rw [s4]
    exact (sw_sum hO (fun _ => 1)).symm
  have hr := m_sweepN_rg f (f 2).toNat
  have e3 : (m_sweepL f (f 2).toNat) 3 = f 3 := s1 3 (by omega) (fun c _ => by omega)
  have hs3 : m_sweeps f 3 = f 3 + m_sweepsC f := by
    unfold m_sweeps m_sweepsC
    rw [up_s, e3, wr_id ⟨by omega, by omega⟩]
  have eo : ∀ j, j ≠ 3 → m_sweeps f j = (m_sweepL f (f 2).toNat) j := fun j hj => up_n _ _ hj
  refine ⟨e1, hs3, ?_, fun j hj h3 hc => ?_, fun k hk => ?_, fun c hc => ?_⟩
  · rw [eo 2 (by decide)]; exact s1 2 (by omega) (fun c _ => by omega)
  · rw [eo j h3]; exact s1 j hj hc
  · rw [eo _ (by omega), eo _ (by omega), eo _ (by omega)]
    obtain ⟨a1, a2, a3⟩ := s2 k hk
    refine ⟨a1, a2, ?_⟩
    rw [a3]
    by_cases z : swS f k
    · rw [if_pos ⟨by omega, z⟩, if_pos z]
    · rw [if_neg (fun y => z y.2), if_neg z]
  · have : m_of (m_sweeps f) c 12 = m_of (m_sweepL f (f 2).toNat) c 12 := by unfold m_of; exact eo _ (by omega)
    rw [this, s3 c hc, sw_sum hO (fun k => c_los f k c)]
theorem los_rg (f : RW) (k c : Int) : 0 ≤ c_los f k c ∧ c_los f k c ≤ 1 := by unfold c_los; split <;> omega
theorem sum_le {f g : Nat → Int} (n : Nat) (h : ∀ k, k < n → 0 ≤ f k ∧ f k ≤ g k) : 0 ≤ sumN f n ∧ sumN f n ≤ sumN g n := by
  induction n with
  | zero => exact ⟨Int.le_refl _, Int.le_refl _⟩
  | succ n ih =>
    have a := ih fun k hk => h k (by omega)
    have b := h n (by omega)
    simp only [sumN]; omega
theorem sweeps_e {f : RW} {T B : Int} (h : Inv f T) (hE : Ew f B) {N : Nat} {o : Nat → Nat} (hO : Ord f N o) : Ew (m_sweeps f) B ∧ ∀ c : Nat, c < 3 → m_of (m_sweeps f) c 12 = m_of f c 12 + sumN (fun j => if swS f (o j) then c_los f (o j) c else 0) N := by
  obtain ⟨e1, e3, e2, eo, er, ec⟩ := sweeps_at h hO
  obtain ⟨hC, hR, hM, h7⟩ := hE
  have b2 := h.co.1
  have b3 := h.co.2.1
  have hsum : ∀ c : Nat, 0 ≤ sumN (fun j => if swS f (o j) then c_los f (o j) c else 0) N ∧ sumN (fun j => if swS f (o j) then c_los f (o j) c else 0) N ≤ m_sweepsC f := fun c => by
    rw [e1]
    exact sum_le N fun k hk => by
      have := los_rg f (o k) c
      split <;> omega
  have hcr := m_sweepN_rg f (f 2).toNat
  have hcr2 : 0 ≤ m_sweepsC f ∧ m_sweepsC f ≤ 200 := by unfold m_sweepsC; omega
  have ec2 : ∀ c : Nat, c < 3 → m_of (m_sweeps f) c 12 = m_of f c 12 + sumN (fun j => if swS f (o j) then c_los f (o j) c else 0) N := fun c hc => by
    have a := (hC c hc).2.2.2.2.2.2
    have b := hsum c
    rw [ec c hc, wr_id ⟨by omega, by omega⟩]
  have em : ∀ (d : Nat) (x : Int), d < 3 → 0 ≤ x → x < 38 → x ≠ 12 → m_of (m_sweeps f) d x = m_of f d x := fun d x hd h0 h1 h12 => by
    unfold m_of; exact eo _ (by omega) (by omega) (fun c _ => by omega)
  have hmk : ∀ (k b : Nat), (k : Int) < f 2 → b < 7 → (m_mark (m_sweeps f) k b = true ↔ (b = 0 ∧ swS f k) ∨ m_mark f k b = true) := fun k b hk hb => by
    by_cases z : swS f k
    · have e := (er k hk).2.2
      rw [if_pos z] at e
      rw [mark_set (h.ro k hk).2.2 (show 0 < 7 by decide) hb (t := 0) rfl e]
      exact ⟨fun y => y.imp (fun q => ⟨q, z⟩) id, fun y => y.imp (fun q => q.1) id⟩
    · have e := (er k hk).2.2
      rw [if_neg z] at e
      rw [mark_keep e]
      exact ⟨Or.inr, fun y => y.resolve_left (fun q => z q.2)⟩
  have hG : Gr f (m_sweeps f) := ⟨e2, fun k hk => ⟨num_keep (eo 10 (by omega) (by decide) (fun c _ => by omega)) (er k hk).2.1, fun b hb z => (hmk k b hk hb).mpr (Or.inr z)⟩, fun c hc => by rw [em c 1 hc (by decide) (by decide) (by decide)]; exact Int.le_refl _⟩
  refine ⟨⟨fun d hd => ?_, fun k hk d hd z => ?_, hM.keep h.me.mk hG (eo 9 (by omega) (by decide) (fun c _ => by omega)) (fun j hj => eo j (by omega) (by omega) (fun c _ => by omega)), by rw [eo 7 (by omega) (by decide) (fun c _ => by omega)]; exact h7⟩, ec2⟩
  · obtain ⟨a1, a2, a3, a4, a5, a6, a7⟩ := hC d hd
    have r2 := (h.re d hd).2.2.1
    have b := hsum d
    unfold EC1
    rw [em d 8 hd (by decide) (by decide) (by decide), em d 1 hd (by decide) (by decide) (by decide), em d 6 hd (by decide) (by decide) (by decide), em d 3 hd (by decide) (by decide) (by decide), em d 7 hd (by decide) (by decide) (by decide), em d 2 hd (by decide) (by decide) (by decide), em d 5 hd (by decide) (by decide) (by decide), ec2 d hd, e3]
    exact ⟨a1, a2, a3, a4, fun j hj => by rw [em d _ hd (by omega) (by omega) (by omega)]; exact a5 j hj, a6, by omega⟩
  · rw [e2] at hk
    rw [show (1 + (d : Int)) = ((1 + d : Nat) : Int) by omega, hmk k (1 + d) hk (by omega)] at z
    rw [show (4 + (d : Int)) = ((4 + d : Nat) : Int) by omega, hmk k (4 + d) hk (by omega)]
    right
    rcases z with z | z
    · omega
    · rw [show ((4 + d : Nat) : Int) = 4 + (d : Int) by omega]
      exact hR k hk d hd (by rw [show (1 + (d : Int)) = ((1 + d : Nat) : Int) by omega]; exact z)
/-- the first one that is left has not been answered by all -/
theorem sweeps_first {f : RW} {T : Int} (h : Inv f T) {N : Nat} {o : Nat → Nat} (hO : Ord f N o) {N' : Nat} {o' : Nat → Nat} (hO' : Ord (m_sweeps f) N' o') (h0 : 0 < N') : m_why (m_sweeps f) (o' 0) ≠ 0 := by
  obtain ⟨e1, e3, e2, eo, er, ec⟩ := sweeps_at h hO
  obtain ⟨q1, q2⟩ := hO'.1 0 h0
  rw [e2] at q1
  obtain ⟨a1, a2, a3⟩ := er (o' 0) q1
  intro z
  rw [why_0] at z
  rw [ansBy_keep (r := f) (eo 10 (by omega) (by decide) (fun c _ => by omega)) a1 a2 (fun c hc => ⟨by unfold m_of; exact eo _ (by omega) (by omega) (fun d _ => by omega), by unfold m_of; exact eo _ (by omega) (by omega) (fun d _ => by omega)⟩)] at z
  by_cases y : swS f (o' 0)
  · rw [if_pos y] at a3
    have := (mark_set (h.ro _ q1).2.2 (show 0 < 7 by decide) (show 0 < 7 by decide) (t := 0) rfl a3).mpr (Or.inl rfl)
    rw [show ((0 : Nat) : Int) = 0 from rfl, q2] at this
    cases this
  · rw [if_neg y] at a3
    rw [mark_keep a3] at q2
    exact y ⟨q2, z⟩
/-- what an act leaves -/
def AP (u : Mem) (x : Nat) (kp : Int) (K : RW) (T B : Int) : Option SV → Mem → Prop := fun o w => o = some (xI 1) ∧ ∃ (g : RW) (s : Int) (P : RW), RX w x g s P kp K T ∧ RF P ∧ Ew g B ∧ Kp u w x
abbrev rmL_sweeps : Room := { frames := 7, cells := 1200, slots := 8000, locals := 160 }
set_option maxRecDepth 100000 in
theorem l_sweeps {l : Launch} {D : DD} (hfl : l.stackTraces = false) {u : Mem} {x : Nat} {f : RW} {s : Int} {P : RW} {kp : Int} {K : RW} {T B : Int} (hX0 : RX u x f s P kp K T) (rP : RF P) (hst : Sta D u x) (hE : Ew f B) (hT : T ≤ 2000000) : CT l D yL_sweeps cL_sweeps 7 (some .boolean) rmL_sweeps [xA x] u (AP u x kp K T B) := by
  refine CT.of hfl (by decide) (le_b rfl) ?_
  intro C hC hR hL hDD hN
  have hfC : (cxL C).stackTraces = false := by rw [hL]; exact hfl
  have hRc : 1200 ≤ rmL_sweeps.cells := le_b rfl
  have hRz : 8000 ≤ rmL_sweeps.slots := le_b rfl
  have hR7 : 7 ≤ rmL_sweeps.frames ∧ 120 ≤ rmL_sweeps.locals := ⟨le_b rfl, le_b rfl⟩
  show VW C 0 [some (xA x), none, none, none, none, none, none] [] u 0 0
  have hI := hX0.2.2.1.2
  obtain ⟨⟨i0, i1⟩, ⟨i2, i3⟩, i4, i5, i6⟩ := hI.ti
  obtain ⟨c1, c2, c3, c4, c5, c6, c7, c8, c9⟩ := hI.co
  obtain ⟨N, hN⟩ : ∃ N : Nat, m_kept f = N := ⟨(m_kept f).toNat, by unfold m_kept; omega⟩
  have hN2 : f 2 - f 3 = N := hN
  obtain ⟨o, hO, -⟩ := hX0.2.2.1.1.r.2.2.2.2
  rw [hN, Int.toNat_natCast] at hO
  have hro := hI.ro
  have hon : ∀ j : Nat, j < N → (o j : Int) < f 2 := fun j hj => (hO.1 j hj).1
  have hka : ∀ j : Nat, j < N → m_keptAt f j = o j := fun j hj => keptAt_at hO (fun j hj => num_pos hro (hon j hj)) j hj
  obtain ⟨a, ha⟩ : ∃ a, a = mN u := ⟨_, rfl⟩
  have hlos : ∀ (c k : Nat), 0 ≤ sumN (fun j => if swS f (o j) then c_los f (o j) c else 0) k ∧ sumN (fun j => if swS f (o j) then c_los f (o j) c else 0) k ≤ k := fun c k => sumN_01 k fun j _ => by
    have := los_rg f (o j) c
    split <;> omega
  have hdue : ∀ k : Nat, 0 ≤ sumN (fun j => if swS f (o j) then 1 else 0) k ∧ sumN (fun j => if swS f (o j) then 1 else 0) k ≤ k := fun k => sumN_01 k fun j _ => by split <;> omega
  obtain ⟨e1, e3, e2, -, -, -⟩ := sweeps_at hI hO
  obtain ⟨hEg, hg12⟩ := sweeps_e hI hE hO
  have loop : ∀ (d k : Nat), k + d = N → ∀ (w : Mem) (l5 l6 : Option SV) (due : Int) (c z : Nat), RX w x f s P kp K T → Kp u w x → Arr w x a → (∀ q : Nat, q < 3 → mI w a q = sumN (fun j => if swS f (o j) then c_los f (o j) q else 0) k) → due = sumN (fun j => if swS f (o j) then 1 else 0) k → c ≤ 5 + 12 * k → z ≤ 20 + 72 * k → VW C 15 [some (xA x), some (xI (N : Int)), some (xI due), some (xA a), some (xI (k : Int)), l5, l6] [] w c z := by
    intro d
    induction d with
    | zero =>
      intro k hk w l5 l6 due c z hX hkp har hg hdu hcb hzb
      have hkN : k = N := by omega
      have hdN := hdue k
      rw [← hdu] at hdN
      rw [hkN] at hdu
      rw [← e1] at hdu
      obtain ⟨a2, ha2⟩ : ∃ a, a = mN w := ⟨_, rfl⟩
      have hla : ∀ q : Nat, q < 3 → 0 ≤ mI w a q ∧ mI w a q ≤ 60 ∧ m_of (m_sweeps f) q 12 = m_of f q 12 + mI w a q := fun q hq => by
        have h1 := hlos q N
        rw [hg q hq, hkN, ← hg12 q hq]; omega
      have h12 : ∀ q : Nat, q < 3 → 0 ≤ m_of f q 12 ∧ m_of f q 12 ≤ 200 := fun q hq => by
        have := (hE.1 q hq).2.2.2.2.2.2
        omega
      refine r_iload hC dL_sweeps_15 rfl ?_
      refine r_iload_n hC dL_sweeps_17 rfl ?_
      refine r_icmp_ge (t := 126) hC dL_sweeps_18 (by rfl) (by first | exact hI.rf _ | exact rg_mI _ _ _ | exact rg_way hI.rf _ _ | exact rg_of hI.rf _ _ | exact ⟨by omega, by omega⟩ | assumption) (by first | exact hI.rf _ | exact rg_mI _ _ _ | exact rg_way hI.rf _ _ | exact rg_of hI.rf _ _ | exact ⟨by omega, by omega⟩ | assumption) (fun h_18 => ?_) (fun h_18 => (by omega))
      refine r_aload_n hC dL_sweeps_126 rfl ?_
      refine r_iconst hC dL_sweeps_127 ?_
      refine r_lcnt hC hfC dL_sweeps_128 ml_L_9 hR7 hX ⟨by omega, by omega⟩ (show m_countV f s 4 = f 3 from rfl) (le_b rfl) (by omega) (by omega) ?_
      refine r_istore (lv' := [_, _, _, _, _, _, _]) hC dL_sweeps_131 (lt_b rfl) rfl (lt_b rfl) rfl ?_
      refine r_iconst hC dL_sweeps_133 ?_
      refine r_newarr (n := 3) (ty := 0) hC dL_sweeps_134 (Or.inl ⟨rfl, rfl⟩) rfl (le_b rfl) (by omega) (by omega) ka_int (fun _ => ?_)
      obtain ⟨y1, y2, y3, y4⟩ := hX.newA
      obtain ⟨y5, y6⟩ := har.kp y2
      rw [← ha2] at y3 y4 ⊢
      generalize nC w (some (.inr (0, 3))) = w1 at y1 y2 y3 y4 y5 y6 ⊢
      have hkp1 := hkp.trans y2
      have hN2a : mN u ≤ a2 := by rw [ha2]; exact hkp.1
      have hna : a ≠ a2 := by have := har.2.1; omega
      refine r_astore (lv' := [_, _, _, _, _, _, _]) hC dL_sweeps_136 (lt_b rfl) rfl (lt_b rfl) rfl ?_
      refine r_iconst hC dL_sweeps_138 ?_
      refine r_istore (lv' := [_, _, _, _, _, _, _]) hC dL_sweeps_139 (lt_b rfl) rfl (lt_b rfl) rfl ?_
      refine r_iload hC dL_sweeps_141 rfl ?_
      refine r_iconst hC dL_sweeps_143 ?_
      refine r_icmp_ge (t := 166) hC dL_sweeps_144 (by rfl) (by first | exact hI.rf _ | exact rg_mI _ _ _ | exact rg_way hI.rf _ _ | exact rg_of hI.rf _ _ | exact ⟨by omega, by omega⟩ | assumption) (by first | exact hI.rf _ | exact rg_mI _ _ _ | exact rg_way hI.rf _ _ | exact rg_of hI.rf _ _ | exact ⟨by omega, by omega⟩ | assumption) (fun h_144 => (by omega)) (fun h_144 => ?_)
      refine r_aload hC dL_sweeps_147 rfl ?_
      refine r_iload hC dL_sweeps_149 rfl ?_
      refine r_aload_n hC dL_sweeps_151 rfl ?_
      refine r_iload hC dL_sweeps_152 rfl ?_
      refine r_bipush hC dL_sweeps_154 (by rfl) ?_
      refine r_lrecv hC hfC dL_sweeps_156 ml_L_19 hR7 y1 ⟨by omega, by omega⟩ ⟨by omega, by omega⟩ (rcv_11 f 0) (le_b rfl) (by omega) (by omega) ?_
      refine r_iast hC dL_sweeps_159 y3.1 ⟨by omega, by omega⟩ ?_
      obtain ⟨p0, q0, r0⟩ := y1.st y3 (0) (m_of f 0 12)
      have s0 := q0 _ y3
      have t0 := q0 _ y5
      have k0 := r0 u hkp1 hN2a
      refine r_iinc (lv' := [_, _, _, _, _, _, _]) hC dL_sweeps_160 rfl (lt_b rfl) rfl (lt_b rfl) rfl ?_
      refine r_goto (t := 141) hC dL_sweeps_163 (by rfl) ?_
      refine r_iload hC dL_sweeps_141 rfl ?_
      refine r_iconst hC dL_sweeps_143 ?_
      refine r_icmp_ge (t := 166) hC dL_sweeps_144 (by rfl) (by first | exact hI.rf _ | exact rg_mI _ _ _ | exact rg_way hI.rf _ _ | exact rg_of hI.rf _ _ | exact ⟨by omega, by omega⟩ | assumption) (by first | exact hI.rf _ | exact rg_mI _ _ _ | exact rg_way hI.rf _ _ | exact rg_of hI.rf _ _ | exact ⟨by omega, by omega⟩ | assumption) (fun h_144 => (by omega)) (fun h_144 => ?_)
      refine r_aload hC dL_sweeps_147 rfl ?_
      refine r_iload hC dL_sweeps_149 rfl ?_
      refine r_aload_n hC dL_sweeps_151 rfl ?_
      refine r_iload hC dL_sweeps_152 rfl ?_
      refine r_bipush hC dL_sweeps_154 (by rfl) ?_
      refine r_lrecv hC hfC dL_sweeps_156 ml_L_19 hR7 p0 ⟨by omega, by omega⟩ ⟨by omega, by omega⟩ (rcv_11 f 1) (le_b rfl) (by omega) (by omega) ?_
      refine r_iast hC dL_sweeps_159 s0.1 ⟨by omega, by omega⟩ ?_
      obtain ⟨p1, q1, r1⟩ := p0.st s0 (0 + 1) (m_of f 1 12)
      have s1 := q1 _ s0
      have t1 := q1 _ t0
      have k1 := r1 u k0 hN2a
      refine r_iinc (lv' := [_, _, _, _, _, _, _]) hC dL_sweeps_160 rfl (lt_b rfl) rfl (lt_b rfl) rfl ?_
      refine r_goto (t := 141) hC dL_sweeps_163 (by rfl) ?_
      refine r_iload hC dL_sweeps_141 rfl ?_
      refine r_iconst hC dL_sweeps_143 ?_
      refine r_icmp_ge (t := 166) hC dL_sweeps_144 (by rfl) (by first | exact hI.rf _ | exact rg_mI _ _ _ | exact rg_way hI.rf _ _ | exact rg_of hI.rf _ _ | exact ⟨by omega, by omega⟩ | assumption) (by first | exact hI.rf _ | exact rg_mI _ _ _ | exact rg_way hI.rf _ _ | exact rg_of hI.rf _ _ | exact ⟨by omega, by omega⟩ | assumption) (fun h_144 => (by omega)) (fun h_144 => ?_)
      refine r_aload hC dL_sweeps_147 rfl ?_
      refine r_iload hC dL_sweeps_149 rfl ?_
      refine r_aload_n hC dL_sweeps_151 rfl ?_
      refine r_iload hC dL_sweeps_152 rfl ?_
      refine r_bipush hC dL_sweeps_154 (by rfl) ?_
      refine r_lrecv hC hfC dL_sweeps_156 ml_L_19 hR7 p1 ⟨by omega, by omega⟩ ⟨by omega, by omega⟩ (rcv_11 f 2) (le_b rfl) (by omega) (by omega) ?_
      refine r_iast hC dL_sweeps_159 s1.1 ⟨by omega, by omega⟩ ?_
      obtain ⟨p2, q2, r2⟩ := p1.st s1 (0 + 1 + 1) (m_of f 2 12)
      have s2 := q2 _ s1
      have t2 := q2 _ t1
      have k2 := r2 u k1 hN2a
      refine r_iinc (lv' := [_, _, _, _, _, _, _]) hC dL_sweeps_160 rfl (lt_b rfl) rfl (lt_b rfl) rfl ?_
      refine r_goto (t := 141) hC dL_sweeps_163 (by rfl) ?_
      refine r_iload hC dL_sweeps_141 rfl ?_
      refine r_iconst hC dL_sweeps_143 ?_
      refine r_icmp_ge (t := 166) hC dL_sweeps_144 (by rfl) (by first | exact hI.rf _ | exact rg_mI _ _ _ | exact rg_way hI.rf _ _ | exact rg_of hI.rf _ _ | exact ⟨by omega, by omega⟩ | assumption) (by first | exact hI.rf _ | exact rg_mI _ _ _ | exact rg_way hI.rf _ _ | exact rg_of hI.rf _ _ | exact ⟨by omega, by omega⟩ | assumption) (fun h_144 => ?_) (fun h_144 => (by omega))
      have hB2 : ∀ q : Nat, q < 3 → mI (sI (sI (sI w1 a2 0 (m_of f 0 12)) a2 (0 + 1) (m_of f 1 12)) a2 (0 + 1 + 1) (m_of f 2 12)) a2 q = m_of f q 12 := fun q hq => by
        have g0 := h12 0 (by decide)
        have g1 := h12 1 (by decide)
        have g2 := h12 2 (by decide)
        rw [show ((0 : Nat) : Int) = 0 from rfl] at g0
        rw [show ((1 : Nat) : Int) = 1 from rfl] at g1
        rw [show ((2 : Nat) : Int) = 2 from rfl] at g2
        rw [up_mI, up_mI, up_mI]
        rcases (show q = 0 ∨ q = 1 ∨ q = 2 by omega) with e | e | e
        · subst e
          rw [up_n _ _ (by decide), up_n _ _ (by decide), show ((0 : Nat) : Int) = 0 from rfl, up_s]; exact wr_id ⟨by omega, by omega⟩
        · subst e
          rw [up_n _ _ (by decide), show ((1 : Nat) : Int) = 0 + 1 from rfl, up_s]; exact wr_id ⟨by omega, by omega⟩
        · subst e
          rw [show ((2 : Nat) : Int) = 0 + 1 + 1 from rfl, up_s]; exact wr_id ⟨by omega, by omega⟩
      have hB1 : mI (sI (sI (sI w1 a2 0 (m_of f 0 12)) a2 (0 + 1) (m_of f 1 12)) a2 (0 + 1 + 1) (m_of f 2 12)) a = mI w a := by
        rw [up_mI_n _ _ _ hna, up_mI_n _ _ _ hna, up_mI_n _ _ _ hna, y6]
      generalize sI (sI (sI w1 a2 0 (m_of f 0 12)) a2 (0 + 1) (m_of f 1 12)) a2 (0 + 1 + 1) (m_of f 2 12) = w2 at p2 q2 r2 s2 t2 k2 hB1 hB2 ⊢
      have hst2 := hst.kp hX0.2.1 k2
      refine r_aload_n hC dL_sweeps_166 rfl ?_
      refine r_callV (as := []) hC dL_sweeps_167 mi_X7_sweep se_X7_sweep ml_L_44 (rm := rmX7_sweep) ⟨le_b rfl, le_b rfl⟩ p2.1.1 rfl rfl rfl (le_b rfl) (by show _ + 146 ≤ _; omega) (by show _ + 2320 ≤ _; omega) (k_Rl_sweep hfC p2 rP (by rw [hDD]; exact hst2)) ?_ rfl
      rintro _ w3 ⟨rfl, hX3, hk3, -⟩
      show VW C _ _ [xI (m_sweepsC f)] w3 (_ + 146) (_ + 2320)
      obtain ⟨f3, g3⟩ := s2.kp hk3
      obtain ⟨f4, g4⟩ := t2.kp hk3
      have hkp3 := k2.trans hk3
      have hI3 := hX3.2.2.1.2
      have hc3 := hI3.co
      have hk3n : m_kept (m_sweeps f) = (N : Int) - due := by unfold m_kept; rw [e2, e3]; omega
      have g12 := fun q hq => (hla q hq).2.2
      have hb3 : ∀ q : Nat, q < 3 → mI w3 a2 q = m_of f q 12 := fun q hq => by rw [g3]; exact hB2 q hq
      have hb4 : ∀ q : Nat, q < 3 → mI w3 a q = mI w a q := fun q _ => by rw [g4, hB1]
      have z0 : mI w3 a2 0 = m_of f 0 12 := hb3 0 (by decide)
      have z1 : mI w3 a2 1 = m_of f 1 12 := hb3 1 (by decide)
      have z2 : mI w3 a2 2 = m_of f 2 12 := hb3 2 (by decide)
      have v0 : mI w3 a 0 = mI w a 0 := hb4 0 (by decide)
      have v1 : mI w3 a 1 = mI w a 1 := hb4 1 (by decide)
      have v2 : mI w3 a 2 = mI w a 2 := hb4 2 (by decide)
      have u0 : m_of (m_sweeps f) 0 12 = m_of f 0 12 + mI w a 0 := g12 0 (by decide)
      have u1 : m_of (m_sweeps f) 1 12 = m_of f 1 12 + mI w a 1 := g12 1 (by decide)
      have u2 : m_of (m_sweeps f) 2 12 = m_of f 2 12 + mI w a 2 := g12 2 (by decide)
      have o0 : 0 ≤ mI w a 0 ∧ mI w a 0 ≤ 60 := ⟨(hla 0 (by decide)).1, (hla 0 (by decide)).2.1⟩
      have o1 : 0 ≤ mI w a 1 ∧ mI w a 1 ≤ 60 := ⟨(hla 1 (by decide)).1, (hla 1 (by decide)).2.1⟩
      have o2 : 0 ≤ mI w a 2 ∧ mI w a 2 ≤ 60 := ⟨(hla 2 (by decide)).1, (hla 2 (by decide)).2.1⟩
      have n0 : 0 ≤ m_of f 0 12 ∧ m_of f 0 12 ≤ 200 := h12 0 (by decide)
      have n1 : 0 ≤ m_of f 1 12 ∧ m_of f 1 12 ≤ 200 := h12 1 (by decide)
      have n2 : 0 ≤ m_of f 2 12 ∧ m_of f 2 12 ≤ 200 := h12 2 (by decide)
      refine r_iload_n hC dL_sweeps_170 rfl ?_
      refine r_icmp_ne (t := 201) hC dL_sweeps_171 (by rfl) (by first | exact hI.rf _ | exact rg_mI _ _ _ | exact rg_way hI.rf _ _ | exact rg_of hI.rf _ _ | exact ⟨by omega, by omega⟩ | assumption) (by first | exact hI.rf _ | exact rg_mI _ _ _ | exact rg_way hI.rf _ _ | exact rg_of hI.rf _ _ | exact ⟨by omega, by omega⟩ | assumption) (fun h_171 => (by omega)) (fun h_171 => ?_)
      refine r_aload_n hC dL_sweeps_174 rfl ?_
      refine r_iconst hC dL_sweeps_175 ?_
      refine r_lcnt hC hfC dL_sweeps_176 ml_L_9 hR7 hX3 ⟨by omega, by omega⟩ (show m_countV (m_sweeps f) (m_savedN s) 3 = (N : Int) - due from hk3n) (le_b rfl) (by omega) (by omega) ?_
      refine r_iload_n hC dL_sweeps_179 rfl ?_
      refine r_iload_n hC dL_sweeps_180 rfl ?_
      refine r_isub hC dL_sweeps_181 ?_
      refine r_icmp_ne (t := 201) hC dL_sweeps_182 (by rfl) (by first | exact hI.rf _ | exact rg_mI _ _ _ | exact rg_way hI.rf _ _ | exact rg_of hI.rf _ _ | exact ⟨by omega, by omega⟩ | assumption) (by first | exact hI.rf _ | exact rg_mI _ _ _ | exact rg_way hI.rf _ _ | exact rg_of hI.rf _ _ | exact ⟨by omega, by omega⟩ | assumption) (fun h_182 => (by omega)) (fun h_182 => ?_)
      refine r_aload_n hC dL_sweeps_185 rfl ?_
      refine r_iconst hC dL_sweeps_186 ?_
      refine r_lcnt hC hfC dL_sweeps_187 ml_L_9 hR7 hX3 ⟨by omega, by omega⟩ (show m_countV (m_sweeps f) (m_savedN s) 4 = f 3 + m_sweepsC f from e3) (le_b rfl) (by omega) (by omega) ?_
      refine r_iload hC dL_sweeps_190 rfl ?_
      refine r_iload_n hC dL_sweeps_192 rfl ?_
      refine r_iadd hC dL_sweeps_193 ?_
      refine r_icmp_ne (t := 201) hC dL_sweeps_194 (by rfl) (by first | exact hI.rf _ | exact rg_mI _ _ _ | exact rg_way hI.rf _ _ | exact rg_of hI.rf _ _ | exact ⟨by omega, by omega⟩ | assumption) (by first | exact hI.rf _ | exact rg_mI _ _ _ | exact rg_way hI.rf _ _ | exact rg_of hI.rf _ _ | exact ⟨by omega, by omega⟩ | assumption) (fun h_194 => (by omega)) (fun h_194 => ?_)
      refine r_iconst hC dL_sweeps_197 ?_
      refine r_goto (t := 202) hC dL_sweeps_198 (by rfl) ?_
      refine r_istore (lv' := [_, _, _, _, _, _, _]) hC dL_sweeps_202 (lt_b rfl) rfl (lt_b rfl) rfl ?_
      refine r_iload hC dL_sweeps_204 rfl ?_
      refine r_if_eq (t := 285) hC dL_sweeps_206 (by rfl) (by first | exact hI.rf _ | exact rg_mI _ _ _ | exact rg_way hI.rf _ _ | exact rg_of hI.rf _ _ | exact ⟨by omega, by omega⟩ | assumption) (fun h_206 => (by omega)) (fun h_206 => ?_)
      refine r_aload_n hC dL_sweeps_209 rfl ?_
      refine r_iconst hC dL_sweeps_210 ?_
      refine r_bipush hC dL_sweeps_211 (by rfl) ?_
      refine r_lrecv hC hfC dL_sweeps_213 ml_L_19 hR7 hX3 ⟨by omega, by omega⟩ ⟨by omega, by omega⟩ (u0) (le_b rfl) (by omega) (by omega) ?_
      refine r_aload hC dL_sweeps_216 rfl ?_
      refine r_iconst hC dL_sweeps_218 ?_
      refine r_iald hC dL_sweeps_219 f3.1 ⟨by omega, by omega⟩ ?_
      refine r_aload_n hC dL_sweeps_220 rfl ?_
      refine r_iconst hC dL_sweeps_221 ?_
      refine r_iald hC dL_sweeps_222 f4.1 ⟨by omega, by omega⟩ ?_
      refine r_iadd hC dL_sweeps_223 ?_
      refine r_icmp_ne (t := 285) hC dL_sweeps_224 (by rfl) (by first | exact hI.rf _ | exact rg_mI _ _ _ | exact rg_way hI.rf _ _ | exact rg_of hI.rf _ _ | exact ⟨by omega, by omega⟩ | assumption) (by first | exact hI.rf _ | exact rg_mI _ _ _ | exact rg_way hI.rf _ _ | exact rg_of hI.rf _ _ | exact ⟨by omega, by omega⟩ | assumption) (fun h_224 => (by omega)) (fun h_224 => ?_)
      refine r_aload_n hC dL_sweeps_227 rfl ?_
      refine r_iconst hC dL_sweeps_228 ?_
      refine r_bipush hC dL_sweeps_229 (by rfl) ?_
      refine r_lrecv hC hfC dL_sweeps_231 ml_L_19 hR7 hX3 ⟨by omega, by omega⟩ ⟨by omega, by omega⟩ (u1) (le_b rfl) (by omega) (by omega) ?_
      refine r_aload hC dL_sweeps_234 rfl ?_
      refine r_iconst hC dL_sweeps_236 ?_
      refine r_iald hC dL_sweeps_237 f3.1 ⟨by omega, by omega⟩ ?_
      refine r_aload_n hC dL_sweeps_238 rfl ?_
      refine r_iconst hC dL_sweeps_239 ?_
      refine r_iald hC dL_sweeps_240 f4.1 ⟨by omega, by omega⟩ ?_
      refine r_iadd hC dL_sweeps_241 ?_
      refine r_icmp_ne (t := 285) hC dL_sweeps_242 (by rfl) (by first | exact hI.rf _ | exact rg_mI _ _ _ | exact rg_way hI.rf _ _ | exact rg_of hI.rf _ _ | exact ⟨by omega, by omega⟩ | assumption) (by first | exact hI.rf _ | exact rg_mI _ _ _ | exact rg_way hI.rf _ _ | exact rg_of hI.rf _ _ | exact ⟨by omega, by omega⟩ | assumption) (fun h_242 => (by omega)) (fun h_242 => ?_)
      refine r_aload_n hC dL_sweeps_245 rfl ?_
      refine r_iconst hC dL_sweeps_246 ?_
      refine r_bipush hC dL_sweeps_247 (by rfl) ?_
      refine r_lrecv hC hfC dL_sweeps_249 ml_L_19 hR7 hX3 ⟨by omega, by omega⟩ ⟨by omega, by omega⟩ (u2) (le_b rfl) (by omega) (by omega) ?_
      refine r_aload hC dL_sweeps_252 rfl ?_
      refine r_iconst hC dL_sweeps_254 ?_
      refine r_iald hC dL_sweeps_255 f3.1 ⟨by omega, by omega⟩ ?_
      refine r_aload_n hC dL_sweeps_256 rfl ?_
      refine r_iconst hC dL_sweeps_257 ?_
      refine r_iald hC dL_sweeps_258 f4.1 ⟨by omega, by omega⟩ ?_
      refine r_iadd hC dL_sweeps_259 ?_
      refine r_icmp_ne (t := 285) hC dL_sweeps_260 (by rfl) (by first | exact hI.rf _ | exact rg_mI _ _ _ | exact rg_way hI.rf _ _ | exact rg_of hI.rf _ _ | exact ⟨by omega, by omega⟩ | assumption) (by first | exact hI.rf _ | exact rg_mI _ _ _ | exact rg_way hI.rf _ _ | exact rg_of hI.rf _ _ | exact ⟨by omega, by omega⟩ | assumption) (fun h_260 => (by omega)) (fun h_260 => ?_)
      refine r_aload_n hC dL_sweeps_263 rfl ?_
      refine r_iconst hC dL_sweeps_264 ?_
      refine r_lcnt hC hfC dL_sweeps_265 ml_L_9 hR7 hX3 ⟨by omega, by omega⟩ (show m_countV (m_sweeps f) (m_savedN s) 3 = (N : Int) - due from hk3n) (le_b rfl) (by omega) (by omega) ?_
      have hfin : AP u x kp K T B (some (xI 1)) w3 := ⟨rfl, m_sweeps f, m_savedN s, m_saved P f s, hX3, rf_saved rP hI.rf s, hEg, hkp3⟩
      refine r_if_eq (t := 281) hC dL_sweeps_268 (by rfl) (by first | exact hI.rf _ | exact rg_mI _ _ _ | exact rg_way hI.rf _ _ | exact rg_of hI.rf _ _ | exact ⟨by omega, by omega⟩ | assumption) (fun h_268 => ?_) (fun h_268 => ?_)
      · skip
        refine r_iconst hC dL_sweeps_281 ?_
        refine r_goto (t := 286) hC dL_sweeps_282 (by rfl) ?_
        refine r_zret hC hR dL_sweeps_286 (Or.inr rfl) (by omega) (by omega) ?_
        exact hfin
      · skip
        obtain ⟨o', hO', -⟩ := hX3.2.2.1.1.r.2.2.2.2
        have hn3 : 0 < (m_kept (m_sweeps f)).toNat := by omega
        have hw := sweeps_first hI hO hO' hn3
        have hk0 : m_keptAt (m_sweeps f) 0 = o' 0 := keptAt_at hO' (fun j hj => num_pos hI3.ro (hO'.1 j hj).1) 0 hn3
        obtain ⟨wy, hwy⟩ : ∃ e, e = m_why (m_sweeps f) (o' 0) := ⟨_, rfl⟩
        have hwr : rg wy := by rw [hwy]; unfold m_why m_wh; (repeat' split) <;> exact ⟨by decide, by decide⟩
        rw [← hwy] at hw
        refine r_aload_n hC dL_sweeps_271 rfl ?_
        refine r_iconst hC dL_sweeps_272 ?_
        refine r_bipush hC dL_sweeps_273 (by rfl) ?_
        refine r_lrow hC hfC dL_sweeps_275 ml_L_15 hR7 hX3 ⟨by omega, by omega⟩ ⟨by omega, by omega⟩ (show m_rowV (m_sweeps f) (m_keptAt (m_sweeps f) 0) 7 = wy by rw [hk0, hwy]; rfl) (le_b rfl) (by omega) (by omega) ?_
        refine r_if_eq (t := 285) hC dL_sweeps_278 (by rfl) hwr (fun h_278 => absurd h_278 hw) (fun h_278 => ?_)
        refine r_iconst hC dL_sweeps_281 ?_
        refine r_goto (t := 286) hC dL_sweeps_282 (by rfl) ?_
        refine r_zret hC hR dL_sweeps_286 (Or.inr rfl) (by omega) (by omega) ?_
        exact hfin
    | succ d ih =>
      intro k hk w l5 l6 due c z hX hkp har hg hdu hcb hzb
      have hkN : k < N := by omega
      have hk2 := hon k hkN
      obtain ⟨j, hj⟩ : ∃ j, j = o k := ⟨_, rfl⟩
      have hm0 := (hO.1 k hkN).2
      rw [← hj] at hk2 hm0
      have htp := topic_rg hro hk2
      have hdk := hdue k
      rw [← hdu] at hdk
      have hv : ∀ q v : Int, m_rowV f j q = v → m_rowV f (m_keptAt f ((k : Int)).toNat) q = v := fun q v h => by rw [Int.toNat_natCast, hka k hkN, ← hj]; exact h
      obtain ⟨e5, he5⟩ : ∃ e, e = b_and (b_shr (f (97 + 3 * (j : Int) + 2)) 1) 7 := ⟨_, rfl⟩
      obtain ⟨tp, htq⟩ : ∃ e, e = m_topic f j := ⟨_, rfl⟩
      rw [← htq] at htp
      obtain ⟨wy, hwy⟩ : ∃ e, e = m_why f j := ⟨_, rfl⟩
      have hwr : rg wy := by rw [hwy]; unfold m_why m_wh; (repeat' split) <;> exact ⟨by decide, by decide⟩
      have hw7 := why_0 f j
      rw [← hwy] at hw7
      have los : ∀ (q q' : Int) (n : Nat), q = n → q' = q + 1 → n < 3 → ∀ (w : Mem) (due : Int) (c z : Nat), RX w x f s P kp K T → Kp u w x → Arr w x a → c + 10 ≤ 1200 → z + 60 ≤ 8000 → (∀ (w' : Mem), RX w' x f s P kp K T → Kp u w' x → Arr w' x a → (∀ r : Int, mI w' a r = if r = q then wr (mI w a q + c_los f j q) else mI w a r) → VW C 55 [some (xA x), some (xI (N : Int)), some (xI due), some (xA a), some (xI (k : Int)), some (xI 1), some (xI q')] [] w' (c + 3) (z + 18)) → VW C 55 [some (xA x), some (xI (N : Int)), some (xI due), some (xA a), some (xI (k : Int)), some (xI 1), some (xI q)] [] w c z := by
        intro q q' n hqn hq' hn w due c z hX hkp har hcb hzb kk
        subst hqn
        have heff := eff_at hro (k := j) (i := n) hk2 hn
        rw [← he5] at heff
        have h01 := and_one (b_shr (m_of f n 0) tp)
        have h02 := and_one (b_shr e5 n)
        have hwt : m_wants f n (m_topic f j) = decide (b_and (b_shr (m_of f n 0) tp) 1 = 1) := by rw [htq]; rfl
        have hor := fun v : Int => hX.st har (n : Int) v
        refine r_iload hC dL_sweeps_55 rfl ?_
        refine r_iconst hC dL_sweeps_57 ?_
        refine r_icmp_ge (t := 120) hC dL_sweeps_58 (by rfl) (by first | exact hI.rf _ | exact rg_mI _ _ _ | exact rg_way hI.rf _ _ | exact rg_of hI.rf _ _ | exact ⟨by omega, by omega⟩ | assumption) (by first | exact hI.rf _ | exact rg_mI _ _ _ | exact rg_way hI.rf _ _ | exact rg_of hI.rf _ _ | exact ⟨by omega, by omega⟩ | assumption) (fun h_58 => (by omega)) (fun h_58 => ?_)
        refine r_iload hC dL_sweeps_61 rfl ?_
        refine r_if_eq (t := 120) hC dL_sweeps_63 (by rfl) (by first | exact hI.rf _ | exact rg_mI _ _ _ | exact rg_way hI.rf _ _ | exact rg_of hI.rf _ _ | exact ⟨by omega, by omega⟩ | assumption) (fun h_63 => (by omega)) (fun h_63 => ?_)
        refine r_aload_n hC dL_sweeps_66 rfl ?_
        refine r_iload hC dL_sweeps_67 rfl ?_
        refine r_dup2 hC dL_sweeps_69 rfl rfl ?_
        refine r_iald hC dL_sweeps_70 har.1 ⟨by omega, by omega⟩ ?_
        refine r_aload_n hC dL_sweeps_71 rfl ?_
        refine r_iload hC dL_sweeps_72 rfl ?_
        refine r_iconst hC dL_sweeps_74 ?_
        refine r_lrecv hC hfC dL_sweeps_75 ml_L_19 hR7 hX ⟨by omega, by omega⟩ ⟨by omega, by omega⟩ (rcv_le f n (w := 0) (by decide)) (le_b rfl) (by omega) (by omega) ?_
        refine r_aload_n hC dL_sweeps_78 rfl ?_
        refine r_iload hC dL_sweeps_79 rfl ?_
        refine r_iconst hC dL_sweeps_81 ?_
        refine r_lrow hC hfC dL_sweeps_82 ml_L_15 hR7 hX ⟨by omega, by omega⟩ ⟨by omega, by omega⟩ (hv 3 tp (by rw [htq]; rfl)) (le_b rfl) (by omega) (by omega) ?_
        refine r_ishr hC dL_sweeps_85 ?_
        refine r_iconst hC dL_sweeps_86 ?_
        refine r_iand hC dL_sweeps_87 ?_
        refine r_iconst hC dL_sweeps_88 ?_
        refine r_icmp_ne (t := 111) hC dL_sweeps_89 (by rfl) (rg_and _ _) ⟨by omega, by omega⟩ (fun h_89 => ?_) (fun h_89 => ?_)
        · skip
          refine r_iconst hC dL_sweeps_111 ?_
          refine r_iadd hC dL_sweeps_112 ?_
          refine r_iast hC dL_sweeps_113 har.1 ⟨by omega, by omega⟩ ?_
          refine r_iinc (lv' := [_, _, _, _, _, _, _]) hC dL_sweeps_114 rfl (lt_b rfl) rfl (lt_b rfl) rfl ?_
          refine r_goto (t := 55) hC dL_sweeps_117 (by rfl) ?_
          obtain ⟨x1, x2, x3⟩ := hor (mI w a n + 0)
          have hl : c_los f j n = 0 := by unfold c_los; rw [if_neg]; intro z; rw [hwt, decide_eq_true_eq] at z; exact h_89 z.1
          have k3 := kk _ x1 (x3 u hkp (by omega)) (x2 a har) (fun r => by rw [up_mI, hl]; rfl)
          rw [hq'] at k3
          exact vw_widen (by omega) (by omega) k3
        · skip
          refine r_aload_n hC dL_sweeps_92 rfl ?_
          refine r_iload hC dL_sweeps_93 rfl ?_
          refine r_iconst hC dL_sweeps_95 ?_
          refine r_lrow hC hfC dL_sweeps_96 ml_L_15 hR7 hX ⟨by omega, by omega⟩ ⟨by omega, by omega⟩ (hv 5 e5 (by rw [he5]; rfl)) (le_b rfl) (by omega) (by omega) ?_
          refine r_iload hC dL_sweeps_99 rfl ?_
          refine r_ishr hC dL_sweeps_101 ?_
          refine r_iconst hC dL_sweeps_102 ?_
          refine r_iand hC dL_sweeps_103 ?_
          refine r_if_ne (t := 111) hC dL_sweeps_104 (by rfl) (rg_and _ _) (fun h_104 => ?_) (fun h_104 => ?_)
          · skip
            refine r_iconst hC dL_sweeps_111 ?_
            refine r_iadd hC dL_sweeps_112 ?_
            refine r_iast hC dL_sweeps_113 har.1 ⟨by omega, by omega⟩ ?_
            refine r_iinc (lv' := [_, _, _, _, _, _, _]) hC dL_sweeps_114 rfl (lt_b rfl) rfl (lt_b rfl) rfl ?_
            refine r_goto (t := 55) hC dL_sweeps_117 (by rfl) ?_
            obtain ⟨x1, x2, x3⟩ := hor (mI w a n + 0)
            have hl : c_los f j n = 0 := by unfold c_los; rw [if_neg]; intro z; have := heff.mp (h02.resolve_left h_104); rw [z.2] at this; cases this
            have k3 := kk _ x1 (x3 u hkp (by omega)) (x2 a har) (fun r => by rw [up_mI, hl]; rfl)
            rw [hq'] at k3
            exact vw_widen (by omega) (by omega) k3
          · skip
            refine r_iconst hC dL_sweeps_107 ?_
            refine r_goto (t := 112) hC dL_sweeps_108 (by rfl) ?_
            refine r_iadd hC dL_sweeps_112 ?_
            refine r_iast hC dL_sweeps_113 har.1 ⟨by omega, by omega⟩ ?_
            refine r_iinc (lv' := [_, _, _, _, _, _, _]) hC dL_sweeps_114 rfl (lt_b rfl) rfl (lt_b rfl) rfl ?_
            refine r_goto (t := 55) hC dL_sweeps_117 (by rfl) ?_
            obtain ⟨x1, x2, x3⟩ := hor (mI w a n + 1)
            have hl : c_los f j n = 1 := by unfold c_los; rw [if_pos]; exact ⟨by rw [hwt, h_89]; rfl, by cases z : m_mark f j (1 + n); rfl; have := heff.mpr z; omega⟩
            have k3 := kk _ x1 (x3 u hkp (by omega)) (x2 a har) (fun r => by rw [up_mI, hl]; rfl)
            rw [hq'] at k3
            exact vw_widen (by omega) (by omega) k3
      refine r_iload hC dL_sweeps_15 rfl ?_
      refine r_iload_n hC dL_sweeps_17 rfl ?_
      refine r_icmp_ge (t := 126) hC dL_sweeps_18 (by rfl) (by first | exact hI.rf _ | exact rg_mI _ _ _ | exact rg_way hI.rf _ _ | exact rg_of hI.rf _ _ | exact ⟨by omega, by omega⟩ | assumption) (by first | exact hI.rf _ | exact rg_mI _ _ _ | exact rg_way hI.rf _ _ | exact rg_of hI.rf _ _ | exact ⟨by omega, by omega⟩ | assumption) (fun h_18 => (by omega)) (fun h_18 => ?_)
      refine r_aload_n hC dL_sweeps_21 rfl ?_
      refine r_iload hC dL_sweeps_22 rfl ?_
      refine r_bipush hC dL_sweeps_24 (by rfl) ?_
      refine r_lrow hC hfC dL_sweeps_26 ml_L_15 hR7 hX ⟨by omega, by omega⟩ ⟨by omega, by omega⟩ (hv 7 wy (by rw [hwy]; rfl)) (le_b rfl) (by omega) (by omega) ?_
      refine r_if_ne (t := 36) hC dL_sweeps_29 (by rfl) hwr (fun h_29 => ?_) (fun h_29 => ?_)
      · skip
        refine r_iconst hC dL_sweeps_36 ?_
        refine r_istore (lv' := [_, _, _, _, _, _, _]) hC dL_sweeps_37 (lt_b rfl) rfl (lt_b rfl) rfl ?_
        refine r_iload_n hC dL_sweeps_39 rfl ?_
        refine r_iload hC dL_sweeps_40 rfl ?_
        refine r_if_eq (t := 49) hC dL_sweeps_42 (by rfl) (by first | exact hI.rf _ | exact rg_mI _ _ _ | exact rg_way hI.rf _ _ | exact rg_of hI.rf _ _ | exact ⟨by omega, by omega⟩ | assumption) (fun h_42 => ?_) (fun h_42 => (by omega))
        refine r_iconst hC dL_sweeps_49 ?_
        refine r_iadd hC dL_sweeps_50 ?_
        refine r_istore_n (lv' := [_, _, _, _, _, _, _]) hC dL_sweeps_51 (lt_b rfl) rfl (lt_b rfl) rfl ?_
        refine r_iconst hC dL_sweeps_52 ?_
        refine r_istore (lv' := [_, _, _, _, _, _, _]) hC dL_sweeps_53 (lt_b rfl) rfl (lt_b rfl) rfl ?_
        refine r_iload hC dL_sweeps_55 rfl ?_
        refine r_iconst hC dL_sweeps_57 ?_
        refine r_icmp_ge (t := 120) hC dL_sweeps_58 (by rfl) (by first | exact hI.rf _ | exact rg_mI _ _ _ | exact rg_way hI.rf _ _ | exact rg_of hI.rf _ _ | exact ⟨by omega, by omega⟩ | assumption) (by first | exact hI.rf _ | exact rg_mI _ _ _ | exact rg_way hI.rf _ _ | exact rg_of hI.rf _ _ | exact ⟨by omega, by omega⟩ | assumption) (fun h_58 => (by omega)) (fun h_58 => ?_)
        refine r_iload hC dL_sweeps_61 rfl ?_
        refine r_if_eq (t := 120) hC dL_sweeps_63 (by rfl) (by first | exact hI.rf _ | exact rg_mI _ _ _ | exact rg_way hI.rf _ _ | exact rg_of hI.rf _ _ | exact ⟨by omega, by omega⟩ | assumption) (fun h_63 => ?_) (fun h_63 => (by omega))
        refine r_iinc (lv' := [_, _, _, _, _, _, _]) hC dL_sweeps_120 rfl (lt_b rfl) rfl (lt_b rfl) rfl ?_
        refine r_goto (t := 15) hC dL_sweeps_123 (by rfl) ?_
        have hns : ¬ swS f j := fun y => h_29 (hw7.mpr y.2)
        rw [show (k : Int) + 1 = ((k + 1 : Nat) : Int) by omega]
        refine vw_widen (Nat.le_refl _) (Nat.le_refl _) (ih (k + 1) (by omega) _ _ _ _ _ _ hX hkp har (fun q hq => ?_) ?_ (by omega) (by omega))
        · simp only [sumN]; rw [← hj, if_neg hns, hg q hq]; omega
        · simp only [sumN]; rw [← hj, if_neg hns, hdu]
      · skip
        refine r_iconst hC dL_sweeps_32 ?_
        refine r_goto (t := 37) hC dL_sweeps_33 (by rfl) ?_
        refine r_istore (lv' := [_, _, _, _, _, _, _]) hC dL_sweeps_37 (lt_b rfl) rfl (lt_b rfl) rfl ?_
        refine r_iload_n hC dL_sweeps_39 rfl ?_
        refine r_iload hC dL_sweeps_40 rfl ?_
        refine r_if_eq (t := 49) hC dL_sweeps_42 (by rfl) (by first | exact hI.rf _ | exact rg_mI _ _ _ | exact rg_way hI.rf _ _ | exact rg_of hI.rf _ _ | exact ⟨by omega, by omega⟩ | assumption) (fun h_42 => (by omega)) (fun h_42 => ?_)
        refine r_iconst hC dL_sweeps_45 ?_
        refine r_goto (t := 50) hC dL_sweeps_46 (by rfl) ?_
        refine r_iadd hC dL_sweeps_50 ?_
        refine r_istore_n (lv' := [_, _, _, _, _, _, _]) hC dL_sweeps_51 (lt_b rfl) rfl (lt_b rfl) rfl ?_
        refine r_iconst hC dL_sweeps_52 ?_
        refine r_istore (lv' := [_, _, _, _, _, _, _]) hC dL_sweeps_53 (lt_b rfl) rfl (lt_b rfl) rfl ?_
        have hns : swS f j := ⟨hm0, hw7.mp h_29⟩
        refine los 0 1 0 rfl rfl (by decide) w _ _ _ hX hkp har (by omega) (by omega) fun w1 x1 x2 x3 x4 => ?_
        refine los 1 2 1 rfl rfl (by decide) w1 _ _ _ x1 x2 x3 (by omega) (by omega) fun w2 y1 y2 y3 y4 => ?_
        refine los 2 3 2 rfl rfl (by decide) w2 _ _ _ y1 y2 y3 (by omega) (by omega) fun w3 z1 z2 z3 z4 => ?_
        refine r_iload hC dL_sweeps_55 rfl ?_
        refine r_iconst hC dL_sweeps_57 ?_
        refine r_icmp_ge (t := 120) hC dL_sweeps_58 (by rfl) (by first | exact hI.rf _ | exact rg_mI _ _ _ | exact rg_way hI.rf _ _ | exact rg_of hI.rf _ _ | exact ⟨by omega, by omega⟩ | assumption) (by first | exact hI.rf _ | exact rg_mI _ _ _ | exact rg_way hI.rf _ _ | exact rg_of hI.rf _ _ | exact ⟨by omega, by omega⟩ | assumption) (fun h_58 => ?_) (fun h_58 => (by omega))
        refine r_iinc (lv' := [_, _, _, _, _, _, _]) hC dL_sweeps_120 rfl (lt_b rfl) rfl (lt_b rfl) rfl ?_
        refine r_goto (t := 15) hC dL_sweeps_123 (by rfl) ?_
        rw [show (k : Int) + 1 = ((k + 1 : Nat) : Int) by omega]
        refine vw_widen (Nat.le_refl _) (Nat.le_refl _) (ih (k + 1) (by omega) _ _ _ _ _ _ z1 z2 z3 (fun q hq => ?_) ?_ (by omega) (by omega))
        · simp only [sumN]
          rw [← hj, if_pos hns, ← hg q hq]
          have hgb := hg q hq
          have hl1 := hlos q k
          have hl2 := los_rg f j q
          have hb1 : wr (mI w a q + c_los f j q) = mI w a q + c_los f j q := wr_id ⟨by omega, by omega⟩
          rcases (show q = 0 ∨ q = 1 ∨ q = 2 by omega) with e | e | e
          · subst e
            rw [z4, if_neg (by decide), y4, if_neg (by decide), x4, if_pos (by decide)]; exact hb1
          · subst e
            rw [z4, if_neg (by decide), y4, if_pos (by decide), x4, if_neg (by decide)]; exact hb1
          · subst e
            rw [z4, if_pos (by decide), y4, if_neg (by decide), x4, if_neg (by decide)]; exact hb1
        · simp only [sumN]; rw [← hj, if_pos hns, hdu]
  refine r_aload_n hC dL_sweeps_0 rfl ?_
  refine r_iconst hC dL_sweeps_1 ?_
  refine r_lcnt hC hfC dL_sweeps_2 ml_L_9 hR7 hX0 ⟨by omega, by omega⟩ (show m_countV f s 3 = (N : Int) from hN) (le_b rfl) (by omega) (by omega) ?_
  refine r_istore_n (lv' := [_, _, _, _, _, _, _]) hC dL_sweeps_5 (lt_b rfl) rfl (lt_b rfl) rfl ?_
  refine r_iconst hC dL_sweeps_6 ?_
  refine r_istore_n (lv' := [_, _, _, _, _, _, _]) hC dL_sweeps_7 (lt_b rfl) rfl (lt_b rfl) rfl ?_
  refine r_iconst hC dL_sweeps_8 ?_
  refine r_newarr (n := 3) (ty := 0) hC dL_sweeps_9 (Or.inl ⟨rfl, rfl⟩) rfl (le_b rfl) (by omega) (by omega) ka_int (fun _ => ?_)
  obtain ⟨x1, x2, x3, x4⟩ := hX0.newA
  rw [← ha] at x3 x4 ⊢
  refine r_astore_n (lv' := [_, _, _, _, _, _, _]) hC dL_sweeps_11 (lt_b rfl) rfl (lt_b rfl) rfl ?_
  refine r_iconst hC dL_sweeps_12 ?_
  refine r_istore (lv' := [_, _, _, _, _, _, _]) hC dL_sweeps_13 (lt_b rfl) rfl (lt_b rfl) rfl ?_
  exact loop N 0 (by omega) _ _ _ 0 _ _ x1 x2 x3 (fun q _ => by rw [x4]; rfl) rfl (by omega) (by omega)
