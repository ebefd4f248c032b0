/-! ===== a tick, and the law's look at it ===== -/
/-- the sum over the first k messages by their ranks -/
def pS (f : RW) (sg : Nat → Nat) (φ : Int → Int → Int → Int → Int) (k : Nat) : Int := sumN (fun j => φ (m_way f (sg j) 0) (m_way f (sg j) 1) (m_way f (sg j) 3) (m_way f (sg j) 4)) k
def PMX (f : RW) (sg : Nat → Nat) (κ s : Int) (d : Nat) (v : Int) (k : Nat) : Prop := m_of f d s ≤ v ∧ pS f sg (φg κ d v) k = 0 ∧ (v = m_of f d s ∨ 0 < pS f sg (φe κ d v) k)
theorem pS_pos (f : RW) (sg : Nat → Nat) {φ : Int → Int → Int → Int → Int} (h : ∀ a b c d, 0 ≤ φ a b c d) (k : Nat) : 0 ≤ pS f sg φ k := by
  unfold pS
  induction k with
  | zero => exact Int.le_refl _
  | succ k ih => simp only [sumN]; have := h (m_way f (sg k) 0) (m_way f (sg k) 1) (m_way f (sg k) 3) (m_way f (sg k) 4); omega
theorem pS_succ (f : RW) (sg : Nat → Nat) (φ : Int → Int → Int → Int → Int) (k : Nat) : pS f sg φ (k + 1) = pS f sg φ k + φ (m_way f (sg k) 0) (m_way f (sg k) 1) (m_way f (sg k) 3) (m_way f (sg k) 4) := rfl
theorem φg_pos (κ : Int) (d : Nat) (v : Int) : ∀ a b c e, 0 ≤ φg κ d v a b c e := fun a b c e => by unfold φg; split <;> decide
theorem φe_pos (κ : Int) (d : Nat) (v : Int) : ∀ a b c e, 0 ≤ φe κ d v a b c e := fun a b c e => by unfold φe; split <;> decide
theorem pmx_0 (f : RW) (sg : Nat → Nat) (κ s : Int) (d : Nat) : PMX f sg κ s d (m_of f d s) 0 := ⟨Int.le_refl _, rfl, Or.inl rfl⟩
theorem pmx_same {f : RW} {sg : Nat → Nat} {κ s : Int} {d : Nat} {v : Int} {k : Nat} (h : PMX f sg κ s d v k) (hn : ¬ (m_way f (sg k) 0 = κ ∧ m_way f (sg k) 1 = d)) : PMX f sg κ s d v (k + 1) := by
  obtain ⟨a1, a2, a3⟩ := h
  have e1 : φg κ d v (m_way f (sg k) 0) (m_way f (sg k) 1) (m_way f (sg k) 3) (m_way f (sg k) 4) = 0 := if_neg fun z => hn ⟨z.1, z.2.1⟩
  have e2 : φe κ d v (m_way f (sg k) 0) (m_way f (sg k) 1) (m_way f (sg k) 3) (m_way f (sg k) 4) = 0 := if_neg fun z => hn ⟨z.1, z.2.1⟩
  unfold PMX
  rw [pS_succ, pS_succ, e1, e2]
  exact ⟨a1, by omega, by omega⟩
theorem pmx_next {f : RW} {sg : Nat → Nat} {κ s : Int} {d : Nat} {v : Int} {k : Nat} (h : PMX f sg κ s d v k) (hn : m_way f (sg k) 0 = κ ∧ m_way f (sg k) 1 = d) : PMX f sg κ s d (if v ≤ m_way f (sg k) 4 then m_way f (sg k) 4 else v) (k + 1) := by
  obtain ⟨a1, a2, a3⟩ := h
  obtain ⟨v', hv'⟩ : ∃ v', v' = if v ≤ m_way f (sg k) 4 then m_way f (sg k) 4 else v := ⟨_, rfl⟩
  rw [← hv']
  have hle : v ≤ v' := by rw [hv']; split <;> omega
  have hge : m_way f (sg k) 4 ≤ v' := by rw [hv']; split <;> omega
  have e1 : φg κ d v' (m_way f (sg k) 0) (m_way f (sg k) 1) (m_way f (sg k) 3) (m_way f (sg k) 4) = 0 := if_neg fun z => by omega
  have p1 := sum_le (f := fun j => φg κ d v' (m_way f (sg j) 0) (m_way f (sg j) 1) (m_way f (sg j) 3) (m_way f (sg j) 4)) (g := fun j => φg κ d v (m_way f (sg j) 0) (m_way f (sg j) 1) (m_way f (sg j) 3) (m_way f (sg j) 4)) k (fun j _ => ⟨φg_pos _ _ _ _ _ _ _, by
    unfold φg
    split
    · rw [if_pos (by omega)]; exact Int.le_refl _
    · split <;> decide⟩)
  have p2 : 0 ≤ pS f sg (φg κ d v') k ∧ pS f sg (φg κ d v') k ≤ pS f sg (φg κ d v) k := p1
  have p3 := pS_pos f sg (φe_pos κ d v') k
  have p4 := φe_pos κ d v' (m_way f (sg k) 0) (m_way f (sg k) 1) (m_way f (sg k) 3) (m_way f (sg k) 4)
  unfold PMX
  rw [pS_succ, pS_succ, e1]
  refine ⟨by omega, by omega, ?_⟩
  by_cases z : v' = m_way f (sg k) 4
  · have e2 : φe κ d v' (m_way f (sg k) 0) (m_way f (sg k) 1) (m_way f (sg k) 3) (m_way f (sg k) 4) = 1 := if_pos ⟨hn.1, hn.2, z.symm⟩
    omega
  · have e3 : v' = v := by
      rw [hv'] at z ⊢
      by_cases y : v ≤ m_way f (sg k) 4
      · rw [if_pos y] at z; exact absurd rfl z
      · rw [if_neg y]
    rw [e3] at p3 p4 ⊢
    omega
/-- the messages that come in the next tick are the first ones -/
theorem pS_due {f : RW} {N k : Nat} {sg : Nat → Nat} (hr : rg (f 0 + 1)) (hN : f 9 = N) (hsg : Sig f N sg) (hk : k ≤ N) (h1 : ∀ j : Nat, j < k → m_way f (sg j) 2 ≤ f 0 + 1) (h2 : k < N → f 0 + 1 < m_way f (sg k) 2) (φ : Int → Int → Int → Int → Int) : dSum (up f 0 (f 0 + 1)) φ = pS f sg φ k := by
  have hw : ∀ (m : Nat) (x : Int), 0 ≤ x → m_way (up f 0 (f 0 + 1)) m x = m_way f m x := fun m x hx => by unfold m_way; exact up_n _ _ (by omega)
  unfold dSum
  rw [show (up f 0 (f 0 + 1)) 9 = (N : Int) from (up_n _ _ (by decide)).trans hN, Int.toNat_natCast, show (up f 0 (f 0 + 1)) 0 = f 0 + 1 from (up_s _ _ _).trans (wr_id hr)]
  rw [sumN_congr (g := fun m => if m_way f m 2 ≤ f 0 + 1 then φ (m_way f m 0) (m_way f m 1) (m_way f m 3) (m_way f m 4) else 0) N (fun m _ => by rw [hw m 2 (by decide), hw m 0 (by decide), hw m 1 (by decide), hw m 3 (by decide), hw m 4 (by decide)])]
  have hb := sumN_bij (fun m => if m_way f m 2 ≤ f 0 + 1 then φ (m_way f m 0) (m_way f m 1) (m_way f m 3) (m_way f m 4) else 0) N N sg (fun _ => true) (fun i hi => ⟨hsg.1 i hi, rfl⟩) (fun i j hij hj => hsg.ne hij hj) (fun j hj _ => hsg.2.1 j hj)
  rw [sumN_congr (f := fun k => if (fun _ : Nat => true) k = true then (if m_way f k 2 ≤ f 0 + 1 then φ (m_way f k 0) (m_way f k 1) (m_way f k 3) (m_way f k 4) else 0) else 0) (g := fun m => if m_way f m 2 ≤ f 0 + 1 then φ (m_way f m 0) (m_way f m 1) (m_way f m 3) (m_way f m 4) else 0) N (fun k _ => by simp)] at hb
  rw [← hb]
  have key : ∀ n : Nat, n ≤ N → sumN (fun j => if m_way f (sg j) 2 ≤ f 0 + 1 then φ (m_way f (sg j) 0) (m_way f (sg j) 1) (m_way f (sg j) 3) (m_way f (sg j) 4) else 0) n = pS f sg φ (if n ≤ k then n else k) := by
    intro n
    induction n with
    | zero => intro _; rw [if_pos (Nat.zero_le _)]; rfl
    | succ n ih =>
      intro hn
      simp only [sumN]
      rw [ih (by omega)]
      by_cases z : n + 1 ≤ k
      · rw [if_pos z, if_pos (by omega), if_pos (h1 n (by omega)), pS_succ]
      · rw [if_neg z]
        have hkN : k < N := by omega
        have h2 := h2 hkN
        have hgt : ¬ m_way f (sg n) 2 ≤ f 0 + 1 := by
          rcases Nat.lt_or_ge k n with y | y
          · have := hsg.2.2 k n y (by omega)
            unfold Lex at this
            omega
          · rw [show n = k by omega]; omega
        rw [if_neg hgt, Int.add_zero]
        by_cases y : n ≤ k
        · rw [if_pos y, show n = k by omega]
        · rw [if_neg y]
  rw [key N (Nat.le_refl _)]
  by_cases z : N ≤ k
  · rw [if_pos z, show N = k by omega]
  · rw [if_neg z]
theorem dSum_add (r : RW) (φ ψ : Int → Int → Int → Int → Int) : dSum r φ + dSum r ψ = dSum r (fun a b c d => φ a b c d + ψ a b c d) := by
  unfold dSum
  generalize (r 9).toNat = n
  induction n with
  | zero => rfl
  | succ n ih => simp only [sumN]; rw [← ih]; split <;> omega
theorem dSum_kinds {r : RW} (h : MK r) : dSum r (φk 0) + dSum r (φk 1) = dcN r := by
  rw [dSum_add]
  unfold dcN dSum
  refine sumN_congr _ fun m hm => ?_
  have := (h m (by omega)).1
  unfold φk
  rcases this with z | z <;> rw [z] <;> simp
abbrev rmL_ticks : Room := { frames := 7, cells := 800, slots := 7000, locals := 170 }
set_option maxRecDepth 100000 in
theorem l_ticks {l : Launch} {D : DD} (hfl : l.stackTraces = false) {u : Mem} {x : Nat} {f : RW} {s : Int} {P : RW} {kp : Int} {K : RW} {T B : Int} (hX0 : RX u x f s P kp K T) (rP : RF P) (hst : Sta D u x) (hE : Ew f B) (hT : T + 99 ≤ 100000) (hB9 : 0 ≤ B ∧ B ≤ 900000) : CT l D yL_ticks cL_ticks 16 (some .boolean) rmL_ticks [xA x] u (AP u x kp K (T + 99) (B + 460)) := by
  refine CT.of hfl (by decide) (le_b rfl) ?_
  intro C hC hR hL hDD hN
  have hfC : (cxL C).stackTraces = false := by rw [hL]; exact hfl
  have hRc : 800 ≤ rmL_ticks.cells := le_b rfl
  have hRz : 7000 ≤ rmL_ticks.slots := le_b rfl
  have hR7 : 7 ≤ rmL_ticks.frames ∧ 120 ≤ rmL_ticks.locals := ⟨le_b rfl, le_b rfl⟩
  show VW C 0 [some (xA x), none, none, none, none, none, none, none, none, none, none, none, none, none, none, none] [] u 0 0
  have hI := hX0.2.2.1.2
  have h54 := hI.nine
  obtain ⟨⟨i0, i1⟩, ⟨i2, i3⟩, i4, i5, i6⟩ := hI.ti
  obtain ⟨c1, c2, c3, c4, c5, c6, c7, c8, c9⟩ := hI.co
  obtain ⟨e71, e72⟩ := hE.2.2.2
  obtain ⟨og, hG⟩ := hI.me
  have hMK : MK f := hI.me.mk
  obtain ⟨N, hN⟩ : ∃ N : Nat, f 9 = N := ⟨(f 9).toNat, by omega⟩
  obtain ⟨-, -, -, -, -, -, sg, hsg, -⟩ := hX0.2.2.1.1.l
  have hn9 : (f 9).toNat = N := by omega
  rw [hn9] at hsg
  have hrk : ∀ j : Nat, j < N → m_ranked f (j : Int) = sg j := fun j hj => ranked_at hn9 hsg j hj
  have hme : ∀ j : Nat, j < N → IMe1 f 1 (sg j) (og (sg j)) := fun j hj => (hG (sg j) (by have := hsg.1 j hj; omega)).1
  have h35 : ∀ q : Nat, q < 3 → (0 ≤ m_of f q 3 ∧ m_of f q 3 ≤ 60000000) ∧ (0 ≤ m_of f q 5 ∧ m_of f q 5 ≤ B) := fun q hq => by
    have h1 := i6 q hq
    have h2 := (hE.1 q hq).2.2.2.2.2.1
    exact ⟨⟨h1.1, by omega⟩, h2⟩
  obtain ⟨a1, ha1⟩ : ∃ a, a = mN u := ⟨_, rfl⟩
  obtain ⟨b, hb⟩ : ∃ b : RW, b = fun _ => 0 := ⟨_, rfl⟩
  have rb : RF b := by rw [hb]; exact fun _ => rg_0
  obtain ⟨g, hg⟩ : ∃ g, g = (m_tick f b).1 := ⟨_, rfl⟩
  obtain ⟨hEg, hTk⟩ := tick_e hI hE (by omega) rb hB9.2
  obtain ⟨hIg, -, hg0, -, -⟩ := tick_inv hI (by omega) rb
  rw [← hg] at hEg hTk hIg hg0
  have hpass : (m_pass f b (1 : Int).toNat).1 = g := by rw [hg]; rfl
  obtain ⟨F, hF⟩ : ∃ F, F = up f 0 (f 0 + 1) := ⟨_, rfl⟩
  have hMKF : MK F := by
    have := (hI.start (by omega)).1.2.1.mk
    rw [← hF] at this; exact this
  obtain ⟨k1, k2, k3, k4, k5, k6, k7⟩ := hTk
  rw [← hF] at k1 k2 k3 k4 k5
  have kk2 := dSum_kinds hMKF
  obtain ⟨e73, e74⟩ := hEg.2.2.2
  have fin : ∀ (a2 a3 : Nat) (w : Mem) (l7 l8 l9 l10 l11 l12 l13 l14 l15 : Option SV) (ans bat : Int) (c z : Nat), RX w x f s P kp K T → Kp u w x → Arr w x a1 → Arr w x a2 → Arr w x a3 → ans = dSum F (φk 1) → bat = dSum F (φk 0) → (∀ q : Nat, q < 3 → mI w a1 q = m_of f q 3 + m_of f q 5 + dSum F (φr q) ∧ MX F 0 1 q (mI w a2 q) ∧ MX F 1 8 q (mI w a3 q)) → c ≤ 350 → z ≤ 2200 → VW C 188 [some (xA x), some (xA a1), some (xA a2), some (xA a3), some (xI ans), some (xI bat), some (xI (N : Int)), l7, l8, l9, l10, l11, l12, l13, l14, l15] [] w c z := by
    intro a2 a3 w l7 l8 l9 l10 l11 l12 l13 l14 l15 ans bat c z hX hkp har1 har2 har3 hans hbat harr hcb hzb
    have hstw := hst.kp hX0.2.1 hkp
    have hda : 0 ≤ ans ∧ ans ≤ 54 ∧ 0 ≤ bat ∧ bat ≤ 54 := by
      have h0 : 0 ≤ dSum F (φk 0) := dSum_pos fun a b c d => by unfold φk; split <;> decide
      have h1 : 0 ≤ dSum F (φk 1) := dSum_pos fun a b c d => by unfold φk; split <;> decide
      have h9 : F 9 = f 9 := by rw [hF]; exact up_n _ _ (by decide)
      have := dcN_rg F (by omega)
      omega
    refine r_aload_n hC dL_ticks_188 rfl ?_
    refine r_iconst hC dL_ticks_189 ?_
    refine r_lcnt hC hfC dL_ticks_190 ml_L_9 hR7 hX ⟨by omega, by omega⟩ (show m_countV f s 0 = f 0 from rfl) (le_b rfl) (by omega) (by omega) ?_
    refine r_istore (lv' := [_, _, _, _, _, _, _, _, _, _, _, _, _, _, _, _]) hC dL_ticks_193 (lt_b rfl) rfl (lt_b rfl) rfl ?_
    refine r_aload_n hC dL_ticks_195 rfl ?_
    refine r_iconst hC dL_ticks_196 ?_
    refine r_lcnt hC hfC dL_ticks_197 ml_L_9 hR7 hX ⟨by omega, by omega⟩ (show m_countV f s 5 = f 4 from rfl) (le_b rfl) (by omega) (by omega) ?_
    refine r_istore (lv' := [_, _, _, _, _, _, _, _, _, _, _, _, _, _, _, _]) hC dL_ticks_200 (lt_b rfl) rfl (lt_b rfl) rfl ?_
    refine r_aload_n hC dL_ticks_202 rfl ?_
    refine r_bipush hC dL_ticks_203 (by rfl) ?_
    refine r_lcnt hC hfC dL_ticks_205 ml_L_9 hR7 hX ⟨by omega, by omega⟩ (show m_countV f s 6 = f 5 from rfl) (le_b rfl) (by omega) (by omega) ?_
    refine r_istore (lv' := [_, _, _, _, _, _, _, _, _, _, _, _, _, _, _, _]) hC dL_ticks_208 (lt_b rfl) rfl (lt_b rfl) rfl ?_
    refine r_aload_n hC dL_ticks_210 rfl ?_
    refine r_bipush hC dL_ticks_211 (by rfl) ?_
    refine r_lcnt hC hfC dL_ticks_213 ml_L_9 hR7 hX ⟨by omega, by omega⟩ (show m_countV f s 8 = f 6 from rfl) (le_b rfl) (by omega) (by omega) ?_
    refine r_istore (lv' := [_, _, _, _, _, _, _, _, _, _, _, _, _, _, _, _]) hC dL_ticks_216 (lt_b rfl) rfl (lt_b rfl) rfl ?_
    refine r_aload_n hC dL_ticks_218 rfl ?_
    refine r_bipush hC dL_ticks_219 (by rfl) ?_
    refine r_lcnt hC hfC dL_ticks_221 ml_L_9 hR7 hX ⟨by omega, by omega⟩ (show m_countV f s 9 = f 7 from rfl) (le_b rfl) (by omega) (by omega) ?_
    refine r_istore (lv' := [_, _, _, _, _, _, _, _, _, _, _, _, _, _, _, _]) hC dL_ticks_224 (lt_b rfl) rfl (lt_b rfl) rfl ?_
    refine r_aload_n hC dL_ticks_226 rfl ?_
    refine r_iconst hC dL_ticks_227 ?_
    refine r_iconst hC dL_ticks_228 ?_
    refine r_lrecv hC hfC dL_ticks_229 ml_L_19 hR7 hX ⟨by omega, by omega⟩ ⟨by omega, by omega⟩ (rcv_le f 0 (w := 3) (by decide)) (le_b rfl) (by omega) (by omega) ?_
    refine r_aload_n hC dL_ticks_232 rfl ?_
    refine r_iconst hC dL_ticks_233 ?_
    refine r_iconst hC dL_ticks_234 ?_
    refine r_lrecv hC hfC dL_ticks_235 ml_L_19 hR7 hX ⟨by omega, by omega⟩ ⟨by omega, by omega⟩ (rcv_le f 1 (w := 3) (by decide)) (le_b rfl) (by omega) (by omega) ?_
    refine r_iadd hC dL_ticks_238 ?_
    refine r_aload_n hC dL_ticks_239 rfl ?_
    refine r_iconst hC dL_ticks_240 ?_
    refine r_iconst hC dL_ticks_241 ?_
    refine r_lrecv hC hfC dL_ticks_242 ml_L_19 hR7 hX ⟨by omega, by omega⟩ ⟨by omega, by omega⟩ (rcv_le f 2 (w := 3) (by decide)) (le_b rfl) (by omega) (by omega) ?_
    refine r_iadd hC dL_ticks_245 ?_
    refine r_istore (lv' := [_, _, _, _, _, _, _, _, _, _, _, _, _, _, _, _]) hC dL_ticks_246 (lt_b rfl) rfl (lt_b rfl) rfl ?_
    refine r_aload_n hC dL_ticks_248 rfl ?_
    refine r_iconst hC dL_ticks_249 ?_
    refine r_mut hC (as := [xI 1]) dL_ticks_250 mi_X7_pass se_X7_pass ml_L_41 (rm := rmX7_pass) ⟨le_b rfl, le_b rfl⟩ hX.1.1 rfl rfl (le_b rfl) (by show _ + 146 ≤ _; omega) (by show _ + 2320 ≤ _; omega) (k_Rl_pass hfC hX rP (by rw [hDD]; exact hstw) (n := 1) ⟨by omega, by omega⟩ rb (by omega)) (by decide) (fun w3 hX3 hk3 => ?_) rfl
    rw [hpass] at hX3 ⊢
    show VW C _ _ [xI (m_eff g - m_eff f)] w3 (_ + 146) (_ + 2320)
    obtain ⟨r1, s1⟩ := har1.kp hk3
    obtain ⟨r2, s2⟩ := har2.kp hk3
    obtain ⟨r3, s3⟩ := har3.kp hk3
    have hkp3 := hkp.trans hk3
    have hI3 := hX3.2.2.1.2
    obtain ⟨⟨j0, j1⟩, ⟨j2, j3⟩, j4, j5, j6⟩ := hI3.ti
    obtain ⟨d1, d2, d3, d4, d5, d6, d7, d8, d9⟩ := hI3.co
    have hfin : AP u x kp K (T + 99) (B + 460) (some (xI 1)) w3 := ⟨rfl, g, m_savedN s, m_saved P f s, hX3, rf_saved rP hI.rf s, hEg, hkp3⟩
    have ef : m_eff f = m_of f 0 3 + m_of f 1 3 + m_of f 2 3 := rfl
    have eg : m_eff g = m_of g 0 3 + m_of g 1 3 + m_of g 2 3 := rfl
    have f0 : 0 ≤ m_of f 0 3 ∧ m_of f 0 3 ≤ 500 * f 0 := i6 0 (by decide)
    have f1 : 0 ≤ m_of f 1 3 ∧ m_of f 1 3 ≤ 500 * f 0 := i6 1 (by decide)
    have f2 : 0 ≤ m_of f 2 3 ∧ m_of f 2 3 ≤ 500 * f 0 := i6 2 (by decide)
    have g0 : 0 ≤ m_of g 0 3 ∧ m_of g 0 3 ≤ 500 * g 0 := j6 0 (by decide)
    have g1 : 0 ≤ m_of g 1 3 ∧ m_of g 1 3 ≤ 500 * g 0 := j6 1 (by decide)
    have g2 : 0 ≤ m_of g 2 3 ∧ m_of g 2 3 ≤ 500 * g 0 := j6 2 (by decide)
    have hF2 : 500 * f 0 ≤ 60000000 := by omega
    have hG2 : 500 * g 0 ≤ 60000000 := by omega
    refine r_istore (lv' := [_, _, _, _, _, _, _, _, _, _, _, _, _, _, _, _]) hC dL_ticks_253 (lt_b rfl) rfl (lt_b rfl) rfl ?_
    refine r_aload_n hC dL_ticks_255 rfl ?_
    refine r_iconst hC dL_ticks_256 ?_
    refine r_lcnt hC hfC dL_ticks_257 ml_L_9 hR7 hX3 ⟨by omega, by omega⟩ (show m_countV g (m_savedN s) 0 = g 0 from rfl) (le_b rfl) (by omega) (by omega) ?_
    refine r_iload hC dL_ticks_260 rfl ?_
    refine r_iconst hC dL_ticks_262 ?_
    refine r_iadd hC dL_ticks_263 ?_
    refine r_icmp_ne (t := 344) hC dL_ticks_264 (by rfl) (by first | exact hI.rf _ | exact hI3.rf _ | exact rg_of hI3.rf _ _ | exact rg_mI _ _ _ | exact rg_way hI.rf _ _ | exact rg_of hI.rf _ _ | exact ⟨by omega, by omega⟩ | assumption) (by first | exact hI.rf _ | exact hI3.rf _ | exact rg_of hI3.rf _ _ | exact rg_mI _ _ _ | exact rg_way hI.rf _ _ | exact rg_of hI.rf _ _ | exact ⟨by omega, by omega⟩ | assumption) (fun h_264 => (by omega)) (fun h_264 => ?_)
    refine r_aload_n hC dL_ticks_267 rfl ?_
    refine r_bipush hC dL_ticks_268 (by rfl) ?_
    refine r_lcnt hC hfC dL_ticks_270 ml_L_9 hR7 hX3 ⟨by omega, by omega⟩ (show m_countV g (m_savedN s) 9 = g 7 from rfl) (le_b rfl) (by omega) (by omega) ?_
    refine r_iload hC dL_ticks_273 rfl ?_
    refine r_iload hC dL_ticks_275 rfl ?_
    refine r_iadd hC dL_ticks_277 ?_
    refine r_icmp_ne (t := 344) hC dL_ticks_278 (by rfl) (by first | exact hI.rf _ | exact hI3.rf _ | exact rg_of hI3.rf _ _ | exact rg_mI _ _ _ | exact rg_way hI.rf _ _ | exact rg_of hI.rf _ _ | exact ⟨by omega, by omega⟩ | assumption) (by first | exact hI.rf _ | exact hI3.rf _ | exact rg_of hI3.rf _ _ | exact rg_mI _ _ _ | exact rg_way hI.rf _ _ | exact rg_of hI.rf _ _ | exact ⟨by omega, by omega⟩ | assumption) (fun h_278 => (by omega)) (fun h_278 => ?_)
    refine r_aload_n hC dL_ticks_281 rfl ?_
    refine r_iconst hC dL_ticks_282 ?_
    refine r_lcnt hC hfC dL_ticks_283 ml_L_9 hR7 hX3 ⟨by omega, by omega⟩ (show m_countV g (m_savedN s) 5 = g 4 from rfl) (le_b rfl) (by omega) (by omega) ?_
    refine r_iload hC dL_ticks_286 rfl ?_
    refine r_isub hC dL_ticks_288 ?_
    refine r_iload hC dL_ticks_289 rfl ?_
    refine r_aload_n hC dL_ticks_291 rfl ?_
    refine r_bipush hC dL_ticks_292 (by rfl) ?_
    refine r_lcnt hC hfC dL_ticks_294 ml_L_9 hR7 hX3 ⟨by omega, by omega⟩ (show m_countV g (m_savedN s) 8 = g 6 from rfl) (le_b rfl) (by omega) (by omega) ?_
    refine r_iadd hC dL_ticks_297 ?_
    refine r_iload hC dL_ticks_298 rfl ?_
    refine r_isub hC dL_ticks_300 ?_
    refine r_icmp_ne (t := 344) hC dL_ticks_301 (by rfl) (by first | exact hI.rf _ | exact hI3.rf _ | exact rg_of hI3.rf _ _ | exact rg_mI _ _ _ | exact rg_way hI.rf _ _ | exact rg_of hI.rf _ _ | exact ⟨by omega, by omega⟩ | assumption) (by first | exact hI.rf _ | exact hI3.rf _ | exact rg_of hI3.rf _ _ | exact rg_mI _ _ _ | exact rg_way hI.rf _ _ | exact rg_of hI.rf _ _ | exact ⟨by omega, by omega⟩ | assumption) (fun h_301 => (by omega)) (fun h_301 => ?_)
    refine r_aload_n hC dL_ticks_304 rfl ?_
    refine r_bipush hC dL_ticks_305 (by rfl) ?_
    refine r_lcnt hC hfC dL_ticks_307 ml_L_9 hR7 hX3 ⟨by omega, by omega⟩ (show m_countV g (m_savedN s) 7 = g 9 from rfl) (le_b rfl) (by omega) (by omega) ?_
    refine r_iload hC dL_ticks_310 rfl ?_
    refine r_iload hC dL_ticks_312 rfl ?_
    refine r_isub hC dL_ticks_314 ?_
    refine r_iload hC dL_ticks_315 rfl ?_
    refine r_isub hC dL_ticks_317 ?_
    refine r_aload_n hC dL_ticks_318 rfl ?_
    refine r_iconst hC dL_ticks_319 ?_
    refine r_lcnt hC hfC dL_ticks_320 ml_L_9 hR7 hX3 ⟨by omega, by omega⟩ (show m_countV g (m_savedN s) 5 = g 4 from rfl) (le_b rfl) (by omega) (by omega) ?_
    refine r_iload hC dL_ticks_323 rfl ?_
    refine r_isub hC dL_ticks_325 ?_
    refine r_iadd hC dL_ticks_326 ?_
    refine r_aload_n hC dL_ticks_327 rfl ?_
    refine r_bipush hC dL_ticks_328 (by rfl) ?_
    refine r_lcnt hC hfC dL_ticks_330 ml_L_9 hR7 hX3 ⟨by omega, by omega⟩ (show m_countV g (m_savedN s) 6 = g 5 from rfl) (le_b rfl) (by omega) (by omega) ?_
    refine r_iload hC dL_ticks_333 rfl ?_
    refine r_isub hC dL_ticks_335 ?_
    refine r_isub hC dL_ticks_336 ?_
    refine r_icmp_ne (t := 344) hC dL_ticks_337 (by rfl) (by first | exact hI.rf _ | exact hI3.rf _ | exact rg_of hI3.rf _ _ | exact rg_mI _ _ _ | exact rg_way hI.rf _ _ | exact rg_of hI.rf _ _ | exact ⟨by omega, by omega⟩ | assumption) (by first | exact hI.rf _ | exact hI3.rf _ | exact rg_of hI3.rf _ _ | exact rg_mI _ _ _ | exact rg_way hI.rf _ _ | exact rg_of hI.rf _ _ | exact ⟨by omega, by omega⟩ | assumption) (fun h_337 => (by omega)) (fun h_337 => ?_)
    refine r_iconst hC dL_ticks_340 ?_
    refine r_goto (t := 345) hC dL_ticks_341 (by rfl) ?_
    refine r_istore (lv' := [_, _, _, _, _, _, _, _, _, _, _, _, _, _, _, _]) hC dL_ticks_345 (lt_b rfl) rfl (lt_b rfl) rfl ?_
    refine r_iload hC dL_ticks_347 rfl ?_
    refine r_if_eq (t := 397) hC dL_ticks_349 (by rfl) (by first | exact hI.rf _ | exact hI3.rf _ | exact rg_of hI3.rf _ _ | exact rg_mI _ _ _ | exact rg_way hI.rf _ _ | exact rg_of hI.rf _ _ | exact ⟨by omega, by omega⟩ | assumption) (fun h_349 => (by omega)) (fun h_349 => ?_)
    refine r_iload hC dL_ticks_352 rfl ?_
    refine r_aload_n hC dL_ticks_354 rfl ?_
    refine r_iconst hC dL_ticks_355 ?_
    refine r_iconst hC dL_ticks_356 ?_
    refine r_lrecv hC hfC dL_ticks_357 ml_L_19 hR7 hX3 ⟨by omega, by omega⟩ ⟨by omega, by omega⟩ (rcv_le g 0 (w := 3) (by decide)) (le_b rfl) (by omega) (by omega) ?_
    refine r_aload_n hC dL_ticks_360 rfl ?_
    refine r_iconst hC dL_ticks_361 ?_
    refine r_iconst hC dL_ticks_362 ?_
    refine r_lrecv hC hfC dL_ticks_363 ml_L_19 hR7 hX3 ⟨by omega, by omega⟩ ⟨by omega, by omega⟩ (rcv_le g 1 (w := 3) (by decide)) (le_b rfl) (by omega) (by omega) ?_
    refine r_iadd hC dL_ticks_366 ?_
    refine r_aload_n hC dL_ticks_367 rfl ?_
    refine r_iconst hC dL_ticks_368 ?_
    refine r_iconst hC dL_ticks_369 ?_
    refine r_lrecv hC hfC dL_ticks_370 ml_L_19 hR7 hX3 ⟨by omega, by omega⟩ ⟨by omega, by omega⟩ (rcv_le g 2 (w := 3) (by decide)) (le_b rfl) (by omega) (by omega) ?_
    refine r_iadd hC dL_ticks_373 ?_
    refine r_iload hC dL_ticks_374 rfl ?_
    refine r_isub hC dL_ticks_376 ?_
    refine r_icmp_ne (t := 397) hC dL_ticks_377 (by rfl) (by first | exact hI.rf _ | exact hI3.rf _ | exact rg_of hI3.rf _ _ | exact rg_mI _ _ _ | exact rg_way hI.rf _ _ | exact rg_of hI.rf _ _ | exact ⟨by omega, by omega⟩ | assumption) (by first | exact hI.rf _ | exact hI3.rf _ | exact rg_of hI3.rf _ _ | exact rg_mI _ _ _ | exact rg_way hI.rf _ _ | exact rg_of hI.rf _ _ | exact ⟨by omega, by omega⟩ | assumption) (fun h_377 => (by omega)) (fun h_377 => ?_)
    refine r_aload_n hC dL_ticks_380 rfl ?_
    refine r_bipush hC dL_ticks_381 (by rfl) ?_
    refine r_lcnt hC hfC dL_ticks_383 ml_L_9 hR7 hX3 ⟨by omega, by omega⟩ (show m_countV g (m_savedN s) 8 = g 6 from rfl) (le_b rfl) (by omega) (by omega) ?_
    refine r_iload hC dL_ticks_386 rfl ?_
    refine r_isub hC dL_ticks_388 ?_
    refine r_iconst hC dL_ticks_389 ?_
    refine r_icmp_gt (t := 397) hC dL_ticks_390 (by rfl) (by first | exact hI.rf _ | exact hI3.rf _ | exact rg_of hI3.rf _ _ | exact rg_mI _ _ _ | exact rg_way hI.rf _ _ | exact rg_of hI.rf _ _ | exact ⟨by omega, by omega⟩ | assumption) (by first | exact hI.rf _ | exact hI3.rf _ | exact rg_of hI3.rf _ _ | exact rg_mI _ _ _ | exact rg_way hI.rf _ _ | exact rg_of hI.rf _ _ | exact ⟨by omega, by omega⟩ | assumption) (fun h_390 => (by omega)) (fun h_390 => ?_)
    refine r_iconst hC dL_ticks_393 ?_
    refine r_goto (t := 398) hC dL_ticks_394 (by rfl) ?_
    refine r_istore (lv' := [_, _, _, _, _, _, _, _, _, _, _, _, _, _, _, _]) hC dL_ticks_398 (lt_b rfl) rfl (lt_b rfl) rfl ?_
    refine r_iconst hC dL_ticks_400 ?_
    refine r_istore (lv' := [_, _, _, _, _, _, _, _, _, _, _, _, _, _, _, _]) hC dL_ticks_401 (lt_b rfl) rfl (lt_b rfl) rfl ?_
    have chk : ∀ (q q' : Int) (n : Nat), q = n → q' = q + 1 → n < 3 → ∀ (p12 p13 : Int) (c z : Nat), c + 30 ≤ 800 → z + 180 ≤ 7000 → VW C 403 [some (xA x), some (xA a1), some (xA a2), some (xA a3), some (xI ans), some (xI bat), some (xI (N : Int)), some (xI (f 0)), some (xI (f 4)), some (xI (f 5)), some (xI (f 6)), some (xI (f 7)), some (xI p12), some (xI p13), some (xI 1), some (xI q')] [] w3 (c + 13) (z + 78) → VW C 403 [some (xA x), some (xA a1), some (xA a2), some (xA a3), some (xI ans), some (xI bat), some (xI (N : Int)), some (xI (f 0)), some (xI (f 4)), some (xI (f 5)), some (xI (f 6)), some (xI (f 7)), some (xI p12), some (xI p13), some (xI 1), some (xI q)] [] w3 c z := by
      intro q q' n hqn hq' hn p12 p13 c z hcb hzb kk
      subst hqn
      obtain ⟨m1, m2, m3⟩ := harr n hn
      obtain ⟨n1, n2⟩ := k1 n hn (mI w a2 n)
      obtain ⟨-, n3⟩ := k1 n hn (mI w a3 n)
      have o1 := n1 m2
      have o3 := n3 m3
      have o2 := k2 n hn
      have h12 := h35 n hn
      obtain ⟨e1, e2, e3, e4, e5, e6, e7⟩ := hEg.1 n hn
      have e8 := (hI3.re n hn).2.2.1
      have j6n := j6 n hn
      have v1 : mI w3 a1 n = m_of g n 3 + m_of g n 5 := by rw [s1, m1]; omega
      have v2 : mI w3 a2 n = m_of g n 1 := by rw [s2]; exact o1.symm
      have v3 : mI w3 a3 n = m_of g n 8 := by rw [s3]; exact o3.symm
      have K564 : VW C 564 [some (xA x), some (xA a1), some (xA a2), some (xA a3), some (xI ans), some (xI bat), some (xI (N : Int)), some (xI (f 0)), some (xI (f 4)), some (xI (f 5)), some (xI (f 6)), some (xI (f 7)), some (xI p12), some (xI p13), some (xI 1), some (xI (n : Int))] [] w3 (c + 13) (z + 78) := by
        refine r_iconst hC dL_ticks_564 ?_
        refine r_goto (t := 569) hC dL_ticks_565 (by rfl) ?_
        refine r_istore (lv' := [_, _, _, _, _, _, _, _, _, _, _, _, _, _, _, _]) hC dL_ticks_569 (lt_b rfl) rfl (lt_b rfl) rfl ?_
        refine r_iinc (lv' := [_, _, _, _, _, _, _, _, _, _, _, _, _, _, _, _]) hC dL_ticks_571 rfl (lt_b rfl) rfl (lt_b rfl) rfl ?_
        refine r_goto (t := 403) hC dL_ticks_574 (by rfl) ?_
        rw [hq'] at kk; exact kk
      refine r_iload hC dL_ticks_403 rfl ?_
      refine r_iconst hC dL_ticks_405 ?_
      refine r_icmp_ge (t := 577) hC dL_ticks_406 (by rfl) (by first | exact hI.rf _ | exact hI3.rf _ | exact rg_of hI3.rf _ _ | exact rg_mI _ _ _ | exact rg_way hI.rf _ _ | exact rg_of hI.rf _ _ | exact ⟨by omega, by omega⟩ | assumption) (by first | exact hI.rf _ | exact hI3.rf _ | exact rg_of hI3.rf _ _ | exact rg_mI _ _ _ | exact rg_way hI.rf _ _ | exact rg_of hI.rf _ _ | exact ⟨by omega, by omega⟩ | assumption) (fun h_406 => (by omega)) (fun h_406 => ?_)
      refine r_iload hC dL_ticks_409 rfl ?_
      refine r_if_eq (t := 577) hC dL_ticks_411 (by rfl) (by first | exact hI.rf _ | exact hI3.rf _ | exact rg_of hI3.rf _ _ | exact rg_mI _ _ _ | exact rg_way hI.rf _ _ | exact rg_of hI.rf _ _ | exact ⟨by omega, by omega⟩ | assumption) (fun h_411 => (by omega)) (fun h_411 => ?_)
      refine r_aload_n hC dL_ticks_414 rfl ?_
      refine r_iload hC dL_ticks_415 rfl ?_
      refine r_iconst hC dL_ticks_417 ?_
      refine r_lrecv hC hfC dL_ticks_418 ml_L_19 hR7 hX3 ⟨by omega, by omega⟩ ⟨by omega, by omega⟩ (rcv_le g n (w := 3) (by decide)) (le_b rfl) (by omega) (by omega) ?_
      refine r_aload_n hC dL_ticks_421 rfl ?_
      refine r_iload hC dL_ticks_422 rfl ?_
      refine r_iconst hC dL_ticks_424 ?_
      refine r_lrecv hC hfC dL_ticks_425 ml_L_19 hR7 hX3 ⟨by omega, by omega⟩ ⟨by omega, by omega⟩ (rcv_le g n (w := 5) (by decide)) (le_b rfl) (by omega) (by omega) ?_
      refine r_iadd hC dL_ticks_428 ?_
      refine r_aload_n hC dL_ticks_429 rfl ?_
      refine r_iload hC dL_ticks_430 rfl ?_
      refine r_iald hC dL_ticks_432 r1.1 ⟨by omega, by omega⟩ ?_
      rw [v1]
      refine r_icmp_ne (t := 499) hC dL_ticks_433 (by rfl) (by first | exact hI.rf _ | exact hI3.rf _ | exact rg_of hI3.rf _ _ | exact rg_mI _ _ _ | exact rg_way hI.rf _ _ | exact rg_of hI.rf _ _ | exact ⟨by omega, by omega⟩ | assumption) (by first | exact hI.rf _ | exact hI3.rf _ | exact rg_of hI3.rf _ _ | exact rg_mI _ _ _ | exact rg_way hI.rf _ _ | exact rg_of hI.rf _ _ | exact ⟨by omega, by omega⟩ | assumption) (fun h_433 => absurd rfl h_433) (fun h_433 => ?_)
      refine r_aload_n hC dL_ticks_436 rfl ?_
      refine r_iload hC dL_ticks_437 rfl ?_
      refine r_iconst hC dL_ticks_439 ?_
      refine r_lrecv hC hfC dL_ticks_440 ml_L_19 hR7 hX3 ⟨by omega, by omega⟩ ⟨by omega, by omega⟩ (rcv_le g n (w := 1) (by decide)) (le_b rfl) (by omega) (by omega) ?_
      refine r_aload_n hC dL_ticks_443 rfl ?_
      refine r_iload hC dL_ticks_444 rfl ?_
      refine r_iald hC dL_ticks_446 r2.1 ⟨by omega, by omega⟩ ?_
      rw [v2]
      refine r_icmp_ne (t := 499) hC dL_ticks_447 (by rfl) (by first | exact hI.rf _ | exact hI3.rf _ | exact rg_of hI3.rf _ _ | exact rg_mI _ _ _ | exact rg_way hI.rf _ _ | exact rg_of hI.rf _ _ | exact ⟨by omega, by omega⟩ | assumption) (by first | exact hI.rf _ | exact hI3.rf _ | exact rg_of hI3.rf _ _ | exact rg_mI _ _ _ | exact rg_way hI.rf _ _ | exact rg_of hI.rf _ _ | exact ⟨by omega, by omega⟩ | assumption) (fun h_447 => absurd rfl h_447) (fun h_447 => ?_)
      refine r_aload_n hC dL_ticks_450 rfl ?_
      refine r_iload hC dL_ticks_451 rfl ?_
      refine r_bipush hC dL_ticks_453 (by rfl) ?_
      refine r_lrecv hC hfC dL_ticks_455 ml_L_19 hR7 hX3 ⟨by omega, by omega⟩ ⟨by omega, by omega⟩ (rcv_le g n (w := 8) (by decide)) (le_b rfl) (by omega) (by omega) ?_
      refine r_aload_n hC dL_ticks_458 rfl ?_
      refine r_iload hC dL_ticks_459 rfl ?_
      refine r_iald hC dL_ticks_461 r3.1 ⟨by omega, by omega⟩ ?_
      rw [v3]
      refine r_icmp_ne (t := 499) hC dL_ticks_462 (by rfl) (by first | exact hI.rf _ | exact hI3.rf _ | exact rg_of hI3.rf _ _ | exact rg_mI _ _ _ | exact rg_way hI.rf _ _ | exact rg_of hI.rf _ _ | exact ⟨by omega, by omega⟩ | assumption) (by first | exact hI.rf _ | exact hI3.rf _ | exact rg_of hI3.rf _ _ | exact rg_mI _ _ _ | exact rg_way hI.rf _ _ | exact rg_of hI.rf _ _ | exact ⟨by omega, by omega⟩ | assumption) (fun h_462 => absurd rfl h_462) (fun h_462 => ?_)
      refine r_aload_n hC dL_ticks_465 rfl ?_
      refine r_iload hC dL_ticks_466 rfl ?_
      refine r_bipush hC dL_ticks_468 (by rfl) ?_
      refine r_lrecv hC hfC dL_ticks_470 ml_L_19 hR7 hX3 ⟨by omega, by omega⟩ ⟨by omega, by omega⟩ (rcv_le g n (w := 8) (by decide)) (le_b rfl) (by omega) (by omega) ?_
      refine r_aload_n hC dL_ticks_473 rfl ?_
      refine r_iload hC dL_ticks_474 rfl ?_
      refine r_iconst hC dL_ticks_476 ?_
      refine r_lrecv hC hfC dL_ticks_477 ml_L_19 hR7 hX3 ⟨by omega, by omega⟩ ⟨by omega, by omega⟩ (rcv_le g n (w := 1) (by decide)) (le_b rfl) (by omega) (by omega) ?_
      refine r_icmp_gt (t := 499) hC dL_ticks_480 (by rfl) (by first | exact hI.rf _ | exact hI3.rf _ | exact rg_of hI3.rf _ _ | exact rg_mI _ _ _ | exact rg_way hI.rf _ _ | exact rg_of hI.rf _ _ | exact ⟨by omega, by omega⟩ | assumption) (by first | exact hI.rf _ | exact hI3.rf _ | exact rg_of hI3.rf _ _ | exact rg_mI _ _ _ | exact rg_way hI.rf _ _ | exact rg_of hI.rf _ _ | exact ⟨by omega, by omega⟩ | assumption) (fun h_480 => (by omega)) (fun h_480 => ?_)
      refine r_aload_n hC dL_ticks_483 rfl ?_
      refine r_iload hC dL_ticks_484 rfl ?_
      refine r_iconst hC dL_ticks_486 ?_
      refine r_lrecv hC hfC dL_ticks_487 ml_L_19 hR7 hX3 ⟨by omega, by omega⟩ ⟨by omega, by omega⟩ (rcv_le g n (w := 2) (by decide)) (le_b rfl) (by omega) (by omega) ?_
      refine r_bipush hC dL_ticks_490 (by rfl) ?_
      refine r_icmp_gt (t := 499) hC dL_ticks_492 (by rfl) (by first | exact hI.rf _ | exact hI3.rf _ | exact rg_of hI3.rf _ _ | exact rg_mI _ _ _ | exact rg_way hI.rf _ _ | exact rg_of hI.rf _ _ | exact ⟨by omega, by omega⟩ | assumption) (by first | exact hI.rf _ | exact hI3.rf _ | exact rg_of hI3.rf _ _ | exact rg_mI _ _ _ | exact rg_way hI.rf _ _ | exact rg_of hI.rf _ _ | exact ⟨by omega, by omega⟩ | assumption) (fun h_492 => (by omega)) (fun h_492 => ?_)
      refine r_iconst hC dL_ticks_495 ?_
      refine r_goto (t := 500) hC dL_ticks_496 (by rfl) ?_
      refine r_istore (lv' := [_, _, _, _, _, _, _, _, _, _, _, _, _, _, _, _]) hC dL_ticks_500 (lt_b rfl) rfl (lt_b rfl) rfl ?_
      refine r_iload hC dL_ticks_502 rfl ?_
      refine r_if_eq (t := 568) hC dL_ticks_504 (by rfl) (by first | exact hI.rf _ | exact hI3.rf _ | exact rg_of hI3.rf _ _ | exact rg_mI _ _ _ | exact rg_way hI.rf _ _ | exact rg_of hI.rf _ _ | exact ⟨by omega, by omega⟩ | assumption) (fun h_504 => (by omega)) (fun h_504 => ?_)
      refine r_aload_n hC dL_ticks_507 rfl ?_
      refine r_iload hC dL_ticks_508 rfl ?_
      refine r_bipush hC dL_ticks_510 (by rfl) ?_
      refine r_lrecv hC hfC dL_ticks_512 ml_L_19 hR7 hX3 ⟨by omega, by omega⟩ ⟨by omega, by omega⟩ (rcv_le g n (w := 6) (by decide)) (le_b rfl) (by omega) (by omega) ?_
      refine r_aload_n hC dL_ticks_515 rfl ?_
      refine r_iload hC dL_ticks_516 rfl ?_
      refine r_bipush hC dL_ticks_518 (by rfl) ?_
      refine r_lrecv hC hfC dL_ticks_520 ml_L_19 hR7 hX3 ⟨by omega, by omega⟩ ⟨by omega, by omega⟩ (rcv_le g n (w := 7) (by decide)) (le_b rfl) (by omega) (by omega) ?_
      refine r_iadd hC dL_ticks_523 ?_
      refine r_iconst hC dL_ticks_524 ?_
      refine r_aload_n hC dL_ticks_525 rfl ?_
      refine r_iload hC dL_ticks_526 rfl ?_
      refine r_iconst hC dL_ticks_528 ?_
      refine r_lrecv hC hfC dL_ticks_529 ml_L_19 hR7 hX3 ⟨by omega, by omega⟩ ⟨by omega, by omega⟩ (rcv_le g n (w := 3) (by decide)) (le_b rfl) (by omega) (by omega) ?_
      refine r_imul hC dL_ticks_532 ?_
      refine r_icmp_gt (t := 568) hC dL_ticks_533 (by rfl) (by first | exact hI.rf _ | exact hI3.rf _ | exact rg_of hI3.rf _ _ | exact rg_mI _ _ _ | exact rg_way hI.rf _ _ | exact rg_of hI.rf _ _ | exact ⟨by omega, by omega⟩ | assumption) (by first | exact hI.rf _ | exact hI3.rf _ | exact rg_of hI3.rf _ _ | exact rg_mI _ _ _ | exact rg_way hI.rf _ _ | exact rg_of hI.rf _ _ | exact ⟨by omega, by omega⟩ | assumption) (fun h_533 => (by omega)) (fun h_533 => ?_)
      refine r_aload_n hC dL_ticks_536 rfl ?_
      refine r_iconst hC dL_ticks_537 ?_
      refine r_lset hC hfC dL_ticks_538 ml_L_22 hR7 hX3 ⟨by omega, by omega⟩ (show g (10 + 5) = g 15 from rfl) (le_b rfl) (by omega) (by omega) ?_
      refine r_if_eq (t := 564) hC dL_ticks_541 (by rfl) (by first | exact hI.rf _ | exact hI3.rf _ | exact rg_of hI3.rf _ _ | exact rg_mI _ _ _ | exact rg_way hI.rf _ _ | exact rg_of hI.rf _ _ | exact ⟨by omega, by omega⟩ | assumption) (fun h_541 => ?_) (fun h_541 => ?_)
      · skip
        exact vw_widen (by omega) (by omega) K564
      · skip
        refine r_aload_n hC dL_ticks_544 rfl ?_
        refine r_iload hC dL_ticks_545 rfl ?_
        refine r_iconst hC dL_ticks_547 ?_
        refine r_lrecv hC hfC dL_ticks_548 ml_L_19 hR7 hX3 ⟨by omega, by omega⟩ ⟨by omega, by omega⟩ (rcv_le g n (w := 3) (by decide)) (le_b rfl) (by omega) (by omega) ?_
        refine r_if_gt (t := 564) hC dL_ticks_551 (by rfl) (by first | exact hI.rf _ | exact hI3.rf _ | exact rg_of hI3.rf _ _ | exact rg_mI _ _ _ | exact rg_way hI.rf _ _ | exact rg_of hI.rf _ _ | exact ⟨by omega, by omega⟩ | assumption) (fun h_551 => ?_) (fun h_551 => ?_)
        · skip
          exact vw_widen (by omega) (by omega) K564
        · skip
          refine r_aload_n hC dL_ticks_554 rfl ?_
          refine r_iload hC dL_ticks_555 rfl ?_
          refine r_iconst hC dL_ticks_557 ?_
          refine r_lrecv hC hfC dL_ticks_558 ml_L_19 hR7 hX3 ⟨by omega, by omega⟩ ⟨by omega, by omega⟩ (rcv_le g n (w := 1) (by decide)) (le_b rfl) (by omega) (by omega) ?_
          refine r_if_ge (t := 568) hC dL_ticks_561 (by rfl) (by first | exact hI.rf _ | exact hI3.rf _ | exact rg_of hI3.rf _ _ | exact rg_mI _ _ _ | exact rg_way hI.rf _ _ | exact rg_of hI.rf _ _ | exact ⟨by omega, by omega⟩ | assumption) (fun h_561 => (by have := e4 (by omega); omega)) (fun h_561 => ?_)
          exact vw_widen (by omega) (by omega) K564
    refine chk 0 1 0 rfl rfl (by decide) _ _ _ _ (by omega) (by omega) (chk 1 2 1 rfl rfl (by decide) _ _ _ _ (by omega) (by omega) (chk 2 3 2 rfl rfl (by decide) _ _ _ _ (by omega) (by omega) ?_))
    refine r_iload hC dL_ticks_403 rfl ?_
    refine r_iconst hC dL_ticks_405 ?_
    refine r_icmp_ge (t := 577) hC dL_ticks_406 (by rfl) (by first | exact hI.rf _ | exact hI3.rf _ | exact rg_of hI3.rf _ _ | exact rg_mI _ _ _ | exact rg_way hI.rf _ _ | exact rg_of hI.rf _ _ | exact ⟨by omega, by omega⟩ | assumption) (by first | exact hI.rf _ | exact hI3.rf _ | exact rg_of hI3.rf _ _ | exact rg_mI _ _ _ | exact rg_way hI.rf _ _ | exact rg_of hI.rf _ _ | exact ⟨by omega, by omega⟩ | assumption) (fun h_406 => ?_) (fun h_406 => (by omega))
    refine r_iload hC dL_ticks_577 rfl ?_
    refine r_zret hC hR dL_ticks_579 (Or.inr rfl) (by omega) (by omega) ?_
    exact hfin
  have loop : ∀ (a2 a3 : Nat), a1 < a2 → a2 < a3 → ∀ (d k : Nat), k + d = N → ∀ (w : Mem) (l8 : Option SV) (ans bat : Int) (c z : Nat), RX w x f s P kp K T → Kp u w x → Arr w x a1 → Arr w x a2 → Arr w x a3 → (∀ j : Nat, j < k → m_way f (sg j) 2 ≤ f 0 + 1) → ans = pS f sg (φk 1) k → bat = pS f sg (φk 0) k → (∀ q : Nat, q < 3 → mI w a1 q = m_of f q 3 + m_of f q 5 + pS f sg (φr q) k ∧ PMX f sg 0 1 q (mI w a2 q) k ∧ PMX f sg 1 8 q (mI w a3 q) k) → c ≤ 20 + 6 * k → z ≤ 140 + 36 * k → VW C 86 [some (xA x), some (xA a1), some (xA a2), some (xA a3), some (xI ans), some (xI bat), some (xI (N : Int)), some (xI (k : Int)), l8, none, none, none, none, none, none, none] [] w c z := by
    intro a2 a3 h12 h23 d
    have out : ∀ (k : Nat) (w : Mem) (l7 l8 : Option SV) (ans bat : Int) (c z : Nat), k ≤ N → RX w x f s P kp K T → Kp u w x → Arr w x a1 → Arr w x a2 → Arr w x a3 → (∀ j : Nat, j < k → m_way f (sg j) 2 ≤ f 0 + 1) → (k < N → f 0 + 1 < m_way f (sg k) 2) → ans = pS f sg (φk 1) k → bat = pS f sg (φk 0) k → (∀ q : Nat, q < 3 → mI w a1 q = m_of f q 3 + m_of f q 5 + pS f sg (φr q) k ∧ PMX f sg 0 1 q (mI w a2 q) k ∧ PMX f sg 1 8 q (mI w a3 q) k) → c ≤ 350 → z ≤ 2200 → VW C 188 [some (xA x), some (xA a1), some (xA a2), some (xA a3), some (xI ans), some (xI bat), some (xI (N : Int)), l7, l8, none, none, none, none, none, none, none] [] w c z := by
      intro k w l7 l8 ans bat c z hk hX hkp har1 har2 har3 hdue hnext hans hbat hq hcb hzb
      have key := pS_due (f := f) ⟨by omega, by omega⟩ hN hsg hk hdue hnext
      rw [← hF] at key
      have hof : ∀ (q : Nat) (y : Int), 0 ≤ y → m_of F q y = m_of f q y := fun q y hy => by rw [hF]; unfold m_of; exact up_n _ _ (by omega)
      refine fin a2 a3 w _ _ _ _ _ _ _ _ _ ans bat c z hX hkp har1 har2 har3 (by rw [key]; exact hans) (by rw [key]; exact hbat) (fun q h3 => ?_) hcb hzb
      obtain ⟨y1, y2, y3⟩ := hq q h3
      refine ⟨by rw [key]; exact y1, ?_, ?_⟩
      · unfold MX; rw [hof q 1 (by decide), key, key]; exact y2
      · unfold MX; rw [hof q 8 (by decide), key, key]; exact y3
    induction d with
    | zero =>
      intro k hk w l8 ans bat c z hX hkp har1 har2 har3 hdue hans hbat hq hcb hzb
      refine r_iload hC dL_ticks_86 rfl ?_
      refine r_iload hC dL_ticks_88 rfl ?_
      refine r_icmp_ge (t := 188) hC dL_ticks_90 (by rfl) (by first | exact hI.rf _ | exact hI3.rf _ | exact rg_of hI3.rf _ _ | exact rg_mI _ _ _ | exact rg_way hI.rf _ _ | exact rg_of hI.rf _ _ | exact ⟨by omega, by omega⟩ | assumption) (by first | exact hI.rf _ | exact hI3.rf _ | exact rg_of hI3.rf _ _ | exact rg_mI _ _ _ | exact rg_way hI.rf _ _ | exact rg_of hI.rf _ _ | exact ⟨by omega, by omega⟩ | assumption) (fun h_90 => ?_) (fun h_90 => (by omega))
      exact out k w _ _ ans bat _ _ (by omega) hX hkp har1 har2 har3 hdue (fun y => by omega) hans hbat hq (by omega) (by omega)
    | succ d ih =>
      intro k hk w l8 ans bat c z hX hkp har1 har2 har3 hdue hans hbat hq hcb hzb
      have hkN : k < N := by omega
      have hsk := hsg.1 k hkN
      obtain ⟨m1, m2, m3, m4, m5, m6, m7, m8, m9, m10⟩ := hme k hkN
      have hv : ∀ q v : Int, m_msgV f (sg k) q = v → m_msgV f (m_ranked f (k : Int)) q = v := fun q v h => by rw [hrk k hkN]; exact h
      have hps : ∀ q : Nat, 0 ≤ pS f sg (φr q) k ∧ pS f sg (φr q) k ≤ 8 * k := fun q => by
        have := sumN_rg (f := fun j => φr q (m_way f (sg j) 0) (m_way f (sg j) 1) (m_way f (sg j) 3) (m_way f (sg j) 4)) (lo := 0) (hi := 8) k (fun j hj => by
          have := (hme j (by omega)).2.2.2.1
          unfold φr; split <;> omega)
        unfold pS; omega
      obtain ⟨qn, hqn, eq⟩ := nat3 m2
      have r4 : rg (m_way f (sg k) 4) := rg_way hI.rf _ _
      obtain ⟨y1, y2, y3⟩ := hq qn hqn
      have h35q := h35 qn hqn
      have hpq := hps qn
      refine r_iload hC dL_ticks_86 rfl ?_
      refine r_iload hC dL_ticks_88 rfl ?_
      refine r_icmp_ge (t := 188) hC dL_ticks_90 (by rfl) (by first | exact hI.rf _ | exact hI3.rf _ | exact rg_of hI3.rf _ _ | exact rg_mI _ _ _ | exact rg_way hI.rf _ _ | exact rg_of hI.rf _ _ | exact ⟨by omega, by omega⟩ | assumption) (by first | exact hI.rf _ | exact hI3.rf _ | exact rg_of hI3.rf _ _ | exact rg_mI _ _ _ | exact rg_way hI.rf _ _ | exact rg_of hI.rf _ _ | exact ⟨by omega, by omega⟩ | assumption) (fun h_90 => (by omega)) (fun h_90 => ?_)
      refine r_aload_n hC dL_ticks_93 rfl ?_
      refine r_iload hC dL_ticks_94 rfl ?_
      refine r_iconst hC dL_ticks_96 ?_
      refine r_lmsg hC hfC dL_ticks_97 ml_L_35 hR7 hX ⟨by omega, by omega⟩ ⟨by omega, by omega⟩ (hv 2 _ (mv_2 _ _)) (le_b rfl) (by omega) (by omega) ?_
      refine r_iconst hC dL_ticks_100 ?_
      refine r_icmp_ne (t := 188) hC dL_ticks_101 (by rfl) (by first | exact hI.rf _ | exact hI3.rf _ | exact rg_of hI3.rf _ _ | exact rg_mI _ _ _ | exact rg_way hI.rf _ _ | exact rg_of hI.rf _ _ | exact ⟨by omega, by omega⟩ | assumption) (by first | exact hI.rf _ | exact hI3.rf _ | exact rg_of hI3.rf _ _ | exact rg_mI _ _ _ | exact rg_way hI.rf _ _ | exact rg_of hI.rf _ _ | exact ⟨by omega, by omega⟩ | assumption) (fun h_101 => ?_) (fun h_101 => ?_)
      · skip
        exact out k w _ _ ans bat _ _ (by omega) hX hkp har1 har2 har3 hdue (fun y => by omega) hans hbat hq (by omega) (by omega)
      · skip
        refine r_aload_n hC dL_ticks_104 rfl ?_
        refine r_iload hC dL_ticks_105 rfl ?_
        refine r_iconst hC dL_ticks_107 ?_
        refine r_lmsg hC hfC dL_ticks_108 ml_L_35 hR7 hX ⟨by omega, by omega⟩ ⟨by omega, by omega⟩ (hv 1 _ (mv_1 _ _)) (le_b rfl) (by omega) (by omega) ?_
        refine r_istore (lv' := [_, _, _, _, _, _, _, _, _, _, _, _, _, _, _, _]) hC dL_ticks_111 (lt_b rfl) rfl (lt_b rfl) rfl ?_
        refine r_aload_n hC dL_ticks_113 rfl ?_
        refine r_iload hC dL_ticks_114 rfl ?_
        refine r_iconst hC dL_ticks_116 ?_
        refine r_lmsg hC hfC dL_ticks_117 ml_L_35 hR7 hX ⟨by omega, by omega⟩ ⟨by omega, by omega⟩ (hv 0 _ (mv_0 _ _)) (le_b rfl) (by omega) (by omega) ?_
        refine r_if_ne (t := 161) hC dL_ticks_120 (by rfl) (by first | exact hI.rf _ | exact hI3.rf _ | exact rg_of hI3.rf _ _ | exact rg_mI _ _ _ | exact rg_way hI.rf _ _ | exact rg_of hI.rf _ _ | exact ⟨by omega, by omega⟩ | assumption) (fun h_120 => ?_) (fun h_120 => ?_)
        · skip
          refine r_aload_n hC dL_ticks_161 rfl ?_
          refine r_iload hC dL_ticks_162 rfl ?_
          refine r_aload_n hC dL_ticks_164 rfl ?_
          refine r_iload hC dL_ticks_165 rfl ?_
          refine r_iald hC dL_ticks_167 har3.1 ⟨by omega, by omega⟩ ?_
          refine r_aload_n hC dL_ticks_168 rfl ?_
          refine r_iload hC dL_ticks_169 rfl ?_
          refine r_iconst hC dL_ticks_171 ?_
          refine r_lmsg hC hfC dL_ticks_172 ml_L_35 hR7 hX ⟨by omega, by omega⟩ ⟨by omega, by omega⟩ (hv 4 _ (mv_4 _ _)) (le_b rfl) (by omega) (by omega) ?_
          refine r_S0 hC dL_ticks_175 mi_L_greater ss_L_greater ml_L_38 (rm := rmL_greater) rfl rfl rfl ⟨by omega, by omega⟩ (l_greater hfC (rg_mI _ _ _) r4) ?_ rfl
          refine r_iast hC dL_ticks_178 har3.1 ⟨by omega, by omega⟩ ?_
          refine r_iinc (lv' := [_, _, _, _, _, _, _, _, _, _, _, _, _, _, _, _]) hC dL_ticks_179 rfl (lt_b rfl) rfl (lt_b rfl) rfl ?_
          refine r_iinc (lv' := [_, _, _, _, _, _, _, _, _, _, _, _, _, _, _, _]) hC dL_ticks_182 rfl (lt_b rfl) rfl (lt_b rfl) rfl ?_
          refine r_goto (t := 86) hC dL_ticks_185 (by rfl) ?_
          have hk1 : m_way f (sg k) 0 = 1 := by rcases m1 with y | y; exact absurd y h_120; exact y
          obtain ⟨x1, x2, x3⟩ := hX.st har3 (m_way f (sg k) 1) (if mI w a3 (m_way f (sg k) 1) ≤ m_way f (sg k) 4 then m_way f (sg k) 4 else mI w a3 (m_way f (sg k) 1))
          rw [show (k : Int) + 1 = ((k + 1 : Nat) : Int) by omega]
          refine vw_widen (Nat.le_refl _) (Nat.le_refl _) (ih (k + 1) (by omega) _ _ _ _ _ _ x1 (x3 u hkp (by omega)) (x2 a1 har1) (x2 a2 har2) (x2 a3 har3) (fun j hj => ?_) ?_ ?_ (fun q h3 => ?_) (by omega) (by omega))
          · rcases Nat.lt_or_ge j k with y | y
            · exact hdue j y
            · rw [show j = k by omega]; omega
          · rw [pS_succ, hans]; unfold φk; rw [if_pos hk1]
          · rw [pS_succ, hbat]; unfold φk; rw [if_neg (by omega)]; omega
          · obtain ⟨z1, z2, z3⟩ := hq q h3
            refine ⟨?_, ?_, ?_⟩
            · rw [up_mI_n _ _ _ (by omega), z1, pS_succ]; unfold φr; rw [if_neg (by omega)]; omega
            · rw [up_mI_n _ _ _ (by omega)]; exact pmx_same z2 (by omega)
            · rw [up_mI]
              by_cases e : q = qn
              · rw [e, eq, up_s, wr_id (by split; exact r4; exact rg_mI _ _ _)]
                rw [e] at z3
                exact pmx_next z3 ⟨hk1, eq⟩
              · rw [up_n _ _ (by omega)]; exact pmx_same z3 (by omega)
        · skip
          refine r_aload_n hC dL_ticks_123 rfl ?_
          refine r_iload hC dL_ticks_124 rfl ?_
          refine r_dup2 hC dL_ticks_126 rfl rfl ?_
          refine r_iald hC dL_ticks_127 har1.1 ⟨by omega, by omega⟩ ?_
          refine r_aload_n hC dL_ticks_128 rfl ?_
          refine r_iload hC dL_ticks_129 rfl ?_
          refine r_iconst hC dL_ticks_131 ?_
          refine r_lmsg hC hfC dL_ticks_132 ml_L_35 hR7 hX ⟨by omega, by omega⟩ ⟨by omega, by omega⟩ (hv 3 _ (mv_3 _ _)) (le_b rfl) (by omega) (by omega) ?_
          refine r_iadd hC dL_ticks_135 ?_
          refine r_iast hC dL_ticks_136 har1.1 ⟨by omega, by omega⟩ ?_
          obtain ⟨x1, x2, x3⟩ := hX.st har1 (m_way f (sg k) 1) (mI w a1 (m_way f (sg k) 1) + m_way f (sg k) 3)
          have x4 := x2 a1 har1
          have x5 := x2 a2 har2
          have x6 := x2 a3 har3
          have x7 := x3 u hkp (by omega)
          have g1 : mI (sI w a1 (m_way f (sg k) 1) (mI w a1 (m_way f (sg k) 1) + m_way f (sg k) 3)) a1 = up (mI w a1) (m_way f (sg k) 1) (mI w a1 (m_way f (sg k) 1) + m_way f (sg k) 3) := up_mI _ _ _ _
          have g2 : mI (sI w a1 (m_way f (sg k) 1) (mI w a1 (m_way f (sg k) 1) + m_way f (sg k) 3)) a2 = mI w a2 := up_mI_n _ _ _ (by omega)
          have g3 : mI (sI w a1 (m_way f (sg k) 1) (mI w a1 (m_way f (sg k) 1) + m_way f (sg k) 3)) a3 = mI w a3 := up_mI_n _ _ _ (by omega)
          generalize sI w a1 (m_way f (sg k) 1) (mI w a1 (m_way f (sg k) 1) + m_way f (sg k) 3) = w1 at x1 x4 x5 x6 x7 g1 g2 g3 ⊢
          refine r_aload_n hC dL_ticks_137 rfl ?_
          refine r_iload hC dL_ticks_138 rfl ?_
          refine r_aload_n hC dL_ticks_140 rfl ?_
          refine r_iload hC dL_ticks_141 rfl ?_
          refine r_iald hC dL_ticks_143 x5.1 ⟨by omega, by omega⟩ ?_
          rw [g2]
          refine r_aload_n hC dL_ticks_144 rfl ?_
          refine r_iload hC dL_ticks_145 rfl ?_
          refine r_iconst hC dL_ticks_147 ?_
          refine r_lmsg hC hfC dL_ticks_148 ml_L_35 hR7 x1 ⟨by omega, by omega⟩ ⟨by omega, by omega⟩ (hv 4 _ (mv_4 _ _)) (le_b rfl) (by omega) (by omega) ?_
          refine r_S0 hC dL_ticks_151 mi_L_greater ss_L_greater ml_L_38 (rm := rmL_greater) rfl rfl rfl ⟨by omega, by omega⟩ (l_greater hfC (rg_mI _ _ _) r4) ?_ rfl
          refine r_iast hC dL_ticks_154 x5.1 ⟨by omega, by omega⟩ ?_
          refine r_iinc (lv' := [_, _, _, _, _, _, _, _, _, _, _, _, _, _, _, _]) hC dL_ticks_155 rfl (lt_b rfl) rfl (lt_b rfl) rfl ?_
          refine r_goto (t := 182) hC dL_ticks_158 (by rfl) ?_
          refine r_iinc (lv' := [_, _, _, _, _, _, _, _, _, _, _, _, _, _, _, _]) hC dL_ticks_182 rfl (lt_b rfl) rfl (lt_b rfl) rfl ?_
          refine r_goto (t := 86) hC dL_ticks_185 (by rfl) ?_
          obtain ⟨p1, p2, p3⟩ := x1.st x5 (m_way f (sg k) 1) (if mI w a2 (m_way f (sg k) 1) ≤ m_way f (sg k) 4 then m_way f (sg k) 4 else mI w a2 (m_way f (sg k) 1))
          rw [show (k : Int) + 1 = ((k + 1 : Nat) : Int) by omega]
          refine vw_widen (Nat.le_refl _) (Nat.le_refl _) (ih (k + 1) (by omega) _ _ _ _ _ _ p1 (p3 u x7 (by omega)) (p2 a1 x4) (p2 a2 x5) (p2 a3 x6) (fun j hj => ?_) ?_ ?_ (fun q h3 => ?_) (by omega) (by omega))
          · rcases Nat.lt_or_ge j k with y | y
            · exact hdue j y
            · rw [show j = k by omega]; omega
          · rw [pS_succ, hans]; unfold φk; rw [if_neg (by omega)]; omega
          · rw [pS_succ, hbat]; unfold φk; rw [if_pos h_120]
          · obtain ⟨z1, z2, z3⟩ := hq q h3
            refine ⟨?_, ?_, ?_⟩
            · rw [up_mI_n _ _ _ (by omega), g1, pS_succ]
              by_cases e : q = qn
              · rw [e, eq, up_s, y1, wr_id ⟨by omega, by omega⟩]; unfold φr; rw [if_pos ⟨h_120, rfl⟩]; omega
              · rw [up_n _ _ (by omega), z1]; unfold φr; rw [if_neg (by omega)]; omega
            · rw [up_mI, g2]
              by_cases e : q = qn
              · rw [e, eq, up_s, wr_id (by split; exact r4; exact rg_mI _ _ _)]
                rw [e] at z2
                exact pmx_next z2 ⟨h_120, eq⟩
              · rw [up_n _ _ (by omega)]; exact pmx_same z2 (by omega)
            · rw [up_mI_n _ _ _ (by omega), g3]; exact pmx_same z3 (by omega)
  have ini : ∀ (a2 a3 : Nat), a1 < a2 → a2 < a3 → ∀ (q q' : Int) (n : Nat), q = n → q' = q + 1 → n < 3 → ∀ (w : Mem) (c z : Nat), RX w x f s P kp K T → Kp u w x → Arr w x a1 → Arr w x a2 → Arr w x a3 → c + 10 ≤ 800 → z + 60 ≤ 7000 → (∀ w' : Mem, RX w' x f s P kp K T → Kp u w' x → Arr w' x a1 → Arr w' x a2 → Arr w' x a3 → (∀ r : Int, mI w' a1 r = (if r = q then m_of f q 3 + m_of f q 5 else mI w a1 r) ∧ mI w' a2 r = (if r = q then m_of f q 1 else mI w a2 r) ∧ mI w' a3 r = (if r = q then m_of f q 8 else mI w a3 r)) → VW C 21 [some (xA x), some (xA a1), some (xA a2), some (xA a3), some (xI 0), some (xI 0), some (xI q'), none, none, none, none, none, none, none, none, none] [] w' (c + 4) (z + 24)) → VW C 21 [some (xA x), some (xA a1), some (xA a2), some (xA a3), some (xI 0), some (xI 0), some (xI q), none, none, none, none, none, none, none, none, none] [] w c z := by
    intro a2 a3 h12 h23 q q' n hqn hq' hn w c z hX hkp har1 har2 har3 hcb hzb kk
    subst hqn
    have h35q := h35 n hn
    refine r_iload hC dL_ticks_21 rfl ?_
    refine r_iconst hC dL_ticks_23 ?_
    refine r_icmp_ge (t := 75) hC dL_ticks_24 (by rfl) (by first | exact hI.rf _ | exact hI3.rf _ | exact rg_of hI3.rf _ _ | exact rg_mI _ _ _ | exact rg_way hI.rf _ _ | exact rg_of hI.rf _ _ | exact ⟨by omega, by omega⟩ | assumption) (by first | exact hI.rf _ | exact hI3.rf _ | exact rg_of hI3.rf _ _ | exact rg_mI _ _ _ | exact rg_way hI.rf _ _ | exact rg_of hI.rf _ _ | exact ⟨by omega, by omega⟩ | assumption) (fun h_24 => (by omega)) (fun h_24 => ?_)
    refine r_aload_n hC dL_ticks_27 rfl ?_
    refine r_iload hC dL_ticks_28 rfl ?_
    refine r_aload_n hC dL_ticks_30 rfl ?_
    refine r_iload hC dL_ticks_31 rfl ?_
    refine r_iconst hC dL_ticks_33 ?_
    refine r_lrecv hC hfC dL_ticks_34 ml_L_19 hR7 hX ⟨by omega, by omega⟩ ⟨by omega, by omega⟩ (rcv_le f n (w := 1) (by decide)) (le_b rfl) (by omega) (by omega) ?_
    refine r_iast hC dL_ticks_37 har2.1 ⟨by omega, by omega⟩ ?_
    obtain ⟨x1, y1, z1⟩ := hX.st har2 (n : Int) (m_of f n 1)
    have p1 := y1 a1 har1
    have q1 := y1 a2 har2
    have r1 := y1 a3 har3
    have s1 := z1 u hkp (by omega)
    refine r_aload_n hC dL_ticks_38 rfl ?_
    refine r_iload hC dL_ticks_39 rfl ?_
    refine r_aload_n hC dL_ticks_41 rfl ?_
    refine r_iload hC dL_ticks_42 rfl ?_
    refine r_bipush hC dL_ticks_44 (by rfl) ?_
    refine r_lrecv hC hfC dL_ticks_46 ml_L_19 hR7 x1 ⟨by omega, by omega⟩ ⟨by omega, by omega⟩ (rcv_le f n (w := 8) (by decide)) (le_b rfl) (by omega) (by omega) ?_
    refine r_iast hC dL_ticks_49 r1.1 ⟨by omega, by omega⟩ ?_
    obtain ⟨x2, y2, z2⟩ := x1.st r1 (n : Int) (m_of f n 8)
    have p2 := y2 a1 p1
    have q2 := y2 a2 q1
    have r2 := y2 a3 r1
    have s2 := z2 u s1 (by omega)
    refine r_aload_n hC dL_ticks_50 rfl ?_
    refine r_iload hC dL_ticks_51 rfl ?_
    refine r_aload_n hC dL_ticks_53 rfl ?_
    refine r_iload hC dL_ticks_54 rfl ?_
    refine r_iconst hC dL_ticks_56 ?_
    refine r_lrecv hC hfC dL_ticks_57 ml_L_19 hR7 x2 ⟨by omega, by omega⟩ ⟨by omega, by omega⟩ (rcv_le f n (w := 3) (by decide)) (le_b rfl) (by omega) (by omega) ?_
    refine r_aload_n hC dL_ticks_60 rfl ?_
    refine r_iload hC dL_ticks_61 rfl ?_
    refine r_iconst hC dL_ticks_63 ?_
    refine r_lrecv hC hfC dL_ticks_64 ml_L_19 hR7 x2 ⟨by omega, by omega⟩ ⟨by omega, by omega⟩ (rcv_le f n (w := 5) (by decide)) (le_b rfl) (by omega) (by omega) ?_
    refine r_iadd hC dL_ticks_67 ?_
    refine r_iast hC dL_ticks_68 p2.1 ⟨by omega, by omega⟩ ?_
    obtain ⟨x3, y3, z3⟩ := x2.st p2 (n : Int) (m_of f n 3 + m_of f n 5)
    have p3 := y3 a1 p2
    have q3 := y3 a2 q2
    have r3 := y3 a3 r2
    have s3 := z3 u s2 (by omega)
    refine r_iinc (lv' := [_, _, _, _, _, _, _, _, _, _, _, _, _, _, _, _]) hC dL_ticks_69 rfl (lt_b rfl) rfl (lt_b rfl) rfl ?_
    refine r_goto (t := 21) hC dL_ticks_72 (by rfl) ?_
    have k3 := kk _ x3 s3 p3 q3 r3 (fun r => ⟨?_, ?_, ?_⟩)
    · rw [hq'] at k3; exact vw_widen (Nat.le_refl _) (Nat.le_refl _) k3
    · rw [up_mI, up_mI_n _ _ _ (by omega), up_mI_n _ _ _ (by omega)]
      unfold up
      rw [wr_id ⟨by omega, by omega⟩]
    · rw [up_mI_n _ _ _ (by omega), up_mI_n _ _ _ (by omega), up_mI]
      unfold up
      rw [wr_id (rg_of hI.rf _ _)]
    · rw [up_mI_n _ _ _ (by omega), up_mI, up_mI_n _ _ _ (by omega)]
      unfold up
      rw [wr_id (rg_of hI.rf _ _)]
  refine r_iconst hC dL_ticks_0 ?_
  refine r_newarr (n := 3) (ty := 0) hC dL_ticks_1 (Or.inl ⟨rfl, rfl⟩) rfl (le_b rfl) (by omega) (by omega) ka_int (fun _ => ?_)
  obtain ⟨x1, x2, x3, x4⟩ := hX0.newA
  rw [← ha1] at x3 x4 ⊢
  generalize nC u (some (.inr (0, 3))) = w1 at x1 x2 x3 x4 ⊢
  obtain ⟨a2, ha2⟩ : ∃ a, a = mN w1 := ⟨_, rfl⟩
  have l12 : a1 < a2 := by have := x3.2.1; omega
  refine r_astore_n (lv' := [_, _, _, _, _, _, _, _, _, _, _, _, _, _, _, _]) hC dL_ticks_3 (lt_b rfl) rfl (lt_b rfl) rfl ?_
  refine r_iconst hC dL_ticks_4 ?_
  refine r_newarr (n := 3) (ty := 0) hC dL_ticks_5 (Or.inl ⟨rfl, rfl⟩) rfl (le_b rfl) (by omega) (by omega) ka_int (fun _ => ?_)
  obtain ⟨y1, y2, y3, y4⟩ := x1.newA
  rw [← ha2] at y3 y4 ⊢
  have y5 := (x3.kp y2).1
  generalize nC w1 (some (.inr (0, 3))) = w2 at y1 y2 y3 y4 y5 ⊢
  obtain ⟨a3, ha3⟩ : ∃ a, a = mN w2 := ⟨_, rfl⟩
  have l23 : a2 < a3 := by have := y3.2.1; omega
  refine r_astore_n (lv' := [_, _, _, _, _, _, _, _, _, _, _, _, _, _, _, _]) hC dL_ticks_7 (lt_b rfl) rfl (lt_b rfl) rfl ?_
  refine r_iconst hC dL_ticks_8 ?_
  refine r_newarr (n := 3) (ty := 0) hC dL_ticks_9 (Or.inl ⟨rfl, rfl⟩) rfl (le_b rfl) (by omega) (by omega) ka_int (fun _ => ?_)
  obtain ⟨z1, z2, z3, z4⟩ := y1.newA
  rw [← ha3] at z3 z4 ⊢
  have z5 := (y5.kp z2).1
  have z6 := (y3.kp z2).1
  generalize nC w2 (some (.inr (0, 3))) = w3 at z1 z2 z3 z4 z5 z6 ⊢
  refine r_astore_n (lv' := [_, _, _, _, _, _, _, _, _, _, _, _, _, _, _, _]) hC dL_ticks_11 (lt_b rfl) rfl (lt_b rfl) rfl ?_
  refine r_iconst hC dL_ticks_12 ?_
  refine r_istore (lv' := [_, _, _, _, _, _, _, _, _, _, _, _, _, _, _, _]) hC dL_ticks_13 (lt_b rfl) rfl (lt_b rfl) rfl ?_
  refine r_iconst hC dL_ticks_15 ?_
  refine r_istore (lv' := [_, _, _, _, _, _, _, _, _, _, _, _, _, _, _, _]) hC dL_ticks_16 (lt_b rfl) rfl (lt_b rfl) rfl ?_
  refine r_iconst hC dL_ticks_18 ?_
  refine r_istore (lv' := [_, _, _, _, _, _, _, _, _, _, _, _, _, _, _, _]) hC dL_ticks_19 (lt_b rfl) rfl (lt_b rfl) rfl ?_
  refine ini a2 a3 l12 l23 0 1 0 rfl rfl (by decide) w3 _ _ z1 (x2.trans (y2.trans z2)) z5 z6 z3 (by omega) (by omega) fun w4 p1 p2 p3 p4 p5 p6 => ?_
  refine ini a2 a3 l12 l23 1 2 1 rfl rfl (by decide) w4 _ _ p1 p2 p3 p4 p5 (by omega) (by omega) fun w5 q1 q2 q3 q4 q5 q6 => ?_
  refine ini a2 a3 l12 l23 2 3 2 rfl rfl (by decide) w5 _ _ q1 q2 q3 q4 q5 (by omega) (by omega) fun w6 r1 r2 r3 r4 r5 r6 => ?_
  refine r_iload hC dL_ticks_21 rfl ?_
  refine r_iconst hC dL_ticks_23 ?_
  refine r_icmp_ge (t := 75) hC dL_ticks_24 (by rfl) (by first | exact hI.rf _ | exact hI3.rf _ | exact rg_of hI3.rf _ _ | exact rg_mI _ _ _ | exact rg_way hI.rf _ _ | exact rg_of hI.rf _ _ | exact ⟨by omega, by omega⟩ | assumption) (by first | exact hI.rf _ | exact hI3.rf _ | exact rg_of hI3.rf _ _ | exact rg_mI _ _ _ | exact rg_way hI.rf _ _ | exact rg_of hI.rf _ _ | exact ⟨by omega, by omega⟩ | assumption) (fun h_24 => ?_) (fun h_24 => (by omega))
  refine r_aload_n hC dL_ticks_75 rfl ?_
  refine r_bipush hC dL_ticks_76 (by rfl) ?_
  refine r_lcnt hC hfC dL_ticks_78 ml_L_9 hR7 r1 ⟨by omega, by omega⟩ (show m_countV f s 7 = (N : Int) from hN) (le_b rfl) (by omega) (by omega) ?_
  refine r_istore (lv' := [_, _, _, _, _, _, _, _, _, _, _, _, _, _, _, _]) hC dL_ticks_81 (lt_b rfl) rfl (lt_b rfl) rfl ?_
  refine r_iconst hC dL_ticks_83 ?_
  refine r_istore (lv' := [_, _, _, _, _, _, _, _, _, _, _, _, _, _, _, _]) hC dL_ticks_84 (lt_b rfl) rfl (lt_b rfl) rfl ?_
  have hall : ∀ q : Nat, q < 3 → mI w6 a1 q = m_of f q 3 + m_of f q 5 ∧ mI w6 a2 q = m_of f q 1 ∧ mI w6 a3 q = m_of f q 8 := fun q hq => by
    rcases (show q = 0 ∨ q = 1 ∨ q = 2 by omega) with e | e | e
    · subst e
      rw [(r6 _).1, (r6 _).2.1, (r6 _).2.2, if_neg (by decide), if_neg (by decide), if_neg (by decide), (q6 _).1, (q6 _).2.1, (q6 _).2.2, if_neg (by decide), if_neg (by decide), if_neg (by decide), (p6 _).1, (p6 _).2.1, (p6 _).2.2, if_pos (by decide), if_pos (by decide), if_pos (by decide)]
      exact ⟨rfl, rfl, rfl⟩
    · subst e
      rw [(r6 _).1, (r6 _).2.1, (r6 _).2.2, if_neg (by decide), if_neg (by decide), if_neg (by decide), (q6 _).1, (q6 _).2.1, (q6 _).2.2, if_pos (by decide), if_pos (by decide), if_pos (by decide)]
      exact ⟨rfl, rfl, rfl⟩
    · subst e
      rw [(r6 _).1, (r6 _).2.1, (r6 _).2.2, if_pos (by decide), if_pos (by decide), if_pos (by decide)]
      exact ⟨rfl, rfl, rfl⟩
  exact loop a2 a3 l12 l23 N 0 (by omega) w6 _ 0 0 _ _ r1 r2 r3 r4 r5 (fun j hj => by omega) rfl rfl (fun q hq => by
    obtain ⟨h1, h2, h3⟩ := hall q hq
    rw [h1, h2, h3]
    exact ⟨(Int.add_zero _).symm, pmx_0 _ _ _ _ _, pmx_0 _ _ _ _ _⟩) (by omega) (by omega)
