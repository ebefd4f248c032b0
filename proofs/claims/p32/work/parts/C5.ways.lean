/-! ===== ways: messages by their ranks ===== -/
theorem mv_0 (f : RW) (k : Int) : m_msgV f k 0 = m_way f k 0 := rfl
theorem mv_1 (f : RW) (k : Int) : m_msgV f k 1 = m_way f k 1 := rfl
theorem mv_2 (f : RW) (k : Int) : m_msgV f k 2 = m_way f k 2 - f 0 := rfl
theorem mv_3 (f : RW) (k : Int) : m_msgV f k 3 = m_way f k 3 := rfl
theorem mv_4 (f : RW) (k : Int) : m_msgV f k 4 = m_way f k 4 := rfl
theorem rcv_le (f : RW) (c : Int) {w : Int} (h : w ≤ 9) : m_recvV f c w = m_of f c w := if_pos h
theorem rcv_10 (f : RW) (c : Int) : m_recvV f c 10 = m_rows f c := rfl
theorem rcv_11 (f : RW) (c : Int) : m_recvV f c 11 = m_of f c 12 := rfl
theorem rcv_13 (f : RW) (c : Int) : m_recvV f c 13 = m_onway f c := rfl
theorem sumN_01 {f : Nat → Int} (n : Nat) (h : ∀ k, k < n → f k = 0 ∨ f k = 1) : 0 ≤ sumN f n ∧ sumN f n ≤ n := by
  have := sumN_rg (f := f) (lo := 0) (hi := 1) n (fun k hk => by rcases h k hk with z | z <;> rw [z] <;> decide)
  omega
abbrev rmL_ways : Room := { frames := 7, cells := 500, slots := 3000, locals := 130 }
set_option maxRecDepth 100000 in
theorem l_ways {l : Launch} {D : DD} (hfl : l.stackTraces = false) {u : Mem} {x : Nat} {f : RW} {s : Int} {P : RW} {kp : Int} {K : RW} {T B : Int} (hX0 : RX u x f s P kp K T) (hE : Ew f B) (hT : T ≤ 2000000) : CT l D yL_ways cL_ways 8 (some .boolean) rmL_ways [xA x] u (fun o w => o = some (xI 1) ∧ RX w x f s P kp K T ∧ Kp u w x) := by
  refine CT.of hfl (by decide) (le_b rfl) ?_
  intro C hC hR hL hDD hN
  have hfC : (cxL C).stackTraces = false := by rw [hL]; exact hfl
  have hRc : 500 ≤ rmL_ways.cells := le_b rfl
  have hRz : 3000 ≤ rmL_ways.slots := le_b rfl
  have hR7 : 7 ≤ rmL_ways.frames ∧ 120 ≤ rmL_ways.locals := ⟨le_b rfl, le_b rfl⟩
  show VW C 0 [some (xA x), none, none, none, none, none, none, none] [] u 0 0
  have hI := hX0.2.2.1.2
  have h54 := hI.nine
  obtain ⟨⟨i0, i1⟩, ⟨i2, i3⟩, i4, i5, i6⟩ := hI.ti
  obtain ⟨c1, c2, c3, c4, c5, c6, c7, c8, c9⟩ := hI.co
  obtain ⟨og, hG⟩ := hI.me
  obtain ⟨N, hN⟩ : ∃ N : Nat, f 9 = N := ⟨(f 9).toNat, by omega⟩
  obtain ⟨-, -, -, -, -, -, sg, hsg, -⟩ := hX0.2.2.1.1.l
  have hn9 : (f 9).toNat = N := by omega
  rw [hn9] at hsg
  have hrk : ∀ j : Nat, j < N → m_ranked f (j : Int) = sg j := fun j hj => ranked_at hn9 hsg j hj
  have hme : ∀ j : Nat, j < N → IMe1 f 1 (sg j) (og (sg j)) := fun j hj => (hG (sg j) (by have := hsg.1 j hj; omega)).1
  have hem : ∀ j : Nat, j < N → EM1 f (sg j) := fun j hj => hE.2.2.1 (sg j) (by have := hsg.1 j hj; omega)
  have hmon : ∀ i j : Nat, i < j → j < N → m_way f (sg i) 2 ≤ m_way f (sg j) 2 := fun i j hij hj => by
    have := hsg.2.2 i j hij hj
    unfold Lex at this
    omega
  obtain ⟨a, ha⟩ : ∃ a, a = mN u := ⟨_, rfl⟩
  have loop : ∀ (d k : Nat), k + d = N → ∀ (w : Mem) (l5 l6 l7 : Option SV) (last : Int) (c z : Nat), RX w x f s P kp K T → Kp u w x → Arr w x a → (∀ q : Nat, q < 3 → mI w a q = sumN (fun j => if m_way f (sg j) 1 = q then 1 else 0) k) → (0 ≤ last ∧ last ≤ 9 ∧ ∀ j : Nat, k ≤ j → j < N → last ≤ m_way f (sg j) 2 - f 0) → c ≤ 5 + 8 * k → z ≤ 20 + 48 * k → VW C 16 [some (xA x), some (xI (N : Int)), some (xA a), some (xI last), some (xI (k : Int)), l5, l6, l7] [] w c z := by
    intro d
    induction d with
    | zero =>
      intro k hk w l5 l6 l7 last c z hX hkp har hg hl hcb hzb
      have hkN : k = N := by omega
      have hrc : ∀ q : Nat, q < 3 → m_recvV f q 13 = mI w a q := fun q hq => by
        rw [rcv_13, hg q hq, hkN]; exact onway_at hn9 hsg q
      refine r_iload hC dL_ways_16 rfl ?_
      refine r_iload_n hC dL_ways_18 rfl ?_
      refine r_icmp_ge (t := 135) hC dL_ways_19 (by rfl) (by first | exact hI.rf _ | exact rg_mI _ _ _ | exact rg_way hI.rf _ _ | exact rg_of hI.rf _ _ | exact ⟨by omega, by omega⟩ | assumption) (by first | exact hI.rf _ | exact rg_mI _ _ _ | exact rg_way hI.rf _ _ | exact rg_of hI.rf _ _ | exact ⟨by omega, by omega⟩ | assumption) (fun h_19 => ?_) (fun h_19 => (by omega))
      refine r_aload_n hC dL_ways_135 rfl ?_
      refine r_iconst hC dL_ways_136 ?_
      refine r_bipush hC dL_ways_137 (by rfl) ?_
      refine r_lrecv hC hfC dL_ways_139 ml_L_19 hR7 hX ⟨by omega, by omega⟩ ⟨by omega, by omega⟩ (hrc 0 (by decide)) (le_b rfl) (by omega) (by omega) ?_
      refine r_aload_n hC dL_ways_142 rfl ?_
      refine r_iconst hC dL_ways_143 ?_
      refine r_iald hC dL_ways_144 har.1 ⟨by omega, by omega⟩ ?_
      refine r_icmp_ne (t := 194) hC dL_ways_145 (by rfl) (by first | exact hI.rf _ | exact rg_mI _ _ _ | exact rg_way hI.rf _ _ | exact rg_of hI.rf _ _ | exact ⟨by omega, by omega⟩ | assumption) (by first | exact hI.rf _ | exact rg_mI _ _ _ | exact rg_way hI.rf _ _ | exact rg_of hI.rf _ _ | exact ⟨by omega, by omega⟩ | assumption) (fun h_145 => absurd rfl h_145) (fun h_145 => ?_)
      refine r_aload_n hC dL_ways_148 rfl ?_
      refine r_iconst hC dL_ways_149 ?_
      refine r_bipush hC dL_ways_150 (by rfl) ?_
      refine r_lrecv hC hfC dL_ways_152 ml_L_19 hR7 hX ⟨by omega, by omega⟩ ⟨by omega, by omega⟩ (hrc 1 (by decide)) (le_b rfl) (by omega) (by omega) ?_
      refine r_aload_n hC dL_ways_155 rfl ?_
      refine r_iconst hC dL_ways_156 ?_
      refine r_iald hC dL_ways_157 har.1 ⟨by omega, by omega⟩ ?_
      refine r_icmp_ne (t := 194) hC dL_ways_158 (by rfl) (by first | exact hI.rf _ | exact rg_mI _ _ _ | exact rg_way hI.rf _ _ | exact rg_of hI.rf _ _ | exact ⟨by omega, by omega⟩ | assumption) (by first | exact hI.rf _ | exact rg_mI _ _ _ | exact rg_way hI.rf _ _ | exact rg_of hI.rf _ _ | exact ⟨by omega, by omega⟩ | assumption) (fun h_158 => absurd rfl h_158) (fun h_158 => ?_)
      refine r_aload_n hC dL_ways_161 rfl ?_
      refine r_iconst hC dL_ways_162 ?_
      refine r_bipush hC dL_ways_163 (by rfl) ?_
      refine r_lrecv hC hfC dL_ways_165 ml_L_19 hR7 hX ⟨by omega, by omega⟩ ⟨by omega, by omega⟩ (hrc 2 (by decide)) (le_b rfl) (by omega) (by omega) ?_
      refine r_aload_n hC dL_ways_168 rfl ?_
      refine r_iconst hC dL_ways_169 ?_
      refine r_iald hC dL_ways_170 har.1 ⟨by omega, by omega⟩ ?_
      refine r_icmp_ne (t := 194) hC dL_ways_171 (by rfl) (by first | exact hI.rf _ | exact rg_mI _ _ _ | exact rg_way hI.rf _ _ | exact rg_of hI.rf _ _ | exact ⟨by omega, by omega⟩ | assumption) (by first | exact hI.rf _ | exact rg_mI _ _ _ | exact rg_way hI.rf _ _ | exact rg_of hI.rf _ _ | exact ⟨by omega, by omega⟩ | assumption) (fun h_171 => absurd rfl h_171) (fun h_171 => ?_)
      refine r_aload_n hC dL_ways_174 rfl ?_
      refine r_iconst hC dL_ways_175 ?_
      refine r_lcnt hC hfC dL_ways_176 ml_L_9 hR7 hX ⟨by omega, by omega⟩ (show m_countV f s 5 = f 4 from rfl) (le_b rfl) (by omega) (by omega) ?_
      refine r_aload_n hC dL_ways_179 rfl ?_
      refine r_bipush hC dL_ways_180 (by rfl) ?_
      refine r_lcnt hC hfC dL_ways_182 ml_L_9 hR7 hX ⟨by omega, by omega⟩ (show m_countV f s 6 = f 5 from rfl) (le_b rfl) (by omega) (by omega) ?_
      refine r_iload_n hC dL_ways_185 rfl ?_
      refine r_iadd hC dL_ways_186 ?_
      refine r_icmp_lt (t := 194) hC dL_ways_187 (by rfl) (by first | exact hI.rf _ | exact rg_mI _ _ _ | exact rg_way hI.rf _ _ | exact rg_of hI.rf _ _ | exact ⟨by omega, by omega⟩ | assumption) (by first | exact hI.rf _ | exact rg_mI _ _ _ | exact rg_way hI.rf _ _ | exact rg_of hI.rf _ _ | exact ⟨by omega, by omega⟩ | assumption) (fun h_187 => (by omega)) (fun h_187 => ?_)
      refine r_iconst hC dL_ways_190 ?_
      refine r_goto (t := 195) hC dL_ways_191 (by rfl) ?_
      refine r_zret hC hR dL_ways_195 (Or.inr rfl) (by omega) (by omega) ?_
      exact ⟨rfl, hX, hkp⟩
    | succ d ih =>
      intro k hk w l5 l6 l7 last c z hX hkp har hg hl hcb hzb
      have hkN : k < N := by omega
      have hsk := hsg.1 k hkN
      obtain ⟨m1, m2, m3, m4, m5, m6, m7, m8, m9, m10⟩ := hme k hkN
      obtain ⟨em0, em1⟩ := hem k hkN
      have hlk := hl.2.2 k (Nat.le_refl _) hkN
      have hv : ∀ q v : Int, m_msgV f (sg k) q = v → m_msgV f (m_ranked f (k : Int)) q = v := fun q v h => by rw [hrk k hkN]; exact h
      obtain ⟨ww, hww⟩ : ∃ v, v = m_way f (sg k) 1 := ⟨_, rfl⟩
      rw [← hww] at m2
      have K97 : VW C 97 [some (xA x), some (xI (N : Int)), some (xA a), some (xI last), some (xI (k : Int)), (some (xI (m_way f (sg k) 2 - f 0))), (some (xI (m_way f (sg k) 0))), (some (xI (m_way f (sg k) 3)))] [] w (c + 1 + 1 + 1) (z + 6 + 6 + 6) := by
        have hge : m_way f (sg k) 3 - 1 ≤ m_way f (sg k) 4 := by
          rcases m1 with z | z
          · exact (em0 z).2.1
          · have := m10 z; omega
        have r4 : rg (m_way f (sg k) 4) := rg_way hI.rf _ _
        clear em0 em1
        refine r_aload_n hC dL_ways_97 rfl ?_
        refine r_iload hC dL_ways_98 rfl ?_
        refine r_iconst hC dL_ways_100 ?_
        refine r_lmsg hC hfC dL_ways_101 ml_L_35 hR7 hX ⟨by omega, by omega⟩ ⟨by omega, by omega⟩ (hv 4 _ (mv_4 _ _)) (le_b rfl) (by omega) (by omega) ?_
        refine r_iload hC dL_ways_104 rfl ?_
        refine r_iconst hC dL_ways_106 ?_
        refine r_isub hC dL_ways_107 ?_
        refine r_icmp_ge (t := 113) hC dL_ways_108 (by rfl) r4 ⟨by omega, by omega⟩ (fun h_108 => ?_) (fun h_108 => (by omega))
        refine r_aload_n hC dL_ways_113 rfl ?_
        refine r_aload_n hC dL_ways_114 rfl ?_
        refine r_iload hC dL_ways_115 rfl ?_
        refine r_iconst hC dL_ways_117 ?_
        refine r_lmsg hC hfC dL_ways_118 ml_L_35 hR7 hX ⟨by omega, by omega⟩ ⟨by omega, by omega⟩ (hv 1 ww (by rw [hww]; rfl)) (le_b rfl) (by omega) (by omega) ?_
        refine r_dup2 hC dL_ways_121 rfl rfl ?_
        refine r_iald hC dL_ways_122 har.1 ⟨by omega, by omega⟩ ?_
        refine r_iconst hC dL_ways_123 ?_
        refine r_iadd hC dL_ways_124 ?_
        refine r_iast hC dL_ways_125 har.1 ⟨by omega, by omega⟩ ?_
        refine r_iload hC dL_ways_126 rfl ?_
        refine r_istore_n (lv' := [_, _, _, _, _, _, _, _]) hC dL_ways_128 (lt_b rfl) rfl (lt_b rfl) rfl ?_
        refine r_iinc (lv' := [_, _, _, _, _, _, _, _]) hC dL_ways_129 rfl (lt_b rfl) rfl (lt_b rfl) rfl ?_
        refine r_goto (t := 16) hC dL_ways_132 (by rfl) ?_
        obtain ⟨q, hq, eq⟩ := nat3 m2
        have hs01 := fun r : Nat => sumN_01 (f := fun j => if m_way f (sg j) 1 = r then 1 else 0) k (fun j _ => by split <;> omega)
        obtain ⟨x1, x2, x3⟩ := hX.st har ww (mI w a ww + 1)
        refine vw_widen (Nat.le_refl _) (Nat.le_refl _) ?_
        rw [show (k : Int) + 1 = ((k + 1 : Nat) : Int) by omega]
        refine ih (k + 1) (by omega) _ _ _ _ _ _ _ x1 (x3 u hkp (by omega)) (x2 a har) (fun r hr => ?_) ⟨by omega, by omega, fun j hj hjN => ?_⟩ (by omega) (by omega)
        · rw [up_mI, eq]
          simp only [sumN]
          rw [← hww, eq]
          by_cases e : q = r
          · subst e
            have := hs01 q
            rw [up_s, hg q hq, if_pos rfl, wr_id ⟨by omega, by omega⟩]
          · rw [up_n _ _ (by omega), hg r hr, if_neg (by omega)]; omega
        · have := hmon k j (by omega) hjN; omega
      refine r_iload hC dL_ways_16 rfl ?_
      refine r_iload_n hC dL_ways_18 rfl ?_
      refine r_icmp_ge (t := 135) hC dL_ways_19 (by rfl) (by first | exact hI.rf _ | exact rg_mI _ _ _ | exact rg_way hI.rf _ _ | exact rg_of hI.rf _ _ | exact ⟨by omega, by omega⟩ | assumption) (by first | exact hI.rf _ | exact rg_mI _ _ _ | exact rg_way hI.rf _ _ | exact rg_of hI.rf _ _ | exact ⟨by omega, by omega⟩ | assumption) (fun h_19 => (by omega)) (fun h_19 => ?_)
      refine r_aload_n hC dL_ways_22 rfl ?_
      refine r_iload hC dL_ways_23 rfl ?_
      refine r_iconst hC dL_ways_25 ?_
      refine r_lmsg hC hfC dL_ways_26 ml_L_35 hR7 hX ⟨by omega, by omega⟩ ⟨by omega, by omega⟩ (hv 2 _ (mv_2 _ _)) (le_b rfl) (by omega) (by omega) ?_
      refine r_istore (lv' := [_, _, _, _, _, _, _, _]) hC dL_ways_29 (lt_b rfl) rfl (lt_b rfl) rfl ?_
      refine r_aload_n hC dL_ways_31 rfl ?_
      refine r_iload hC dL_ways_32 rfl ?_
      refine r_iconst hC dL_ways_34 ?_
      refine r_lmsg hC hfC dL_ways_35 ml_L_35 hR7 hX ⟨by omega, by omega⟩ ⟨by omega, by omega⟩ (hv 0 _ (mv_0 _ _)) (le_b rfl) (by omega) (by omega) ?_
      refine r_istore (lv' := [_, _, _, _, _, _, _, _]) hC dL_ways_38 (lt_b rfl) rfl (lt_b rfl) rfl ?_
      refine r_aload_n hC dL_ways_40 rfl ?_
      refine r_iload hC dL_ways_41 rfl ?_
      refine r_iconst hC dL_ways_43 ?_
      refine r_lmsg hC hfC dL_ways_44 ml_L_35 hR7 hX ⟨by omega, by omega⟩ ⟨by omega, by omega⟩ (hv 3 _ (mv_3 _ _)) (le_b rfl) (by omega) (by omega) ?_
      refine r_istore (lv' := [_, _, _, _, _, _, _, _]) hC dL_ways_47 (lt_b rfl) rfl (lt_b rfl) rfl ?_
      refine r_iload hC dL_ways_49 rfl ?_
      refine r_iconst hC dL_ways_51 ?_
      refine r_icmp_lt (t := 111) hC dL_ways_52 (by rfl) (by first | exact hI.rf _ | exact rg_mI _ _ _ | exact rg_way hI.rf _ _ | exact rg_of hI.rf _ _ | exact ⟨by omega, by omega⟩ | assumption) (by first | exact hI.rf _ | exact rg_mI _ _ _ | exact rg_way hI.rf _ _ | exact rg_of hI.rf _ _ | exact ⟨by omega, by omega⟩ | assumption) (fun h_52 => (by omega)) (fun h_52 => ?_)
      refine r_iload hC dL_ways_55 rfl ?_
      refine r_bipush hC dL_ways_57 (by rfl) ?_
      refine r_icmp_gt (t := 111) hC dL_ways_59 (by rfl) (by first | exact hI.rf _ | exact rg_mI _ _ _ | exact rg_way hI.rf _ _ | exact rg_of hI.rf _ _ | exact ⟨by omega, by omega⟩ | assumption) (by first | exact hI.rf _ | exact rg_mI _ _ _ | exact rg_way hI.rf _ _ | exact rg_of hI.rf _ _ | exact ⟨by omega, by omega⟩ | assumption) (fun h_59 => (by omega)) (fun h_59 => ?_)
      refine r_iload hC dL_ways_62 rfl ?_
      refine r_iload_n hC dL_ways_64 rfl ?_
      refine r_icmp_lt (t := 111) hC dL_ways_65 (by rfl) (by first | exact hI.rf _ | exact rg_mI _ _ _ | exact rg_way hI.rf _ _ | exact rg_of hI.rf _ _ | exact ⟨by omega, by omega⟩ | assumption) (by first | exact hI.rf _ | exact rg_mI _ _ _ | exact rg_way hI.rf _ _ | exact rg_of hI.rf _ _ | exact ⟨by omega, by omega⟩ | assumption) (fun h_65 => (by omega)) (fun h_65 => ?_)
      rcases m1 with hkd | hkd
      · obtain ⟨e1, e2, -⟩ := em0 hkd
        refine r_iload hC dL_ways_68 rfl ?_
        refine r_iconst hC dL_ways_70 ?_
        refine r_icmp_ne (t := 79) hC dL_ways_71 (by rfl) (by first | exact hI.rf _ | exact rg_mI _ _ _ | exact rg_way hI.rf _ _ | exact rg_of hI.rf _ _ | exact ⟨by omega, by omega⟩ | assumption) (by first | exact hI.rf _ | exact rg_mI _ _ _ | exact rg_way hI.rf _ _ | exact rg_of hI.rf _ _ | exact ⟨by omega, by omega⟩ | assumption) (fun h_71 => ?_) (fun h_71 => (by omega))
        refine r_iload hC dL_ways_79 rfl ?_
        refine r_if_ne (t := 97) hC dL_ways_81 (by rfl) (by first | exact hI.rf _ | exact rg_mI _ _ _ | exact rg_way hI.rf _ _ | exact rg_of hI.rf _ _ | exact ⟨by omega, by omega⟩ | assumption) (fun h_81 => (by omega)) (fun h_81 => ?_)
        refine r_iload hC dL_ways_84 rfl ?_
        refine r_iconst hC dL_ways_86 ?_
        refine r_icmp_lt (t := 111) hC dL_ways_87 (by rfl) (by first | exact hI.rf _ | exact rg_mI _ _ _ | exact rg_way hI.rf _ _ | exact rg_of hI.rf _ _ | exact ⟨by omega, by omega⟩ | assumption) (by first | exact hI.rf _ | exact rg_mI _ _ _ | exact rg_way hI.rf _ _ | exact rg_of hI.rf _ _ | exact ⟨by omega, by omega⟩ | assumption) (fun h_87 => (by omega)) (fun h_87 => ?_)
        refine r_iload hC dL_ways_90 rfl ?_
        refine r_bipush hC dL_ways_92 (by rfl) ?_
        refine r_icmp_gt (t := 111) hC dL_ways_94 (by rfl) (by first | exact hI.rf _ | exact rg_mI _ _ _ | exact rg_way hI.rf _ _ | exact rg_of hI.rf _ _ | exact ⟨by omega, by omega⟩ | assumption) (by first | exact hI.rf _ | exact rg_mI _ _ _ | exact rg_way hI.rf _ _ | exact rg_of hI.rf _ _ | exact ⟨by omega, by omega⟩ | assumption) (fun h_94 => (by omega)) (fun h_94 => ?_)
        exact K97
      · have e1 := m10 hkd
        refine r_iload hC dL_ways_68 rfl ?_
        refine r_iconst hC dL_ways_70 ?_
        refine r_icmp_ne (t := 79) hC dL_ways_71 (by rfl) (by first | exact hI.rf _ | exact rg_mI _ _ _ | exact rg_way hI.rf _ _ | exact rg_of hI.rf _ _ | exact ⟨by omega, by omega⟩ | assumption) (by first | exact hI.rf _ | exact rg_mI _ _ _ | exact rg_way hI.rf _ _ | exact rg_of hI.rf _ _ | exact ⟨by omega, by omega⟩ | assumption) (fun h_71 => (by omega)) (fun h_71 => ?_)
        refine r_iload hC dL_ways_74 rfl ?_
        refine r_if_ne (t := 111) hC dL_ways_76 (by rfl) (by first | exact hI.rf _ | exact rg_mI _ _ _ | exact rg_way hI.rf _ _ | exact rg_of hI.rf _ _ | exact ⟨by omega, by omega⟩ | assumption) (fun h_76 => (by omega)) (fun h_76 => ?_)
        refine r_iload hC dL_ways_79 rfl ?_
        refine r_if_ne (t := 97) hC dL_ways_81 (by rfl) (by first | exact hI.rf _ | exact rg_mI _ _ _ | exact rg_way hI.rf _ _ | exact rg_of hI.rf _ _ | exact ⟨by omega, by omega⟩ | assumption) (fun h_81 => ?_) (fun h_81 => (by omega))
        exact K97
  refine r_aload_n hC dL_ways_0 rfl ?_
  refine r_bipush hC dL_ways_1 (by rfl) ?_
  refine r_lcnt hC hfC dL_ways_3 ml_L_9 hR7 hX0 ⟨by omega, by omega⟩ (show m_countV f s 7 = (N : Int) from hN) (le_b rfl) (by omega) (by omega) ?_
  refine r_istore_n (lv' := [_, _, _, _, _, _, _, _]) hC dL_ways_6 (lt_b rfl) rfl (lt_b rfl) rfl ?_
  refine r_iconst hC dL_ways_7 ?_
  refine r_newarr (n := 3) (ty := 0) hC dL_ways_8 (Or.inl ⟨rfl, rfl⟩) rfl (le_b rfl) (by omega) (by omega) ka_int (fun _ => ?_)
  obtain ⟨x1, x2, x3, x4⟩ := hX0.newA
  rw [← ha] at x3 x4 ⊢
  refine r_astore_n (lv' := [_, _, _, _, _, _, _, _]) hC dL_ways_10 (lt_b rfl) rfl (lt_b rfl) rfl ?_
  refine r_iconst hC dL_ways_11 ?_
  refine r_istore_n (lv' := [_, _, _, _, _, _, _, _]) hC dL_ways_12 (lt_b rfl) rfl (lt_b rfl) rfl ?_
  refine r_iconst hC dL_ways_13 ?_
  refine r_istore (lv' := [_, _, _, _, _, _, _, _]) hC dL_ways_14 (lt_b rfl) rfl (lt_b rfl) rfl ?_
  exact loop N 0 (by omega) _ _ _ _ 0 _ _ x1 x2 x3 (fun q _ => by rw [x4]; rfl) ⟨by decide, by decide, fun j _ hj => by have := (hme j hj).2.2.1; omega⟩ (by omega) (by omega)
