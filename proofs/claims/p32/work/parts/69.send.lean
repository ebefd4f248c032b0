/-! the class sends a batch -/
theorem wait_at {g : RW} (rf : RF g) {c : Nat} (hc : c < 3) {x : Int} (hx : rg x) : (∀ j, j ≠ 697 + 38 * (c : Int) + 9 → j ≠ 697 + 38 * (c : Int) + 10 → j ≠ 697 + 38 * (c : Int) + 11 → (up (up (up g (697 + 38 * (c : Int) + 9) 1) (697 + 38 * (c : Int) + 11) (g 0)) (697 + 38 * (c : Int) + 10) x) j = g j) ∧ m_of (up (up (up g (697 + 38 * (c : Int) + 9) 1) (697 + 38 * (c : Int) + 11) (g 0)) (697 + 38 * (c : Int) + 10) x) c 9 = 1 ∧ m_of (up (up (up g (697 + 38 * (c : Int) + 9) 1) (697 + 38 * (c : Int) + 11) (g 0)) (697 + 38 * (c : Int) + 10) x) c 10 = x ∧ m_of (up (up (up g (697 + 38 * (c : Int) + 9) 1) (697 + 38 * (c : Int) + 11) (g 0)) (697 + 38 * (c : Int) + 10) x) c 11 = g 0 := by
  refine ⟨fun j h1 h2 h3 => by rw [up_n _ _ h2, up_n _ _ h3, up_n _ _ h1], ?_, ?_, ?_⟩
  · unfold m_of; rw [up_n _ _ (by omega), up_n _ _ (by omega), up_s]; rfl
  · unfold m_of; rw [up_s, wr_id hx]
  · unfold m_of; rw [up_n _ _ (by omega), up_s, wr_id (rf 0)]
theorem rs_wait {u : Mem} {a : Nat} {g : RW} (hS : RS u a g) (hB : IB g) {c : Nat} (hc : c < 3) {x : Int} (hx : rg x) (hx0 : 0 ≤ x) : RS (sI (sI (sI u (a + 28 + 2 * c) 11 1) (a + 28 + 2 * c) 12 (g 0)) (a + 28 + 2 * c) 13 x) a (up (up (up g (697 + 38 * (c : Int) + 9) 1) (697 + 38 * (c : Int) + 11) (g 0)) (697 + 38 * (c : Int) + 10) x) ∧ IB (up (up (up g (697 + 38 * (c : Int) + 9) 1) (697 + 38 * (c : Int) + 11) (g 0)) (697 + 38 * (c : Int) + 10) x) := by
  have rf := hB.rf
  obtain ⟨w1, w9, w10, w11⟩ := wait_at rf hc hx
  obtain ⟨G, hG⟩ : ∃ G, G = up (up (up g (697 + 38 * (c : Int) + 9) 1) (697 + 38 * (c : Int) + 11) (g 0)) (697 + 38 * (c : Int) + 10) x := ⟨_, rfl⟩
  have rG : RF G := by rw [hG]; exact rf_up (rf_up (rf_up rf _ _) _ _) _ _
  rw [← hG] at w1 w9 w10 w11 ⊢
  have hf : Fr u (sI (sI (sI u (a + 28 + 2 * c) 11 1) (a + 28 + 2 * c) 12 (g 0)) (a + 28 + 2 * c) 13 x) (fun q => q = a + 28 + 2 * c) (fun _ => False) := by
    refine Fr.sI (Fr.sI (Fr.sI (Fr.refl _ _ _) _ _ ?_) _ _ ?_) _ _ ?_ <;> rfl
  have hcc := hS.c hc
  have hre := hB.re c hc
  constructor
  · refine ⟨hf.stO hS.o, ⟨?_, ?_⟩, fun i hi => ?_, fun p hp => ?_, ?_, fun d hd => ?_, ?_⟩
    · rw [hf.mI (by omega), w1 _ (by omega) (by omega) (by omega)]; exact hS.tick
    · rw [hf.mI (by omega), w1 _ (by omega) (by omega) (by omega)]; exact hS.writ
    · rw [hf.mI (by omega), w1 _ (by omega) (by omega) (by omega)]; exact hS.set hi
    · exact (hS.t hp).keep (fun q h1 h2 => hf.mI (by omega)) (fun j h1 h2 => w1 j (by omega) (by omega) (by omega)) (hB.pl p hp).2.1.2
    · exact hS.r.keep (fun q h1 h2 => hf.mI (by omega)) (fun j hj => w1 j (by omega) (by omega) (by omega)) hB.co.1.2
    · by_cases e : d = c
      · subst e
        obtain ⟨c1, c2, c3, c4, c5, c6, c7, c8, c9, c10, c11, c12, c13, c14⟩ := hcc
        have h20 := hre.2.2.1
        have q : ∀ y : Int, y ≠ 9 → y ≠ 10 → y ≠ 11 → m_of G d y = m_of g d y := fun y h1 h2 h3 => by unfold m_of; exact w1 _ (by omega) (by omega) (by omega)
        unfold RSc
        rw [up_mI, up_mI, up_mI, hf.mI (q := a + 28 + 2 * d + 1) (by omega), w9, w10, w11, q 0 (by decide) (by decide) (by decide), q 1 (by decide) (by decide) (by decide), q 2 (by decide) (by decide) (by decide), q 3 (by decide) (by decide) (by decide), q 4 (by decide) (by decide) (by decide), q 5 (by decide) (by decide) (by decide), q 6 (by decide) (by decide) (by decide), q 7 (by decide) (by decide) (by decide), q 8 (by decide) (by decide) (by decide), q 12 (by decide) (by decide) (by decide)]
        have z : ∀ j : Int, j ≠ 11 → j ≠ 12 → j ≠ 13 → (up (up (up (mI u (a + 28 + 2 * d)) 11 1) 12 (g 0)) 13 x) j = mI u (a + 28 + 2 * d) j := fun j h1 h2 h3 => by rw [up_n _ _ h3, up_n _ _ h2, up_n _ _ h1]
        rw [z 1 (by decide) (by decide) (by decide), z 2 (by decide) (by decide) (by decide), z 3 (by decide) (by decide) (by decide), z 4 (by decide) (by decide) (by decide), z 5 (by decide) (by decide) (by decide), z 6 (by decide) (by decide) (by decide), z 7 (by decide) (by decide) (by decide), z 8 (by decide) (by decide) (by decide), z 9 (by decide) (by decide) (by decide), z 10 (by decide) (by decide) (by decide)]
        exact ⟨c1, c2, c3, c4, c5, c6, c7, c8, c9, c10, by rw [up_n _ _ (by decide), up_n _ _ (by decide), up_s]; rfl, by rw [up_n _ _ (by decide), up_s, wr_id (rf 0)], Or.inl (by rw [up_s, wr_id hx]), fun j hj => by rw [q _ (by omega) (by omega) (by omega)]; exact c14 j hj⟩
      · exact (hS.c hd).keep (hf.mI (by omega)) (hf.mI (by omega)) (fun j h1 h2 => w1 j (by omega) (by omega) (by omega)) (by have := (hB.re d hd).2.2.1; omega)
    · exact hS.l.keep hS.o.l (fun q h1 h2 => hf.mI (by omega)) (hf.mP id) (fun j hj => w1 j (by omega) (by omega) (by omega)) hB.ni
  · obtain ⟨_, ⟨c1, c2, c3, c4⟩, se, pl, ro, re, ni⟩ := hB
    have e := fun j (hj : j < 697 ∨ 811 ≤ j) => w1 j (by omega) (by omega) (by omega)
    refine ⟨rG, ⟨by rw [e 2 (by omega)]; exact c1, by rw [e 2 (by omega), e 3 (by omega)]; exact c2, by unfold m_kept at *; rw [e 2 (by omega), e 3 (by omega)]; exact c3, by rw [e 9 (by omega), e 5 (by omega), e 4 (by omega), e 6 (by omega), e 8 (by omega)]; exact c4⟩, ?_, fun p hp => ?_, fun j hj => ?_, fun d hd => ?_, by rw [e 9 (by omega)]; exact ni⟩
    · unfold ISe at *; rw [e 10 (by omega), e 11 (by omega), e 12 (by omega), e 13 (by omega), e 14 (by omega), e 15 (by omega), e 16 (by omega)]; exact se
    · have ep : ∀ x : Int, 0 ≤ x → x < 20 → m_its G p x = m_its g p x := fun x h1 h2 => by unfold m_its; exact e _ (by omega)
      obtain ⟨a1, a2, a3⟩ := pl p hp
      rw [ep 0 (by omega) (by omega), ep 1 (by omega) (by omega), e 1 (by omega)]
      exact ⟨a1, a2, fun i hi => by rw [ep _ (by omega) (by omega), ep _ (by omega) (by omega), ep _ (by omega) (by omega)]; exact a3 i hi⟩
    · rw [e 2 (by omega)] at hj
      unfold m_write
      rw [e (97 + 3 * (j : Int)) (by omega), e (97 + 3 * (j : Int) + 1) (by omega), e 1 (by omega), e (97 + 3 * (j : Int) + 2) (by omega)]; exact ro j hj
    · by_cases z : d = c
      · subst z
        have q : ∀ y : Int, y ≠ 9 → y ≠ 10 → y ≠ 11 → m_of G d y = m_of g d y := fun y h1 h2 h3 => by unfold m_of; exact w1 _ (by omega) (by omega) (by omega)
        obtain ⟨r1, r2, r3, r4, r5, r6, r7⟩ := re d hd
        rw [q 0 (by decide) (by decide) (by decide), q 1 (by decide) (by decide) (by decide), q 2 (by decide) (by decide) (by decide), q 8 (by decide) (by decide) (by decide), w9, w10, w11, e 0 (by omega)]
        exact ⟨r1, r2, r3, r4, Or.inr rfl, ⟨by omega, Int.le_refl _⟩, hx0⟩
      · have eo : ∀ x : Int, 0 ≤ x → x < 38 → m_of G d x = m_of g d x := fun x h1 h2 => by unfold m_of; exact w1 _ (by omega) (by omega) (by omega)
        rw [eo 0 (by omega) (by omega), eo 1 (by omega) (by omega), eo 2 (by omega) (by omega), eo 8 (by omega) (by omega), eo 9 (by omega) (by omega), eo 11 (by omega) (by omega), eo 10 (by omega) (by omega), e 0 (by omega)]; exact re d hd
def SbI (u : Mem) (a : Nat) (r : RW) (c N q0 : Nat) (o : Nat → Nat) (b : RW) (i s : Nat) (B : RW) (w : Mem) : Prop := RS w a (m_markL r B c s) ∧ Fr u w (fun q => q = a + 25 ∨ q = q0 ∨ q = q0 + 1) (fun _ => False) ∧ (mI w q0 1 = 0 ∧ mI w q0 2 = c ∧ mI w q0 4 = s ∧ mI w q0 5 = (if s = 0 then -1 else m_num r (B ((s : Int) - 1)))) ∧ (∀ k : Nat, k < s → mI w (q0 + 1) k = B k ∧ 0 ≤ B k ∧ B k < r 2) ∧ wkG r o c (N - i) i s B = wkG r o c N 0 0 b ∧ s ≤ 8
abbrev rmX5_sendBatch : Room := { frames := 2, cells := 0, slots := 0, locals := 44 }
set_option maxRecDepth 100000 in
theorem k_St_send {l : Launch} {D : DD} (hfl : l.stackTraces = false) {u : Mem} {a : Nat} {r : RW} (hS : RS u a r) (hB : IB r) {N c : Nat} (b : RW) (h9N : r 9 = N) (hN2 : N ≤ 53) (hc : c < 3) (hMK : MK r) (hdue : rg (r 0 + r 11)) : CT l D yX5_sendBatch cX5_sendBatch 6 none rmX5_sendBatch [xA a, xI c] u (fun o w => o = none ∧ RS w a (m_relays r b c) ∧ Blk u w a) := by
  have b2 := hB.co.1
  have b3 := hB.co.2.1
  have bk := hB.co.2.2.1
  have rf := hB.rf
  have hc2 := hS.c hc
  have hre := hB.re c hc
  have hse := hB.se.2.2.1
  have hr0 := rf 0
  have hr13 := rf 13
  obtain ⟨o, hO, ho⟩ := hS.r.2.2.2.2
  obtain ⟨K, hKk⟩ : ∃ K : Nat, m_kept r = K := ⟨(m_kept r).toNat, by unfold m_kept at *; omega⟩
  rw [show (m_kept r).toNat = K by omega] at hO ho
  have hK60 : K ≤ 60 := by omega
  obtain ⟨q0, hq0⟩ : ∃ q, q = qa u (a + 34) N := ⟨_, rfl⟩
  have hbq := hS.o.l.bq (j := N) (by omega)
  rw [← hq0] at hbq
  have hMq : MsO u q0 := by rw [hq0]; exact hS.o.l.mq (by omega)
  have hga := gather_at hO hK60 (c := (c : Int)) b
  refine CT.of hfl (by decide) (le_b rfl) ?_
  intro C hC hR hL hDD hN
  have hfC : (cxL C).stackTraces = false := by rw [hL]; exact hfl
  show VW C 0 [some (xA a), some (xI c), none, none, none, none] [] u 0 0
  have k33 : m_may r c = true → VW C 33 [some (xA a), some (xI c), some (xA (a + 28 + 2 * c)), none, none, none] [] u 0 0 := by
    intro hmay
    have lp : ∀ (n : Nat) (i s : Nat) (B : RW) (w : Mem) (w5 : Option SV), K - i = n → i ≤ K → SbI u a r c K q0 o b i s B w → VW C 49 [some (xA a), some (xI c), some (xA (a + 28 + 2 * c)), some (xA q0), some (xI i), w5] [] w 0 0 := by
      intro n
      induction n using Nat.strongRecOn with
      | _ n ih =>
        intro i s B w w5 hn hi hw
        obtain ⟨hSw, hfr, ⟨d1, d2, d4, d5⟩, hBk, hwk, hs8⟩ := hw
        obtain ⟨hBw, hlo, hrw⟩ := markL_at hB hc s (fun k hk => (hBk k hk).2)
        have hMw : MsO w q0 := hfr.msO hMq
        have hoi : i < K → (o i : Int) < r 2 := fun z => (hO.1 i z).1
        have hord : i < K → mI w (a + 19 + 7) i = o i := fun z => by rw [hfr.mI (by omega)]; exact ho i z
        have hkw : mI w (a + 19) 8 = K := by rw [hfr.mI (by omega), ← hKk]; exact hS.r.2.1
        have hsw : mI w (a + 1) 2 = r 12 := by rw [hfr.mI (by omega)]; exact hS.set (i := 2) (by decide)
        have han : i < K → m_ans (m_markL r B c s) (o i) c = m_ans r (o i) c := fun z => ans_keep (hlo 10 (by omega)) (hrw _ (hoi z)).1 (hrw _ (hoi z)).2 (by unfold m_of; exact hlo _ (by omega)) (by unfold m_of; exact hlo _ (by omega))
        have hnum : ∀ k : Nat, (k : Int) < r 2 → m_num (m_markL r B c s) k = m_num r k := fun k hk => num_keep (hlo 10 (by omega)) (hrw k hk).2
        refine r_iload hC dX5_sendBatch_49 rfl ?_
        refine r_aload_n hC dX5_sendBatch_51 rfl ?_
        refine r_getR (j := 2) hC dX5_sendBatch_52 fl_X5_33 rfl rfl hSw.o.o hSw.o.p2 ?_
        refine r_getIv (j := 8) (v := K) hC dX5_sendBatch_55 fl_X5_92 rfl rfl hSw.o.r.o hkw ?_
        refine r_icmp_ge (t := 134) hC dX5_sendBatch_58 (by rfl) (by first | with_reducible exact rg_mI _ _ _ | assumption | with_reducible exact rf_at rf _ | with_reducible exact rg_of rf _ _ | with_reducible exact rg_its rf _ _ | with_reducible exact rg_way rf _ _ | with_reducible exact rg_and _ _ | with_reducible exact rg_or _ _ | exact ⟨by omega, by omega⟩) (by first | with_reducible exact rg_mI _ _ _ | assumption | with_reducible exact rf_at rf _ | with_reducible exact rg_of rf _ _ | with_reducible exact rg_its rf _ _ | with_reducible exact rg_way rf _ _ | with_reducible exact rg_and _ _ | with_reducible exact rg_or _ _ | exact ⟨by omega, by omega⟩) (fun h_58 => ?_) (fun h_58 => ?_)
        · skip
          have hfin : wkG r o c K 0 0 b = (s, B) := by
            rw [← hwk]
            first | (rw [show K - i = 0 by omega]; rfl) | exact wkG_full (by omega) _ _ _
          rw [hfin] at hga
          have hrN : m_relN r b c = s := by unfold m_relN; rw [if_pos hmay, hga]
          have hrB : m_relB r b c = B := by unfold m_relB; rw [if_pos hmay, hga]
          refine r_aload_n hC dX5_sendBatch_134 rfl ?_
          refine r_getIv (j := 4) (v := s) hC dX5_sendBatch_135 fl_X5_147 rfl rfl hMw.o d4 ?_
          refine r_if_le (t := 166) hC dX5_sendBatch_138 (by rfl) ⟨by omega, by omega⟩ (fun h_138 => ?_) (fun h_138 => ?_)
          · skip
            refine r_vret hC hR dX5_sendBatch_166 (le_b rfl) (le_b rfl) ?_
            have hs0 : s = 0 := by omega
            subst hs0
            refine ⟨rfl, ?_, hfr.blk (fun q hq => by omega)⟩
            unfold m_relays
            rw [hrN, if_neg (by omega)]
            exact hSw
          · skip
            refine r_aload_n hC dX5_sendBatch_141 rfl ?_
            refine r_iconst hC dX5_sendBatch_142 ?_
            refine r_putI (j := 11) hC dX5_sendBatch_143 fl_X5_197 rfl (hSw.o.c hc).o (by rintro _ ⟨⟩; rfl) (Or.inr ⟨rfl, by first | exact Or.inl rfl | exact Or.inr rfl⟩) ?_
            refine r_aload_n hC dX5_sendBatch_146 rfl ?_
            refine r_aload_n hC dX5_sendBatch_147 rfl ?_
            refine r_getIv (j := 5) (v := r 0) hC dX5_sendBatch_148 fl_X5_51 rfl rfl hSw.o.o (by rw [up_mI_n _ _ _ (by omega), hfr.mI (by omega)]; exact hS.tick) ?_
            refine r_putI (j := 12) hC dX5_sendBatch_151 fl_X5_200 rfl (hSw.o.c hc).o (by rintro _ ⟨⟩; rfl) (Or.inl rfl) ?_
            refine r_aload_n hC dX5_sendBatch_154 rfl ?_
            refine r_aload_n hC dX5_sendBatch_155 rfl ?_
            refine r_getIv (j := 5) (v := (m_num r (B ((s : Int) - 1)))) hC dX5_sendBatch_156 fl_X5_144 rfl rfl hMw.o (by rw [up_mI_n _ _ _ (by omega), up_mI_n _ _ _ (by omega), d5, if_neg (by omega)]) ?_
            refine r_putI (j := 13) hC dX5_sendBatch_159 fl_X5_218 rfl (hSw.o.c hc).o (by rintro _ ⟨⟩; rfl) (Or.inl rfl) ?_
            refine r_aload_n hC dX5_sendBatch_162 rfl ?_
            obtain ⟨kl, hkl⟩ : ∃ kl : Nat, B ((s : Int) - 1) = kl := ⟨(B ((s : Int) - 1)).toNat, by
              have := hBk (s - 1) (by omega)
              rw [show ((s - 1 : Nat) : Int) = (s : Int) - 1 by omega] at this; omega⟩
            have hklr : (kl : Int) < r 2 := by
              have := hBk (s - 1) (by omega)
              rw [show ((s - 1 : Nat) : Int) = (s : Int) - 1 by omega] at this; omega
            have hxr : rg (m_num r (B ((s : Int) - 1))) := by rw [hkl]; exact num_rg rf hB.ro hklr
            have hx0 : 0 ≤ (m_num r (B ((s : Int) - 1))) := by rw [hkl]; exact num_pos hB.ro hklr
            have hg0 : m_markL r B c s 0 = r 0 := hlo 0 (by omega)
            obtain ⟨hS5, hB5⟩ := rs_wait hSw hBw hc hxr hx0
            rw [hg0] at hS5 hB5
            obtain ⟨w1, w9, w10, w11⟩ := wait_at hBw.rf hc hxr
            rw [hg0] at w1 w9 w10 w11
            have hfw : Fr w (sI (sI (sI w (a + 28 + 2 * c) 11 1) (a + 28 + 2 * c) 12 (r 0)) (a + 28 + 2 * c) 13 (m_num r (B ((s : Int) - 1)))) (fun q => q = a + 28 + 2 * c) (fun _ => False) := by
              refine Fr.sI (Fr.sI (Fr.sI (Fr.refl _ _ _) _ _ ?_) _ _ ?_) _ _ ?_ <;> rfl
            obtain ⟨G, hG⟩ : ∃ G, G = up (up (up (m_markL r B c s) (697 + 38 * (c : Int) + 9) 1) (697 + 38 * (c : Int) + 11) (r 0)) (697 + 38 * (c : Int) + 10) (m_num r (B ((s : Int) - 1))) := ⟨_, rfl⟩
            rw [← hG] at hS5 hB5 w1
            have hGlo : ∀ j, (j < 97 ∨ 811 ≤ j) → G j = r j := fun j hj => by rw [w1 j (by omega) (by omega) (by omega)]; exact hlo j (by omega)
            have hDC : DC (sI (sI (sI w (a + 28 + 2 * c) 11 1) (a + 28 + 2 * c) 12 (r 0)) (a + 28 + 2 * c) 13 (m_num r (B ((s : Int) - 1)))) (qa (sI (sI (sI w (a + 28 + 2 * c) 11 1) (a + 28 + 2 * c) 12 (r 0)) (a + 28 + 2 * c) 13 (m_num r (B ((s : Int) - 1)))) (a + 34) N) 0 c s (m_num r (B ((s : Int) - 1))) B := by
              rw [hfw.qaE, hfr.qaE, ← hq0]
              unfold DC
              rw [hfw.mI (by omega), hfw.mI (q := q0 + 1) (by omega)]
              exact ⟨d1, d2, d4, by rw [d5, if_neg (by omega)], fun k hk => (hBk k (by omega)).1⟩
            refine r_V0p (u := (sI (sI (sI w (a + 28 + 2 * c) 11 1) (a + 28 + 2 * c) 12 (r 0)) (a + 28 + 2 * c) 13 (m_num r (B ((s : Int) - 1))))) hC dX5_sendBatch_163 mi_X5_post se_X5_post ml_X5_174 (rm := rmX5_post) rfl hS5.o.o rfl rfl rfl rfl ⟨le_b rfl, le_b rfl⟩ (k_St_post hfC hS5 hB5 (N := N) (mn := s) (b := B) (by rw [hGlo 9 (by omega)]; exact h9N) hN2 hDC (Or.inl rfl) ⟨by omega, by omega⟩ hs8 hxr (fun k hk => by have := (hBk k hk).2; omega) (by rw [hGlo 0 (by omega), hGlo 11 (by omega)]; exact hdue) (fun m hm => by rw [way_keep (fun j hj => hGlo j (Or.inr hj)) (by omega) (by decide)]; exact (hMK m (by omega)).2.2.1.2)) ?_ rfl
            rintro _ w4 ⟨rfl, hS6, hf6⟩
            refine r_vret hC hR dX5_sendBatch_166 (le_b rfl) (le_b rfl) ?_
            refine ⟨rfl, ?_, ?_⟩
            · unfold m_relays
              rw [hrN, hrB, if_pos (by omega)]
              have e0 : m_rel0 r B c s = m_cnt2 G 0 s := by
                unfold m_rel0 m_cnt2
                rw [if_pos rfl, Int.toNat_natCast, hG]
                have z1 : (up (m_markL r B c s) (697 + 38 * (c : Int) + 9) 1) 0 = r 0 := by rw [up_n _ _ (by omega)]; exact hg0
                have z2 : m_num (up (up (m_markL r B c s) (697 + 38 * (c : Int) + 9) 1) (697 + 38 * (c : Int) + 11) (r 0)) (B ((s : Int) - 1)) = (m_num r (B ((s : Int) - 1))) := by
                  rw [hkl, num_keep (r := m_markL r B c s) (by rw [up_n _ _ (by omega), up_n _ _ (by omega)]) (by rw [up_n _ _ (by omega), up_n _ _ (by omega)]), hnum kl hklr]
                simp only [z1, z2]
                rw [up_n (k := 6) (j := 8) _ _ (by decide)]
              have e1 : m_num (m_rel0 r B c s) (B ((s : Int) - 1)) = (m_num r (B ((s : Int) - 1))) := by
                rw [e0, hkl]
                have t1 := (cnt2_at G 0 s).1
                rw [num_keep (r := r) (by rw [t1 10 (by decide) (by decide)]; exact hGlo 10 (by omega)) (by rw [t1 _ (by omega) (by omega), w1 _ (by omega) (by omega) (by omega)]; exact (hrw kl hklr).2)]
              unfold m_rel1
              rw [e1, e0]; exact hS6
            · exact (hfr.blk (fun q hq => by omega)).trans ((hfw.weak (fun q hq => by omega) (fun _ z => z.elim)).trans (hf6.weak (fun q hq => by omega) (fun q hq => hq)))
        · skip
          refine r_aload_n hC dX5_sendBatch_61 rfl ?_
          refine r_getIv (j := 4) (v := s) hC dX5_sendBatch_62 fl_X5_147 rfl rfl hMw.o d4 ?_
          refine r_aload_n hC dX5_sendBatch_65 rfl ?_
          refine r_getR (j := 0) hC dX5_sendBatch_66 fl_X5_18 rfl rfl hSw.o.o hSw.o.p0 ?_
          refine r_iconst hC dX5_sendBatch_69 ?_
          refine r_ialdv (v := r 12) hC dX5_sendBatch_70 hSw.o.a0 ⟨by omega, by omega⟩ hsw ?_
          refine r_icmp_ge (t := 134) hC dX5_sendBatch_71 (by rfl) ⟨by omega, by omega⟩ (rf_at rf _) (fun h_71 => ?_) (fun h_71 => ?_)
          · skip
            have hfin : wkG r o c K 0 0 b = (s, B) := by
              rw [← hwk]
              first | (rw [show K - i = 0 by omega]; rfl) | exact wkG_full (by omega) _ _ _
            rw [hfin] at hga
            have hrN : m_relN r b c = s := by unfold m_relN; rw [if_pos hmay, hga]
            have hrB : m_relB r b c = B := by unfold m_relB; rw [if_pos hmay, hga]
            refine r_aload_n hC dX5_sendBatch_134 rfl ?_
            refine r_getIv (j := 4) (v := s) hC dX5_sendBatch_135 fl_X5_147 rfl rfl hMw.o d4 ?_
            refine r_if_le (t := 166) hC dX5_sendBatch_138 (by rfl) ⟨by omega, by omega⟩ (fun h_138 => ?_) (fun h_138 => ?_)
            · skip
              refine r_vret hC hR dX5_sendBatch_166 (le_b rfl) (le_b rfl) ?_
              have hs0 : s = 0 := by omega
              subst hs0
              refine ⟨rfl, ?_, hfr.blk (fun q hq => by omega)⟩
              unfold m_relays
              rw [hrN, if_neg (by omega)]
              exact hSw
            · skip
              refine r_aload_n hC dX5_sendBatch_141 rfl ?_
              refine r_iconst hC dX5_sendBatch_142 ?_
              refine r_putI (j := 11) hC dX5_sendBatch_143 fl_X5_197 rfl (hSw.o.c hc).o (by rintro _ ⟨⟩; rfl) (Or.inr ⟨rfl, by first | exact Or.inl rfl | exact Or.inr rfl⟩) ?_
              refine r_aload_n hC dX5_sendBatch_146 rfl ?_
              refine r_aload_n hC dX5_sendBatch_147 rfl ?_
              refine r_getIv (j := 5) (v := r 0) hC dX5_sendBatch_148 fl_X5_51 rfl rfl hSw.o.o (by rw [up_mI_n _ _ _ (by omega), hfr.mI (by omega)]; exact hS.tick) ?_
              refine r_putI (j := 12) hC dX5_sendBatch_151 fl_X5_200 rfl (hSw.o.c hc).o (by rintro _ ⟨⟩; rfl) (Or.inl rfl) ?_
              refine r_aload_n hC dX5_sendBatch_154 rfl ?_
              refine r_aload_n hC dX5_sendBatch_155 rfl ?_
              refine r_getIv (j := 5) (v := (m_num r (B ((s : Int) - 1)))) hC dX5_sendBatch_156 fl_X5_144 rfl rfl hMw.o (by rw [up_mI_n _ _ _ (by omega), up_mI_n _ _ _ (by omega), d5, if_neg (by omega)]) ?_
              refine r_putI (j := 13) hC dX5_sendBatch_159 fl_X5_218 rfl (hSw.o.c hc).o (by rintro _ ⟨⟩; rfl) (Or.inl rfl) ?_
              refine r_aload_n hC dX5_sendBatch_162 rfl ?_
              obtain ⟨kl, hkl⟩ : ∃ kl : Nat, B ((s : Int) - 1) = kl := ⟨(B ((s : Int) - 1)).toNat, by
                have := hBk (s - 1) (by omega)
                rw [show ((s - 1 : Nat) : Int) = (s : Int) - 1 by omega] at this; omega⟩
              have hklr : (kl : Int) < r 2 := by
                have := hBk (s - 1) (by omega)
                rw [show ((s - 1 : Nat) : Int) = (s : Int) - 1 by omega] at this; omega
              have hxr : rg (m_num r (B ((s : Int) - 1))) := by rw [hkl]; exact num_rg rf hB.ro hklr
              have hx0 : 0 ≤ (m_num r (B ((s : Int) - 1))) := by rw [hkl]; exact num_pos hB.ro hklr
              have hg0 : m_markL r B c s 0 = r 0 := hlo 0 (by omega)
              obtain ⟨hS5, hB5⟩ := rs_wait hSw hBw hc hxr hx0
              rw [hg0] at hS5 hB5
              obtain ⟨w1, w9, w10, w11⟩ := wait_at hBw.rf hc hxr
              rw [hg0] at w1 w9 w10 w11
              have hfw : Fr w (sI (sI (sI w (a + 28 + 2 * c) 11 1) (a + 28 + 2 * c) 12 (r 0)) (a + 28 + 2 * c) 13 (m_num r (B ((s : Int) - 1)))) (fun q => q = a + 28 + 2 * c) (fun _ => False) := by
                refine Fr.sI (Fr.sI (Fr.sI (Fr.refl _ _ _) _ _ ?_) _ _ ?_) _ _ ?_ <;> rfl
              obtain ⟨G, hG⟩ : ∃ G, G = up (up (up (m_markL r B c s) (697 + 38 * (c : Int) + 9) 1) (697 + 38 * (c : Int) + 11) (r 0)) (697 + 38 * (c : Int) + 10) (m_num r (B ((s : Int) - 1))) := ⟨_, rfl⟩
              rw [← hG] at hS5 hB5 w1
              have hGlo : ∀ j, (j < 97 ∨ 811 ≤ j) → G j = r j := fun j hj => by rw [w1 j (by omega) (by omega) (by omega)]; exact hlo j (by omega)
              have hDC : DC (sI (sI (sI w (a + 28 + 2 * c) 11 1) (a + 28 + 2 * c) 12 (r 0)) (a + 28 + 2 * c) 13 (m_num r (B ((s : Int) - 1)))) (qa (sI (sI (sI w (a + 28 + 2 * c) 11 1) (a + 28 + 2 * c) 12 (r 0)) (a + 28 + 2 * c) 13 (m_num r (B ((s : Int) - 1)))) (a + 34) N) 0 c s (m_num r (B ((s : Int) - 1))) B := by
                rw [hfw.qaE, hfr.qaE, ← hq0]
                unfold DC
                rw [hfw.mI (by omega), hfw.mI (q := q0 + 1) (by omega)]
                exact ⟨d1, d2, d4, by rw [d5, if_neg (by omega)], fun k hk => (hBk k (by omega)).1⟩
              refine r_V0p (u := (sI (sI (sI w (a + 28 + 2 * c) 11 1) (a + 28 + 2 * c) 12 (r 0)) (a + 28 + 2 * c) 13 (m_num r (B ((s : Int) - 1))))) hC dX5_sendBatch_163 mi_X5_post se_X5_post ml_X5_174 (rm := rmX5_post) rfl hS5.o.o rfl rfl rfl rfl ⟨le_b rfl, le_b rfl⟩ (k_St_post hfC hS5 hB5 (N := N) (mn := s) (b := B) (by rw [hGlo 9 (by omega)]; exact h9N) hN2 hDC (Or.inl rfl) ⟨by omega, by omega⟩ hs8 hxr (fun k hk => by have := (hBk k hk).2; omega) (by rw [hGlo 0 (by omega), hGlo 11 (by omega)]; exact hdue) (fun m hm => by rw [way_keep (fun j hj => hGlo j (Or.inr hj)) (by omega) (by decide)]; exact (hMK m (by omega)).2.2.1.2)) ?_ rfl
              rintro _ w4 ⟨rfl, hS6, hf6⟩
              refine r_vret hC hR dX5_sendBatch_166 (le_b rfl) (le_b rfl) ?_
              refine ⟨rfl, ?_, ?_⟩
              · unfold m_relays
                rw [hrN, hrB, if_pos (by omega)]
                have e0 : m_rel0 r B c s = m_cnt2 G 0 s := by
                  unfold m_rel0 m_cnt2
                  rw [if_pos rfl, Int.toNat_natCast, hG]
                  have z1 : (up (m_markL r B c s) (697 + 38 * (c : Int) + 9) 1) 0 = r 0 := by rw [up_n _ _ (by omega)]; exact hg0
                  have z2 : m_num (up (up (m_markL r B c s) (697 + 38 * (c : Int) + 9) 1) (697 + 38 * (c : Int) + 11) (r 0)) (B ((s : Int) - 1)) = (m_num r (B ((s : Int) - 1))) := by
                    rw [hkl, num_keep (r := m_markL r B c s) (by rw [up_n _ _ (by omega), up_n _ _ (by omega)]) (by rw [up_n _ _ (by omega), up_n _ _ (by omega)]), hnum kl hklr]
                  simp only [z1, z2]
                  rw [up_n (k := 6) (j := 8) _ _ (by decide)]
                have e1 : m_num (m_rel0 r B c s) (B ((s : Int) - 1)) = (m_num r (B ((s : Int) - 1))) := by
                  rw [e0, hkl]
                  have t1 := (cnt2_at G 0 s).1
                  rw [num_keep (r := r) (by rw [t1 10 (by decide) (by decide)]; exact hGlo 10 (by omega)) (by rw [t1 _ (by omega) (by omega), w1 _ (by omega) (by omega) (by omega)]; exact (hrw kl hklr).2)]
                unfold m_rel1
                rw [e1, e0]; exact hS6
              · exact (hfr.blk (fun q hq => by omega)).trans ((hfw.weak (fun q hq => by omega) (fun _ z => z.elim)).trans (hf6.weak (fun q hq => by omega) (fun q hq => hq)))
          · skip
            refine r_aload_n hC dX5_sendBatch_74 rfl ?_
            refine r_getR (j := 2) hC dX5_sendBatch_75 fl_X5_33 rfl rfl hSw.o.o hSw.o.p2 ?_
            refine r_getR (j := 6) hC dX5_sendBatch_78 fl_X5_206 rfl rfl hSw.o.r.o hSw.o.r.p6 ?_
            refine r_iload hC dX5_sendBatch_81 rfl ?_
            refine r_ialdv (v := o i) hC dX5_sendBatch_83 hSw.o.r.a6 ⟨by omega, by omega⟩ (hord (by omega)) ?_
            refine r_istore (lv' := [_, _, _, _, _, _]) hC dX5_sendBatch_84 (lt_b rfl) rfl (lt_b rfl) rfl ?_
            refine r_aload_n hC dX5_sendBatch_86 rfl ?_
            refine r_iload hC dX5_sendBatch_87 rfl ?_
            refine r_aload_n hC dX5_sendBatch_89 rfl ?_
            refine r_V0 hC dX5_sendBatch_90 mi_X5_isFor se_X5_isFor ml_X5_209 (rm := rmX5_isFor) rfl hSw.o.o rfl rfl rfl rfl ⟨le_b rfl, le_b rfl⟩ (k_St_isFor hfC hSw hBw (k := o i) (c := c) (by rw [hlo 2 (by omega)]; exact hoi (by omega)) hc) ?_ rfl
            refine r_beq (t := 128) hC dX5_sendBatch_93 (by rfl) (fun h_93 => ?_) (fun h_93 => ?_)
            · skip
              refine r_iinc (lv' := [_, _, _, _, _, _]) hC dX5_sendBatch_128 rfl (lt_b rfl) rfl (lt_b rfl) rfl ?_
              refine r_goto (t := 49) hC dX5_sendBatch_131 (by rfl) ?_
              have hans : ¬ m_ans r (o i) c = false := by rw [← han (by omega)]; exact h_93
              refine ih _ (by omega) (i + 1) s B w _ rfl (by omega) ⟨hSw, hfr, ⟨d1, d2, d4, d5⟩, hBk, ?_, hs8⟩
              rw [← hwk, show K - i = (K - (i + 1)) + 1 by omega]
              simp only [wkG]
              rw [if_neg (fun z => hans z.2)]
            · skip
              refine r_aload_n hC dX5_sendBatch_96 rfl ?_
              refine r_iload hC dX5_sendBatch_97 rfl ?_
              refine r_aload_n hC dX5_sendBatch_99 rfl ?_
              refine r_getR (j := 2) hC dX5_sendBatch_100 fl_X5_33 rfl rfl hSw.o.o hSw.o.p2 ?_
              refine r_getR (j := 0) hC dX5_sendBatch_103 fl_X5_177 rfl rfl hSw.o.r.o hSw.o.r.p0 ?_
              refine r_iload hC dX5_sendBatch_106 rfl ?_
              refine r_ialdv (v := m_num r (o i)) hC dX5_sendBatch_108 hSw.o.r.a0 ⟨by omega, by omega⟩ (by rw [hSw.r.2.2.2.1 _ (by rw [hlo 2 (by omega)]; exact hoi (by omega)) |>.1]; exact hnum _ (hoi (by omega))) ?_
              refine r_V0v (u := w) hC dX5_sendBatch_109 mi_X1_addRow se_X1_addRow ml_X5_213 (rm := rmX1_addRow) rfl hMw.o rfl rfl rfl rfl ⟨le_b rfl, le_b rfl⟩ (k_Ms_addRow (u := w) hfC hMw (by rw [d4]; exact ⟨by omega, by omega⟩)) ?_ rfl
              rw [d4]
              refine r_aload_n hC dX5_sendBatch_112 rfl ?_
              refine r_getR (j := 2) hC dX5_sendBatch_113 fl_X5_33 rfl rfl hSw.o.o hSw.o.p2 ?_
              refine r_getR (j := 5) hC dX5_sendBatch_116 fl_X5_215 rfl rfl hSw.o.r.o hSw.o.r.p5 ?_
              refine r_iload hC dX5_sendBatch_119 rfl ?_
              refine r_dup2 hC dX5_sendBatch_121 rfl rfl ?_
              refine r_ialdv (v := (b_and (b_shr (m_markL r B c s (97 + 3 * (o i : Int) + 2)) 4) 7)) hC dX5_sendBatch_122 hSw.o.r.a5 ⟨by omega, by have := hoi (by omega); omega⟩ (by rw [up_mI_n _ _ _ (show a + 19 + 6 ≠ q0 by omega), up_mI_n _ _ _ (show a + 19 + 6 ≠ q0 by omega), up_mI_n _ _ _ (show a + 19 + 6 ≠ q0 + 1 by omega)]; exact (hSw.r.2.2.2.1 _ (by rw [hlo 2 (by omega)]; exact hoi (by omega))).2.2.2.2.2) ?_
              refine r_iconst hC dX5_sendBatch_123 ?_
              refine r_iload_n hC dX5_sendBatch_124 rfl ?_
              refine r_ishl hC dX5_sendBatch_125 ?_
              refine r_ior hC dX5_sendBatch_126 ?_
              refine r_iast hC dX5_sendBatch_127 hSw.o.r.a5 ⟨by omega, by have := hoi (by omega); omega⟩ ?_
              refine r_iinc (lv' := [_, _, _, _, _, _]) hC dX5_sendBatch_128 rfl (lt_b rfl) rfl (lt_b rfl) rfl ?_
              refine r_goto (t := 49) hC dX5_sendBatch_131 (by rfl) ?_
              have hoK := hoi (by omega)
              have hans : m_ans r (o i) c = false := by rw [← han (by omega)]; exact h_93
              have hfd : Fr w (sI (sI (sI w (q0 + 1) s (o i)) q0 4 ((s : Int) + 1)) q0 5 (m_num r (o i))) (fun q => q = q0 ∨ q = q0 + 1) (fun _ => False) := by
                refine Fr.sI (Fr.sI (Fr.sI (Fr.refl _ _ _) _ _ ?_) _ _ ?_) _ _ ?_
                · exact Or.inr rfl
                · exact Or.inl rfl
                · exact Or.inl rfl
              have hqw : q0 = qa w (a + 34) N := by rw [hfr.qaE]; exact hq0
              have hS3 := rs_draft hSw hBw (N := N) (by rw [hlo 9 (by omega)]; exact h9N) hqw hfd
              have hft : Fr (sI (sI (sI w (q0 + 1) s (o i)) q0 4 ((s : Int) + 1)) q0 5 (m_num r (o i))) (sI (sI (sI (sI w (q0 + 1) s (o i)) q0 4 ((s : Int) + 1)) q0 5 (m_num r (o i))) (a + 19 + 6) (o i) (b_or (b_and (b_shr (m_markL r B c s (97 + 3 * (o i : Int) + 2)) 4) 7) (b_shl 1 c))) (fun q => q = a + 25) (fun _ => False) := by
                refine Fr.sI (Fr.refl _ _ _) _ _ ?_; omega
              have hS4 := rs_sent (w := sI (sI (sI (sI w (q0 + 1) s (o i)) q0 4 ((s : Int) + 1)) q0 5 (m_num r (o i))) (a + 19 + 6) (o i) (b_or (b_and (b_shr (m_markL r B c s (97 + 3 * (o i : Int) + 2)) 4) 7) (b_shl 1 c))) hS3 hBw (k := o i) (c := c) (by rw [hlo 2 (by omega)]; exact hoK) hc hft (by rw [show a + 19 + 6 = a + 25 by omega, up_mI])
              have hB' : ∀ k : Nat, k < s → up B s (o i) k = B k := fun k hk => up_n _ _ (by omega)
              have hBs : up B s (o i) s = (o i : Int) := by rw [up_s, wr_id ⟨by omega, by omega⟩]
              have hml : m_markL r (up B s (o i)) c (s + 1) = m_setm (m_markL r B c s) (o i) (4 + c) := by
                simp only [m_markL]
                rw [markL_congr r c s hB', hBs]
              refine ih _ (by omega) (i + 1) (s + 1) (up B s (o i)) _ _ rfl (by omega) ⟨?_, ?_, ⟨?_, ?_, ?_, ?_⟩, fun k hk => ?_, ?_, by omega⟩
              · rw [hml]; exact hS4
              · exact hfr.trans ((hfd.weak (fun q hq => by omega) (fun _ z => z)).trans (hft.weak (fun q hq => by omega) (fun _ z => z)))
              · rw [hft.mI (by omega), mI_sI_k _ _ _ _ (by decide), mI_sI_k _ _ _ _ (by decide), mI_sI_a _ _ _ _ (by omega)]; exact d1
              · rw [hft.mI (by omega), mI_sI_k _ _ _ _ (by decide), mI_sI_k _ _ _ _ (by decide), mI_sI_a _ _ _ _ (by omega)]; exact d2
              · rw [hft.mI (by omega), mI_sI_k _ _ _ _ (by decide), mI_sI_s, wr_id ⟨by omega, by omega⟩]; omega
              · rw [hft.mI (by omega), mI_sI_s, if_neg (by omega), show (((s + 1 : Nat) : Int) - 1) = (s : Int) by omega, hBs]
                exact wr_id (num_rg rf hB.ro hoK)
              · rw [hft.mI (by omega), mI_sI_a _ _ _ _ (by omega), mI_sI_a _ _ _ _ (by omega), mI_sI]
                by_cases e : k = s
                · subst e; rw [if_pos ⟨rfl, rfl⟩, hBs, wr_id ⟨by omega, by omega⟩]; exact ⟨rfl, by omega, hoK⟩
                · rw [if_neg (fun z => e (by omega)), hB' k (by omega)]; exact hBk k (by omega)
              · rw [← hwk, show K - i = (K - (i + 1)) + 1 by omega]
                simp only [wkG]
                rw [if_pos ⟨by omega, hans⟩]
    refine r_aload_n hC dX5_sendBatch_33 rfl ?_
    refine r_getR (j := 4) hC dX5_sendBatch_34 fl_X5_47 rfl rfl hS.o.o hS.o.p4 ?_
    refine r_V0 hC dX5_sendBatch_37 mi_X0_draft se_X0_draft ml_X5_166 (rm := rmX0_draft) rfl hS.o.l.o rfl rfl rfl rfl ⟨le_b rfl, le_b rfl⟩ (k_Ma_draft hfC hS.o.l (by rw [hS.l.1, h9N]; exact ⟨by omega, by omega⟩)) ?_ rfl
    rw [hS.l.1, h9N, ← hq0]
    refine r_astore_n (lv' := [_, _, _, _, _, _]) hC dX5_sendBatch_40 (lt_b rfl) rfl (lt_b rfl) rfl ?_
    refine r_aload_n hC dX5_sendBatch_41 rfl ?_
    refine r_iload_n hC dX5_sendBatch_42 rfl ?_
    refine r_V0v hC dX5_sendBatch_43 mi_X1_becomeBatch se_X1_becomeBatch ml_X5_203 (rm := rmX1_becomeBatch) rfl hMq.o rfl rfl rfl rfl ⟨le_b rfl, le_b rfl⟩ (k_Ms_batch hfC hMq) ?_ rfl
    refine r_iconst hC dX5_sendBatch_46 ?_
    refine r_istore (lv' := [_, _, _, _, _, _]) hC dX5_sendBatch_47 (lt_b rfl) rfl (lt_b rfl) rfl ?_
    have hfb : Fr u (sI (sI (sI (sI u q0 1 0) q0 2 c) q0 4 0) q0 5 (-1)) (fun q => q = q0 ∨ q = q0 + 1) (fun _ => False) := by
      refine Fr.sI (Fr.sI (Fr.sI (Fr.sI (Fr.refl _ _ _) _ _ ?_) _ _ ?_) _ _ ?_) _ _ ?_ <;> exact Or.inl rfl
    have hSb := rs_draft hS hB h9N hq0 hfb
    refine lp _ 0 0 b (sI (sI (sI (sI u q0 1 0) q0 2 c) q0 4 0) q0 5 (-1)) _ rfl (by omega) ⟨hSb, hfb.weak (fun q hq => by omega) (fun _ z => z), ⟨?_, ?_, ?_, ?_⟩, fun k hk => by omega, rfl, by omega⟩
    · rw [mI_sI_k _ _ _ _ (by decide), mI_sI_k _ _ _ _ (by decide), mI_sI_k _ _ _ _ (by decide), mI_sI_s]; rfl
    · rw [mI_sI_k _ _ _ _ (by decide), mI_sI_k _ _ _ _ (by decide), mI_sI_s, wr_id ⟨by omega, by omega⟩]
    · rw [mI_sI_k _ _ _ _ (by decide), mI_sI_s]; rfl
    · rw [mI_sI_s, if_pos rfl]; rfl
  refine r_aload_n hC dX5_sendBatch_0 rfl ?_
  refine r_getR (j := 3) hC dX5_sendBatch_1 fl_X5_39 rfl rfl hS.o.o hS.o.p3 ?_
  refine r_iload_n hC dX5_sendBatch_4 rfl ?_
  refine r_aald hC dX5_sendBatch_5 hS.o.a3 (le_b rfl) (lt_b rfl) ⟨by omega, by omega⟩ (hS.o.pc hc) ?_
  refine r_astore_n (lv' := [_, _, _, _, _, _]) hC dX5_sendBatch_6 (lt_b rfl) rfl (lt_b rfl) rfl ?_
  refine r_aload_n hC dX5_sendBatch_7 rfl ?_
  refine r_getIv (j := 11) (v := m_of r c 9) hC dX5_sendBatch_8 fl_X5_197 rfl rfl (hS.o.c hc).o hc2.2.2.2.2.2.2.2.2.2.2.1 ?_
  refine r_if_eq (t := 33) hC dX5_sendBatch_11 (by rfl) (rg_of rf _ _) (fun h_11 => ?_) (fun h_11 => ?_)
  · skip
    first | exact k33 (by unfold m_may; rw [decide_eq_true h_11]; rfl) | exact k33 (by unfold m_may; rw [decide_eq_true (show r 13 ≤ r 0 - m_of r c 11 from h_29)]; exact Bool.or_true _)
  · skip
    refine r_aload_n hC dX5_sendBatch_14 rfl ?_
    refine r_getIv (j := 5) (v := r 0) hC dX5_sendBatch_15 fl_X5_51 rfl rfl hS.o.o hS.tick ?_
    refine r_aload_n hC dX5_sendBatch_18 rfl ?_
    refine r_getIv (j := 12) (v := m_of r c 11) hC dX5_sendBatch_19 fl_X5_200 rfl rfl (hS.o.c hc).o hc2.2.2.2.2.2.2.2.2.2.2.2.1 ?_
    refine r_isub hC dX5_sendBatch_22 ?_
    refine r_aload_n hC dX5_sendBatch_23 rfl ?_
    refine r_getR (j := 0) hC dX5_sendBatch_24 fl_X5_18 rfl rfl hS.o.o hS.o.p0 ?_
    refine r_iconst hC dX5_sendBatch_27 ?_
    refine r_ialdv (v := r 13) hC dX5_sendBatch_28 hS.o.a0 ⟨by omega, by omega⟩ (hS.set (i := 3) (by decide)) ?_
    refine r_icmp_ge (t := 33) hC dX5_sendBatch_29 (by rfl) ⟨by omega, by omega⟩ (rf_at rf _) (fun h_29 => ?_) (fun h_29 => ?_)
    · skip
      first | exact k33 (by unfold m_may; rw [decide_eq_true h_11]; rfl) | exact k33 (by unfold m_may; rw [decide_eq_true (show r 13 ≤ r 0 - m_of r c 11 from h_29)]; exact Bool.or_true _)
    · skip
      refine r_vret hC hR dX5_sendBatch_32 (le_b rfl) (le_b rfl) ?_
      refine ⟨rfl, ?_, Blk.refl _ _⟩
      have hm : m_may r c = false := by unfold m_may; rw [decide_eq_false h_11, decide_eq_false (show ¬ r 13 ≤ r 0 - m_of r c 11 from h_29)]; rfl
      unfold m_relays m_relN
      rw [hm, if_neg (by simp)]; exact hS
