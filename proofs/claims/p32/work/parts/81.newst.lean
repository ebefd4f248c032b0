/-! a new state -/
/-- below lo only the pointer q, k may differ -/
def Ext (w w' : Mem) (lo q : Nat) (k : Int) : Prop := ∀ a, a < lo → mSh w' a = mSh w a ∧ mI w' a = mI w a ∧ ∀ j, (a ≠ q ∨ j ≠ k) → mP w' a j = mP w a j
theorem ext_arr (w : Mem) (sh : Option (Nat ⊕ (Nat × Nat))) (q : Nat) (k : Int) (v : Option Nat) : Ext w (sP (nC w sh) q k v) (mN w) q k := fun a ha => by
  refine ⟨?_, ?_, fun j hj => ?_⟩
  · rw [mSh_sP, mSh_nC, if_neg (by omega)]
  · rw [mI_sP]; funext j; rw [mI_nC, if_neg (by omega)]
  · rw [mP_sP, if_neg (by omega), mP_nC, if_neg (by omega)]
theorem ext_obj {w w2 : Mem} {sh : Option (Nat ⊕ (Nat × Nat))} (h : Bel (nC w sh) w2 (mN w)) (q : Nat) (k : Int) (v : Option Nat) : Ext w (sP w2 q k v) (mN w) q k := fun a ha => by
  obtain ⟨a1, a2, a3, -⟩ := h a ha
  refine ⟨?_, ?_, fun j hj => ?_⟩
  · rw [mSh_sP, a1, mSh_nC, if_neg (by omega)]
  · rw [mI_sP, a2]; funext j; rw [mI_nC, if_neg (by omega)]
  · rw [mP_sP, if_neg (by omega), a3, mP_nC, if_neg (by omega)]
theorem Ext.tr {w w' : Mem} {lo q a : Nat} {k : Int} (h : Ext w w' lo q k) (hO : TrO w a) (hl : a + 4 ≤ lo) (hq : a ≠ q) : TrO w' a := by
  obtain ⟨h1, ⟨h2, h3⟩, ⟨h4, h5⟩, h6, h7⟩ := hO
  have e := h a (by omega)
  exact ⟨e.1.trans h1, ⟨(e.2.2 0 (Or.inl hq)).trans h2, (h (a + 1) (by omega)).1.trans h3⟩, ⟨(e.2.2 1 (Or.inl hq)).trans h4, (h (a + 2) (by omega)).1.trans h5⟩, (e.2.2 2 (Or.inl hq)).trans h6, (h (a + 3) (by omega)).1.trans h7⟩
theorem Ext.re {w w' : Mem} {lo q a : Nat} {k : Int} (h : Ext w w' lo q k) (hO : ReO w a) (hl : a + 2 ≤ lo) (hq : a ≠ q) : ReO w' a := by
  obtain ⟨h1, h2, h3⟩ := hO
  have e := h a (by omega)
  exact ⟨e.1.trans h1, (e.2.2 0 (Or.inl hq)).trans h2, (h (a + 1) (by omega)).1.trans h3⟩
theorem Ext.ro {w w' : Mem} {lo q a : Nat} {k : Int} (h : Ext w w' lo q k) (hO : RoO w a) (hl : a + 8 ≤ lo) (hq : a ≠ q) : RoO w' a := by
  obtain ⟨h1, ⟨p0, s0⟩, ⟨p1, s1⟩, ⟨p2, s2⟩, ⟨p3, s3⟩, ⟨p4, s4⟩, ⟨p5, s5⟩, p6, s6⟩ := hO
  have e := h a (by omega)
  exact ⟨e.1.trans h1, ⟨(e.2.2 0 (Or.inl hq)).trans p0, (h (a + 1) (by omega)).1.trans s0⟩, ⟨(e.2.2 1 (Or.inl hq)).trans p1, (h (a + 2) (by omega)).1.trans s1⟩, ⟨(e.2.2 2 (Or.inl hq)).trans p2, (h (a + 3) (by omega)).1.trans s2⟩, ⟨(e.2.2 3 (Or.inl hq)).trans p3, (h (a + 4) (by omega)).1.trans s3⟩, ⟨(e.2.2 4 (Or.inl hq)).trans p4, (h (a + 5) (by omega)).1.trans s4⟩, ⟨(e.2.2 5 (Or.inl hq)).trans p5, (h (a + 6) (by omega)).1.trans s5⟩, (e.2.2 6 (Or.inl hq)).trans p6, (h (a + 7) (by omega)).1.trans s6⟩
def re0 : RW := (up (up (up (up (up (up (up (up (up (up (up (up (up (fun _ => 0) 1 0) 2 15) 3 (-1)) 4 0) 5 0) 6 0) 7 0) 8 0) 9 0) 10 (-1)) 11 0) 12 0) 13 (-1))
def tr0 : RW := (up (up (fun _ => 0) 3 0) 4 0)
def ro0 : RW := (up (up (up (fun _ => 0) 7 0) 8 0) 9 0)
/-- how far the new state at b is: its arrays, n places, the rows, d receivers -/
def ZS (b : Nat) (w : Mem) : Prop := mSh w b = some (.inl 5) ∧ (mI w b = fun _ => 0) ∧ mP w b 0 = some (b + 1) ∧ mSh w (b + 1) = some (.inr (0, 7)) ∧ ∀ i : Nat, i < 7 → mI w (b + 1) i = m_row0 (10 + i)
def ZT (b n : Nat) (w : Mem) : Prop := mP w b 1 = some (b + 2) ∧ mSh w (b + 2) = some (.inr (3, 4)) ∧ ∀ p : Nat, p < n → mP w (b + 2) p = some (b + 3 + 4 * p) ∧ TrO w (b + 3 + 4 * p) ∧ mI w (b + 3 + 4 * p) = tr0
def ZR (b : Nat) (w : Mem) : Prop := mP w b 2 = some (b + 19) ∧ RoO w (b + 19) ∧ mI w (b + 19) = ro0
def ZC (b n : Nat) (w : Mem) : Prop := mP w b 3 = some (b + 27) ∧ mSh w (b + 27) = some (.inr (4, 3)) ∧ ∀ i : Nat, i < n → mP w (b + 27) i = some (b + 28 + 2 * i) ∧ ReO w (b + 28 + 2 * i) ∧ mI w (b + 28 + 2 * i) = re0
theorem ZS.ext {b lo q : Nat} {k : Int} {w w' : Mem} (h : ZS b w) (e : Ext w w' lo q k) (hl : b + 2 ≤ lo) (hq : q ≠ b ∨ k ≠ 0) : ZS b w' := by
  obtain ⟨h1, h2, h3, h4, h5⟩ := h
  have e0 := e b (by omega)
  have e1 := e (b + 1) (by omega)
  exact ⟨e0.1.trans h1, e0.2.1.trans h2, (e0.2.2 0 (by omega)).trans h3, e1.1.trans h4, fun i hi => by rw [e1.2.1]; exact h5 i hi⟩
theorem ZT.ext {b n lo q : Nat} {k : Int} {w w' : Mem} (h : ZT b n w) (e : Ext w w' lo q k) (hl : b + 3 + 4 * n ≤ lo) (hq : (q = b ∧ k ≠ 1) ∨ (q = b + 2 ∧ (n : Int) ≤ k) ∨ b + 19 ≤ q) (hn : n ≤ 4) : ZT b n w' := by
  obtain ⟨h1, h2, h3⟩ := h
  have e0 := e b (by omega)
  have e2 := e (b + 2) (by omega)
  refine ⟨(e0.2.2 1 (by omega)).trans h1, e2.1.trans h2, fun p hp => ?_⟩
  obtain ⟨a1, a2, a3⟩ := h3 p hp
  exact ⟨(e2.2.2 p (by omega)).trans a1, e.tr a2 (by omega) (by omega), (e _ (by omega)).2.1.trans a3⟩
theorem ZR.ext {b lo q : Nat} {k : Int} {w w' : Mem} (h : ZR b w) (e : Ext w w' lo q k) (hl : b + 27 ≤ lo) (hq : (q = b ∧ k ≠ 2) ∨ b + 27 ≤ q) : ZR b w' := by
  obtain ⟨h1, h2, h3⟩ := h
  have e0 := e b (by omega)
  exact ⟨(e0.2.2 2 (by omega)).trans h1, e.ro h2 (by omega) (by omega), (e _ (by omega)).2.1.trans h3⟩
theorem ZC.ext {b n lo q : Nat} {k : Int} {w w' : Mem} (h : ZC b n w) (e : Ext w w' lo q k) (hl : b + 28 + 2 * n ≤ lo) (hq : (q = b ∧ k ≠ 3) ∨ (q = b + 27 ∧ (n : Int) ≤ k)) : ZC b n w' := by
  obtain ⟨h1, h2, h3⟩ := h
  have e0 := e b (by omega)
  have e2 := e (b + 27) (by omega)
  refine ⟨(e0.2.2 3 (by omega)).trans h1, e2.1.trans h2, fun p hp => ?_⟩
  obtain ⟨a1, a2, a3⟩ := h3 p hp
  exact ⟨(e2.2.2 p (by omega)).trans a1, e.re a2 (by omega) (by omega), (e _ (by omega)).2.1.trans a3⟩
set_option maxRecDepth 100000 in
theorem re0_is : re0 1 = 0 ∧ re0 2 = 15 ∧ re0 3 = -1 ∧ re0 4 = 0 ∧ re0 5 = 0 ∧ re0 6 = 0 ∧ re0 7 = 0 ∧ re0 8 = 0 ∧ re0 9 = 0 ∧ re0 10 = -1 ∧ re0 11 = 0 ∧ re0 12 = 0 ∧ re0 13 = -1 := by decide +kernel
set_option maxRecDepth 100000 in
theorem row0_7 : m_row0 7 = 0 := by decide +kernel
/-- all together -/
theorem zs_rs {b : Nat} {u w1 : Mem} {w : Mem} (hs : ZS b w) (ht : ZT b 4 w) (hr : ZR b w) (hc : ZC b 3 w) (hp : mP w b 4 = some (b + 34)) (hm : MaO w (b + 34)) (hz : ∀ j : Int, mI w (b + 34) j = 0) : RS w b m_row0 := by
  obtain ⟨s1, s2, s3, s4, s5⟩ := hs
  obtain ⟨t1, t2, t3⟩ := ht
  obtain ⟨r1, r2, r3⟩ := hr
  obtain ⟨c1, c2, c3⟩ := hc
  obtain ⟨⟨z0, z1, z2, z3, z4, z5, z6, z8, z9⟩, -⟩ := row0_few
  have hi := fun (p : Nat) (hp : p < 4) => row0_its ⟨p, hp⟩
  have ho := fun (c : Nat) (hc : c < 3) => row0_of ⟨c, hc⟩
  obtain ⟨x1, x2, x3, x4, x5, x6, x7, x8, x9, x10, x11, x12, x13⟩ := re0_is
  have hk : m_kept m_row0 = 0 := by unfold m_kept; omega
  refine ⟨⟨s1, ⟨s3, s4⟩, ⟨t1, t2⟩, fun p hp => ⟨(t3 p hp).1, (t3 p hp).2.1⟩, ⟨r1, r2⟩, ⟨c1, c2⟩, fun i hi => ⟨(c3 i hi).1, (c3 i hi).2.1⟩, hp, hm⟩, ⟨by rw [s2, z0], by rw [s2, z1]⟩, s5, fun p hp => ?_, ?_, fun c hc => ?_, ?_⟩
  · have := hi p hp
    dsimp only at this
    have e := (t3 p hp).2.2
    refine ⟨by rw [e, this.1]; rfl, by rw [e, this.2]; rfl, fun i hi' => by omega⟩
  · refine ⟨by rw [r3, z2]; rfl, by rw [r3, hk]; rfl, by rw [r3, z3]; rfl, fun k hk' => by omega, fun _ => 0, ?_, fun j hj => by rw [hk] at hj; exact absurd hj (by simp)⟩
    rw [hk]
    exact ⟨fun j hj => absurd hj (by simp), fun i j _ hj => absurd hj (by simp), fun k hk' => by omega⟩
  · obtain ⟨a0, a1, a2, a3, a4, a5, a6, a7, a8, a9, a10, a11, a12⟩ := ho c hc
    dsimp only at a0 a1 a2 a3 a4 a5 a6 a7 a8 a9 a10 a11 a12
    have e := (c3 c hc).2.2
    unfold RSc
    rw [e, a0, a1, a2, a3, a4, a5, a6, a7, a8, a9, a10, a11, a12]
    exact ⟨x1, x2, x3, x4, x5, x6, x7, x8, x9, x10, x11, x12, Or.inr ⟨x13, rfl⟩, fun j hj => by omega⟩
  · refine ⟨by rw [hz, z9], by rw [hz, z4], by rw [hz, z5], by rw [hz, z6], by rw [hz, z8], by rw [hz, row0_7], fun _ => 0, ?_, fun j hj => by omega⟩
    exact ⟨fun j hj => by omega, fun m hm => by omega, fun i j _ hj => by omega⟩
abbrev rmX5_init : Room := { frames := 3, cells := 145, slots := 2313, locals := 53 }
set_option maxRecDepth 100000 in
theorem n_St {l : Launch} {D : DD} (hfl : l.stackTraces = false) {u : Mem} {b sa : Nat} (hNu : mN u = b + 1) (hsu : mSh u b = some (.inl 5)) (hzu : mI u b = fun _ => 0) (hsa : sa = D.2.2.2.2 0) (hss : mSh u sa = some (.inr (9, 7))) (hsv : ∀ i : Nat, i < 7 → mI u sa i = m_row0 (10 + i)) : CT l D yX5_init cX5_init 2 none rmX5_init [xA b] u (fun x w => x = none ∧ mN w = b + 146 ∧ Bel u w b ∧ RS w b m_row0) := by
  refine CT.of hfl (by decide) (le_b rfl) ?_
  intro C hC hR hL hDD hN
  have hfC : (cxL C).stackTraces = false := by rw [hL]; exact hfl
  have lq : ∀ (n d : Nat) (w : Mem), 3 - d = n → d ≤ 3 → mN w = b + 28 + 2 * d → Bel u w b → ZS b w → ZT b 4 w → ZR b w → ZC b d w → VW C 72 [some (xA b), some (xI d)] [] w (27 + 2 * d) (1376 + 35 * d) := by
    intro n
    induction n using Nat.strongRecOn with
    | _ n iq =>
      intro d w hn hd hmN hB hZ ht hr hc
      refine r_iload_n hC dX5_init_72 rfl ?_
      refine r_iconst hC dX5_init_73 ?_
      refine r_icmp_ge (t := 96) hC dX5_init_74 (by rfl) ⟨by omega, by omega⟩ ⟨by omega, by omega⟩ (fun h_74 => ?_) (fun h_74 => ?_)
      · skip
        have hd3 : d = 3 := by omega
        subst hd3
        refine r_aload_n hC dX5_init_96 rfl ?_
        refine r_new (ci := 0) hC dX5_init_97 rfl cl_X5_44 cn_X0 cz_X0 (le_b rfl) (le_b rfl) (fun _ => ?_)
        refine r_dup hC dX5_init_100 rfl ?_
        refine r_callI (as := []) (a := mN w) hC dX5_init_101 mi_X0_init si_X0_init rfl ml_X5_46 (rm := rmX0_init) ⟨le_b rfl, le_b rfl⟩ rfl (le_b rfl) (le_b rfl) (le_b rfl) (n_Ma hfC (u := nC w (some (.inl 0))) (b := mN w) rfl (by rw [mSh_nC, if_pos rfl]) (by funext j; rw [mI_nC, if_pos rfl])) ?_ rfl
        rintro _ w3 ⟨rfl, m1, m2, m3, m4, -, -⟩
        have E3 := ext_obj m2 b 4 (some (mN w))
        refine r_putR (j := 4) (ci := 5) hC dX5_init_104 fl_X5_47 rfl (by rw [(m2 b (by omega)).1, mSh_nC, if_neg (by omega)]; exact hZ.1) (Or.inr ⟨by rintro _ ⟨⟩; exact ⟨rfl, rfl⟩, hN⟩) rfl ?_
        have B3 : Bel u (sP w3 b 4 (some (mN w))) b := ((hB.nC (by omega) _).trans m2 (by omega)).sP (by omega) _ _
        have n3 : mN (sP w3 b 4 (some (mN w))) = b + 146 := by rw [mN_sP, m1]; omega
        have t3 := ht.ext E3 (by omega) (Or.inl ⟨rfl, by decide⟩) (by omega)
        have Z3 := hZ.ext E3 (by omega) (Or.inr (by decide))
        have r3 := hr.ext E3 (by omega) (Or.inl ⟨rfl, by decide⟩)
        have c3 := hc.ext E3 (by omega) (Or.inl ⟨rfl, by decide⟩)
        have p3 : mP (sP w3 b 4 (some (mN w))) b 4 = some (b + 34) := by rw [mP_sP_s]; exact congrArg some (by omega)
        have hmm : MaO (sP w3 b 4 (some (mN w))) (b + 34) := by
          have hmN : b + 34 = mN w := by omega
          rw [hmN]
          refine m3.fr rfl ?_ ?_ ?_
          · funext j; exact mP_sP_a _ _ _ _ (by omega)
          · funext j; exact mP_sP_a _ _ _ _ (by omega)
          · intro t ht'; funext j; exact mP_sP_a _ _ _ _ (by omega)
        have hmz : ∀ j : Int, mI (sP w3 b 4 (some (mN w))) (b + 34) j = 0 := fun j => by
          rw [mI_sP, show b + 34 = mN w by omega]; exact m4 j
        generalize sP w3 b 4 (some (mN w)) = w4 at E3 B3 n3 t3 Z3 r3 c3 p3 hmm hmz
        refine r_aload_n hC dX5_init_107 rfl ?_
        refine r_iconst hC dX5_init_108 ?_
        refine r_putI (j := 5) hC dX5_init_109 fl_X5_51 rfl Z3.1 (by rintro _ ⟨⟩; rfl) (Or.inl rfl) ?_
        refine r_aload_n hC dX5_init_112 rfl ?_
        refine r_iconst hC dX5_init_113 ?_
        refine r_putI (j := 6) hC dX5_init_114 fl_X5_55 rfl Z3.1 (by rintro _ ⟨⟩; rfl) (Or.inl rfl) ?_
        refine r_vret hC hR dX5_init_117 (le_b rfl) (le_b rfl) ?_
        refine ⟨rfl, n3, (B3.sI (Nat.le_refl b) _ _).sI (Nat.le_refl b) _ _, ?_⟩
        have hq : ∀ q, q ≠ b → mI (sI (sI w4 b 5 0) b 6 0) q = mI w4 q := fun q hq => by rw [up_mI_n _ _ _ hq, up_mI_n _ _ _ hq]
        have hb0 : mI (sI (sI w4 b 5 0) b 6 0) b = fun _ => 0 := by
          rw [up_mI, up_mI, Z3.2.1]; funext j; unfold up; (repeat' split) <;> rfl
        refine zs_rs (u := u) (w1 := u) ⟨Z3.1, hb0, Z3.2.2.1, Z3.2.2.2.1, fun i hi => by rw [hq _ (by omega)]; exact Z3.2.2.2.2 i hi⟩ ⟨t3.1, t3.2.1, fun p hp => ?_⟩ ⟨r3.1, r3.2.1, by rw [hq _ (by omega)]; exact r3.2.2⟩ ⟨c3.1, c3.2.1, fun i hi => ?_⟩ p3 hmm (fun j => by rw [hq _ (by omega)]; exact hmz j)
        · obtain ⟨a1, a2, a3⟩ := t3.2.2 p hp
          exact ⟨a1, a2, by rw [hq _ (by omega)]; exact a3⟩
        · obtain ⟨a1, a2, a3⟩ := c3.2.2 i hi
          exact ⟨a1, a2, by rw [hq _ (by omega)]; exact a3⟩
      · skip
        refine r_aload_n hC dX5_init_77 rfl ?_
        refine r_getR (j := 3) hC dX5_init_78 fl_X5_39 rfl rfl hZ.1 hc.1 ?_
        refine r_iload_n hC dX5_init_81 rfl ?_
        refine r_new (ci := 3) hC dX5_init_82 rfl cl_X5_37 cn_X3 cz_X3 (show 27 + 2 * d + 1 ≤ 145 by omega) (show 1376 + 35 * d + 14 ≤ 2313 by omega) (fun _ => ?_)
        refine r_dup hC dX5_init_85 rfl ?_
        refine r_callI (as := []) (a := mN w) hC dX5_init_86 mi_X3_init si_X3_init rfl ml_X5_43 (rm := rmX3_init) ⟨le_b rfl, le_b rfl⟩ rfl (le_b rfl) (show 27 + 2 * d + 1 + 1 ≤ 145 by omega) (show 1376 + 35 * d + 14 + 21 ≤ 2313 by omega) (n_Re hfC (u := nC w (some (.inl 3))) (b := mN w) rfl (by rw [mSh_nC, if_pos rfl]) (by funext j; rw [mI_nC, if_pos rfl])) ?_ rfl
        rintro _ w3 ⟨rfl, m1, m2, m3, m4, -⟩
        have E3 := ext_obj m2 (b + 27) d (some (mN w))
        refine r_aast hC dX5_init_89 (by rw [(m2 (b + 27) (by omega)).1, mSh_nC, if_neg (by omega)]; exact hc.2.1) (le_b rfl) (lt_b rfl) m3.o rfl rfl ⟨by omega, by omega⟩ ?_
        have B3 : Bel u (sP w3 (b + 27) d (some (mN w))) b := ((hB.nC (by omega) _).trans m2 (by omega)).sP (by omega) _ _
        have n3 : mN (sP w3 (b + 27) d (some (mN w))) = b + 28 + 2 * (d + 1) := by rw [mN_sP, m1]; omega
        have c3 : ZC b (d + 1) (sP w3 (b + 27) d (some (mN w))) := by
          have h0 := hc.ext E3 (by omega) (Or.inr ⟨rfl, Int.le_refl _⟩)
          refine ⟨h0.1, h0.2.1, fun i hi' => ?_⟩
          by_cases y : i = d
          · subst y
            rw [show b + 28 + 2 * i = mN w by omega]
            refine ⟨mP_sP_s _ _ _ _, ?_, m4⟩
            have hne : mN w ≠ b + 27 := by omega
            obtain ⟨g1, g2, g3⟩ := m3
            exact ⟨g1, by rw [mP_sP_a _ _ _ _ hne]; exact g2, g3⟩
          · exact h0.2.2 i (by omega)
        have t3 := ht.ext E3 (by omega) (Or.inr (Or.inr (by omega))) (by omega)
        have Z3 := hZ.ext E3 (by omega) (Or.inl (by omega))
        have r3 := hr.ext E3 (by omega) (Or.inr (by omega))
        generalize sP w3 (b + 27) d (some (mN w)) = w4 at E3 B3 n3 t3 Z3 r3 c3
        refine r_iinc (lv' := [_, _]) hC dX5_init_90 rfl (lt_b rfl) rfl (lt_b rfl) rfl ?_
        refine r_goto (t := 72) hC dX5_init_93 (by rfl) ?_
        have := iq _ (by omega) (d + 1) w4 rfl (by omega) n3 B3 Z3 t3 r3 c3
        rw [show 27 + 2 * (d + 1) = 27 + 2 * d + 1 + 1 by omega, show 1376 + 35 * (d + 1) = 1376 + 35 * d + 14 + 21 by omega] at this
        exact this
  have lp : ∀ (n p : Nat) (w : Mem), 4 - p = n → p ≤ 4 → mN w = b + 3 + 4 * p → Bel u w b → ZS b w → ZT b p w → VW C 27 [some (xA b), some (xI p)] [] w (2 + 4 * p) (11 + 23 * p) := by
    intro n
    induction n using Nat.strongRecOn with
    | _ n ih =>
      intro p w hn hp hmN hB hZ ht
      refine r_iload_n hC dX5_init_27 rfl ?_
      refine r_iconst hC dX5_init_28 ?_
      refine r_icmp_ge (t := 51) hC dX5_init_29 (by rfl) ⟨by omega, by omega⟩ ⟨by omega, by omega⟩ (fun h_29 => ?_) (fun h_29 => ?_)
      · skip
        have hp4 : p = 4 := by omega
        subst hp4
        refine r_aload_n hC dX5_init_51 rfl ?_
        refine r_new (ci := 4) hC dX5_init_52 rfl cl_X5_30 cn_X4 cz_X4 (le_b rfl) (le_b rfl) (fun _ => ?_)
        refine r_dup hC dX5_init_55 rfl ?_
        refine r_callI (as := []) (a := mN w) hC dX5_init_56 mi_X4_init si_X4_init rfl ml_X5_32 (rm := rmX4_init) ⟨le_b rfl, le_b rfl⟩ rfl (le_b rfl) (le_b rfl) (le_b rfl) (n_Ro hfC (u := nC w (some (.inl 4))) (b := mN w) rfl (by rw [mSh_nC, if_pos rfl]) (by funext j; rw [mI_nC, if_pos rfl])) ?_ rfl
        rintro _ w3 ⟨rfl, m1, m2, m3, m4, -⟩
        have E3 := ext_obj m2 b 2 (some (mN w))
        refine r_putR (j := 2) (ci := 5) hC dX5_init_59 fl_X5_33 rfl (by rw [(m2 b (by omega)).1, mSh_nC, if_neg (by omega)]; exact hZ.1) (Or.inr ⟨by rintro _ ⟨⟩; exact ⟨rfl, rfl⟩, hN⟩) rfl ?_
        have B3 : Bel u (sP w3 b 2 (some (mN w))) b := ((hB.nC (by omega) _).trans m2 (by omega)).sP (by omega) _ _
        have n3 : mN (sP w3 b 2 (some (mN w))) = b + 27 := by rw [mN_sP, m1]; omega
        have t3 := ht.ext E3 (by omega) (Or.inl ⟨rfl, by decide⟩) (by omega)
        have Z3 := hZ.ext E3 (by omega) (Or.inr (by decide))
        have r3 : ZR b (sP w3 b 2 (some (mN w))) := by
          refine ⟨by rw [mP_sP_s]; exact congrArg some (by omega), ?_, ?_⟩
          · have hne : mN w ≠ b := by omega
            rw [show b + 19 = mN w by omega]
            obtain ⟨h1, ⟨p0, s0⟩, ⟨p1, s1⟩, ⟨p2, s2⟩, ⟨p3, s3⟩, ⟨p4, s4⟩, ⟨p5, s5⟩, p6, s6⟩ := m3
            exact ⟨h1, ⟨by rw [mP_sP_a _ _ _ _ hne]; exact p0, s0⟩, ⟨by rw [mP_sP_a _ _ _ _ hne]; exact p1, s1⟩, ⟨by rw [mP_sP_a _ _ _ _ hne]; exact p2, s2⟩, ⟨by rw [mP_sP_a _ _ _ _ hne]; exact p3, s3⟩, ⟨by rw [mP_sP_a _ _ _ _ hne]; exact p4, s4⟩, ⟨by rw [mP_sP_a _ _ _ _ hne]; exact p5, s5⟩, by rw [mP_sP_a _ _ _ _ hne]; exact p6, s6⟩
          · rw [show b + 19 = mN w by omega]; exact m4
        generalize sP w3 b 2 (some (mN w)) = w4 at E3 B3 n3 t3 Z3 r3
        refine r_aload_n hC dX5_init_62 rfl ?_
        refine r_iconst hC dX5_init_63 ?_
        refine r_anewarr (n := 3) (ty := 4) (nm := RX3) hC dX5_init_64 (le_b rfl) (lt_b rfl) rfl rfl (le_b rfl) (le_b rfl) (le_b rfl) cl_X5_37 (by simp) (fun _ => ?_)
        refine r_putR (j := 3) (ci := 5) hC dX5_init_67 fl_X5_39 rfl (by rw [mSh_nC, if_neg (by omega)]; exact Z3.1) (Or.inr ⟨by rintro _ ⟨⟩; exact ⟨rfl, rfl⟩, hN⟩) rfl ?_
        have E5 := ext_arr w4 (some (.inr (4, 3))) b 3 (some (mN w4))
        have B5 : Bel u (sP (nC w4 (some (.inr (4, 3)))) b 3 (some (mN w4))) b := (B3.nC (by omega) _).sP (Nat.le_refl b) _ _
        have n5 : mN (sP (nC w4 (some (.inr (4, 3)))) b 3 (some (mN w4))) = b + 28 + 2 * 0 := by rw [mN_sP, mN_nC]; omega
        have c5 : ZC b 0 (sP (nC w4 (some (.inr (4, 3)))) b 3 (some (mN w4))) := ⟨by rw [mP_sP_s, n3], by rw [mSh_sP, mSh_nC, if_pos n3.symm], fun p hp => by omega⟩
        have t5 := t3.ext E5 (by omega) (Or.inl ⟨rfl, by decide⟩) (by omega)
        have Z5 := Z3.ext E5 (by omega) (Or.inr (by decide))
        have r5 := r3.ext E5 (by omega) (Or.inl ⟨rfl, by decide⟩)
        generalize sP (nC w4 (some (.inr (4, 3)))) b 3 (some (mN w4)) = w5 at E5 B5 n5 c5 t5 Z5 r5
        refine r_iconst hC dX5_init_70 ?_
        refine r_istore_n (lv' := [_, _]) hC dX5_init_71 (lt_b rfl) rfl (lt_b rfl) rfl ?_
        exact lq _ 0 w5 rfl (by omega) n5 B5 Z5 t5 r5 c5
      · skip
        refine r_aload_n hC dX5_init_32 rfl ?_
        refine r_getR (j := 1) hC dX5_init_33 fl_X5_25 rfl rfl hZ.1 ht.1 ?_
        refine r_iload_n hC dX5_init_36 rfl ?_
        refine r_new (ci := 6) hC dX5_init_37 rfl cl_X5_23 cn_X6 cz_X6 (show 2 + 4 * p + 1 ≤ 145 by omega) (show 11 + 23 * p + 5 ≤ 2313 by omega) (fun _ => ?_)
        refine r_dup hC dX5_init_40 rfl ?_
        refine r_callI (as := []) (a := mN w) hC dX5_init_41 mi_X6_init si_X6_init rfl ml_X5_29 (rm := rmX6_init) ⟨le_b rfl, le_b rfl⟩ rfl (le_b rfl) (show 2 + 4 * p + 1 + 3 ≤ 145 by omega) (show 11 + 23 * p + 5 + 18 ≤ 2313 by omega) (n_Tr hfC (u := nC w (some (.inl 6))) (b := mN w) rfl (by rw [mSh_nC, if_pos rfl]) (by funext j; rw [mI_nC, if_pos rfl])) ?_ rfl
        rintro _ w3 ⟨rfl, m1, m2, m3, m4, -⟩
        have E3 := ext_obj m2 (b + 2) p (some (mN w))
        refine r_aast hC dX5_init_44 (by rw [(m2 (b + 2) (by omega)).1, mSh_nC, if_neg (by omega)]; exact ht.2.1) (le_b rfl) (lt_b rfl) m3.o rfl rfl ⟨by omega, by omega⟩ ?_
        have B3 : Bel u (sP w3 (b + 2) p (some (mN w))) b := ((hB.nC (by omega) _).trans m2 (by omega)).sP (by omega) _ _
        have n3 : mN (sP w3 (b + 2) p (some (mN w))) = b + 3 + 4 * (p + 1) := by rw [mN_sP, m1]; omega
        have t3 : ZT b (p + 1) (sP w3 (b + 2) p (some (mN w))) := by
          have h0 := ht.ext E3 (by omega) (Or.inr (Or.inl ⟨rfl, Int.le_refl _⟩)) (by omega)
          refine ⟨h0.1, h0.2.1, fun d hd => ?_⟩
          by_cases y : d = p
          · subst y
            rw [show b + 3 + 4 * d = mN w by omega]
            refine ⟨mP_sP_s _ _ _ _, ?_, m4⟩
            have hne : mN w ≠ b + 2 := by omega
            obtain ⟨g1, ⟨g2, g3⟩, ⟨g4, g5⟩, g6, g7⟩ := m3
            exact ⟨g1, ⟨by rw [mP_sP_a _ _ _ _ hne]; exact g2, g3⟩, ⟨by rw [mP_sP_a _ _ _ _ hne]; exact g4, g5⟩, by rw [mP_sP_a _ _ _ _ hne]; exact g6, g7⟩
          · exact h0.2.2 d (by omega)
        have Z3 := hZ.ext E3 (by omega) (Or.inl (by omega))
        generalize sP w3 (b + 2) p (some (mN w)) = w4 at E3 B3 n3 t3 Z3
        refine r_iinc (lv' := [_, _]) hC dX5_init_45 rfl (lt_b rfl) rfl (lt_b rfl) rfl ?_
        refine r_goto (t := 27) hC dX5_init_48 (by rfl) ?_
        have := ih _ (by omega) (p + 1) w4 rfl (by omega) n3 B3 Z3 t3
        rw [show 2 + 4 * (p + 1) = 2 + 4 * p + 1 + 3 by omega, show 11 + 23 * (p + 1) = 11 + 23 * p + 5 + 18 by omega] at this
        exact this
  show VW C 0 [some (xA b), none] [] u 0 0
  refine r_aload_n hC dX5_init_0 rfl ?_
  refine r_objInit hC dX5_init_1 ml_X5_3 si_obj co_obj ⟨le_b rfl, le_b rfl⟩ ?_
  refine r_aload_n hC dX5_init_4 rfl ?_
  refine r_getSN (k := 0) hC dX5_init_5 (by decide) fn_X5_9 ?_
  rw [hDD, ← hsa]
  refine r_clone hC dX5_init_8 ml_X5_13 hss (by rw [hDD, ← hsa]) (le_b rfl) ⟨le_b rfl, le_b rfl⟩ (le_b rfl) (le_b rfl) (fun _ => ?_)
  refine r_castI (n := 7) hC dX5_init_11 cl_X5_14 (by show mSh (nC u _) (mN u) = _; rw [mSh_nC, if_pos rfl]) ?_
  refine r_putR (j := 0) (ci := 5) hC dX5_init_14 fl_X5_18 rfl (by show mSh (nC u _) b = _; rw [mSh_nC, if_neg (by omega)]; exact hsu) (Or.inr ⟨by rintro _ ⟨⟩; exact ⟨rfl, rfl⟩, hN⟩) rfl ?_
  obtain ⟨w1, e1⟩ : ∃ w, w = sP (sA (nC u (some (.inr (0, 7)))) (mN u) (mI u sa)) b 0 (some (mN u)) := ⟨_, rfl⟩
  rw [← e1]
  have n1 : mN w1 = b + 2 := by rw [e1]; show mN u + 1 = b + 2; omega
  have B1 : Bel u w1 b := by rw [e1]; exact (((Bel.refl u b).nC (by omega) _).sA (by omega) _).sP (Nat.le_refl b) _ _
  have Z1 : ZS b w1 := by
    rw [e1]
    refine ⟨?_, ?_, ?_, ?_, fun i hi => ?_⟩
    · show mSh (nC u _) b = _
      rw [mSh_nC, if_neg (by omega)]; exact hsu
    · rw [mI_sP, mI_sA_n _ _ (by omega)]; funext j; rw [mI_nC, if_neg (by omega), hzu]
    · rw [mP_sP_s, hNu]
    · show mSh (nC u _) (b + 1) = _
      rw [mSh_nC, if_pos hNu.symm]
    · rw [mI_sP, ← hNu, mI_sA_f _ _ (fun j => rg_mI _ _ _)]; exact hsv i hi
  refine r_aload_n hC dX5_init_17 rfl ?_
  refine r_iconst hC dX5_init_18 ?_
  refine r_anewarr (n := 4) (ty := 3) (nm := RX6) hC dX5_init_19 (le_b rfl) (lt_b rfl) rfl rfl (le_b rfl) (le_b rfl) (le_b rfl) cl_X5_23 (by simp) (fun _ => ?_)
  refine r_putR (j := 1) (ci := 5) hC dX5_init_22 fl_X5_25 rfl (by rw [mSh_nC, if_neg (by omega)]; exact Z1.1) (Or.inr ⟨by rintro _ ⟨⟩; exact ⟨rfl, rfl⟩, hN⟩) rfl ?_
  have E2 := ext_arr w1 (some (.inr (3, 4))) b 1 (some (mN w1))
  have B2 : Bel u (sP (nC w1 (some (.inr (3, 4)))) b 1 (some (mN w1))) b := (B1.nC (by omega) _).sP (Nat.le_refl b) _ _
  have n2 : mN (sP (nC w1 (some (.inr (3, 4)))) b 1 (some (mN w1))) = b + 3 + 4 * 0 := by rw [mN_sP, mN_nC]; omega
  have t2 : ZT b 0 (sP (nC w1 (some (.inr (3, 4)))) b 1 (some (mN w1))) := ⟨by rw [mP_sP_s, n1], by rw [mSh_sP, mSh_nC, if_pos n1.symm], fun p hp => by omega⟩
  have Z2 := Z1.ext E2 (by omega) (Or.inr (by decide))
  generalize sP (nC w1 (some (.inr (3, 4)))) b 1 (some (mN w1)) = w2 at E2 B2 n2 t2 Z2
  refine r_iconst hC dX5_init_25 ?_
  refine r_istore_n (lv' := [_, _]) hC dX5_init_26 (lt_b rfl) rfl (lt_b rfl) rfl ?_
  exact lp _ 0 w2 rfl (by omega) n2 B2 Z2 t2
