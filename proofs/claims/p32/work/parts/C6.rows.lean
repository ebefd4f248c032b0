/-! ===== rows: the kept ones by their numbers ===== -/
theorem rv_0 (f : RW) (k : Int) : m_rowV f k 0 = m_num f k := rfl
theorem rv_1 (f : RW) (k : Int) : m_rowV f k 1 = m_write f k := rfl
theorem rv_2 (f : RW) (k : Int) : m_rowV f k 2 = k := rfl
theorem rv_3 (f : RW) (k : Int) : m_rowV f k 3 = m_topic f k := rfl
theorem rv_4 (f : RW) (k : Int) : m_rowV f k 4 = m_value f k := rfl
theorem rv_5 (f : RW) (k : Int) : m_rowV f k 5 = b_and (b_shr (f (97 + 3 * k + 2)) 1) 7 := rfl
theorem rv_6 (f : RW) (k : Int) : m_rowV f k 6 = m_ansBy f k := rfl
theorem rv_7 (f : RW) (k : Int) : m_rowV f k 7 = m_why f k := rfl
theorem and_one (x : Int) : b_and x 1 = 0 ∨ b_and x 1 = 1 := by
  obtain ⟨j, hj, e⟩ := pk_andE (Int32.ofInt x) (m := 1) 1 (by decide)
  unfold b_and
  rw [show Int32.ofInt 1 = 1 from rfl, e, nI_toInt (by omega)]
  omega
/-- who answered, why it stays: told by the loop from the last receiver down -/
def w_mask (a0 a1 a2 : Bool) : Int :=
  let m2 : Int := if a2 = true then b_or 0 (b_shl 1 2) else 0
  let m1 : Int := if a1 = true then b_or m2 (b_shl 1 1) else m2
  if a0 = true then b_or m1 (b_shl 1 0) else m1
theorem w_mask_is (f : RW) (k : Int) : w_mask (m_ans f k 0) (m_ans f k 1) (m_ans f k 2) = m_ansBy f k := by
  unfold m_ansBy
  generalize m_ans f k 0 = a0
  generalize m_ans f k 1 = a1
  generalize m_ans f k 2 = a2
  revert a0 a1 a2
  decide +kernel
def w_why (a0 a1 a2 m0 m1 m2 : Bool) : Int :=
  let y2 : Int := if a2 = true then 0 else if m2 = true then 2 else 1
  let y1 : Int := if a1 = true then y2 else if m1 = true then 2 else 1
  if a0 = true then y1 else if m0 = true then 2 else 1
theorem w_why_is {f : RW} (hR : ER f) {k : Nat} (hk : (k : Int) < f 2) : (m_why f k = w_why (m_ans f k 0) (m_ans f k 1) (m_ans f k 2) (m_mark f k (1 + 0)) (m_mark f k (1 + 1)) (m_mark f k (1 + 2)) ∨ (w_why (m_ans f k 0) (m_ans f k 1) (m_ans f k 2) (m_mark f k (1 + 0)) (m_mark f k (1 + 1)) (m_mark f k (1 + 2)) = 1 ∧ m_why f k = 3)) ∧ 0 ≤ m_why f k ∧ m_why f k ≤ 3 ∧ 0 ≤ w_why (m_ans f k 0) (m_ans f k 1) (m_ans f k 2) (m_mark f k (1 + 0)) (m_mark f k (1 + 1)) (m_mark f k (1 + 2)) ∧ w_why (m_ans f k 0) (m_ans f k 1) (m_ans f k 2) (m_mark f k (1 + 0)) (m_mark f k (1 + 1)) (m_mark f k (1 + 2)) ≤ 2 := by
  have h0 := hR k hk 0 (by decide)
  have h1 := hR k hk 1 (by decide)
  have h2 := hR k hk 2 (by decide)
  rw [show ((0 : Nat) : Int) = 0 from rfl] at h0
  rw [show ((1 : Nat) : Int) = 1 from rfl] at h1
  rw [show ((2 : Nat) : Int) = 2 from rfl] at h2
  unfold m_why m_wh w_why
  revert h0 h1 h2
  generalize m_ans f k 0 = a0
  generalize m_ans f k 1 = a1
  generalize m_ans f k 2 = a2
  generalize m_mark f k (1 + 0) = e0
  generalize m_mark f k (1 + 1) = e1
  generalize m_mark f k (1 + 2) = e2
  generalize m_mark f k (4 + 0) = s0
  generalize m_mark f k (4 + 1) = s1
  generalize m_mark f k (4 + 2) = s2
  revert a0 a1 a2 e0 e1 e2 s0 s1 s2
  decide +kernel
theorem far_rg {f : RW} {r b : Int} (hr : 0 ≤ r ∧ r ≤ 2) (hb : b = -1 ∨ (0 ≤ b ∧ b ≤ 2)) : m_far1 f r b = -1 ∨ (0 ≤ m_far1 f r b ∧ m_far1 f r b ≤ 2) := by
  unfold m_far1
  by_cases z : (if b = -1 then 0 else m_rows f b) < m_rows f r
  · rw [if_pos z]; omega
  · rw [if_neg z]; exact hb
abbrev rmL_rows : Room := { frames := 7, cells := 1600, slots := 9400, locals := 130 }
set_option maxRecDepth 100000 in
theorem l_rows {l : Launch} {D : DD} (hfl : l.stackTraces = false) {u : Mem} {x : Nat} {f : RW} {s : Int} {P : RW} {kp : Int} {K : RW} {T B : Int} (hX0 : RX u x f s P kp K T) (hE : Ew f B) (hT : T ≤ 2000000) : CT l D yL_rows cL_rows 12 (some .boolean) rmL_rows [xA x] u (fun o w => o = some (xI 1) ∧ RX w x f s P kp K T ∧ Kp u w x) := by
  refine CT.of hfl (by decide) (le_b rfl) ?_
  intro C hC hR hL hDD hN
  have hfC : (cxL C).stackTraces = false := by rw [hL]; exact hfl
  have hRc : 1600 ≤ rmL_rows.cells := le_b rfl
  have hRz : 9400 ≤ rmL_rows.slots := le_b rfl
  have hR7 : 7 ≤ rmL_rows.frames ∧ 120 ≤ rmL_rows.locals := ⟨le_b rfl, le_b rfl⟩
  show VW C 0 [some (xA x), none, none, none, none, none, none, none, none, none, none, none] [] u 0 0
  have hI := hX0.2.2.1.2
  obtain ⟨⟨i0, i1⟩, ⟨i2, i3⟩, i4, i5, i6⟩ := hI.ti
  obtain ⟨c1, c2, c3, c4, c5, c6, c7, c8, c9⟩ := hI.co
  obtain ⟨N, hN⟩ : ∃ N : Nat, m_kept f = N := ⟨(m_kept f).toNat, by unfold m_kept; omega⟩
  have hN2 : f 2 - f 3 = N := hN
  obtain ⟨o, hO, -⟩ := hX0.2.2.1.1.r.2.2.2.2
  rw [hN, Int.toNat_natCast] at hO
  have hro := hI.ro
  have hon : ∀ j : Nat, j < N → (o j : Int) < f 2 := fun j hj => (hO.1 j hj).1
  have hka : ∀ j : Nat, j < N → m_keptAt f j = o j := fun j hj => keptAt_at hO (fun j hj => num_pos hro (hon j hj)) j hj
  obtain ⟨a, ha⟩ : ∃ a, a = mN u := ⟨_, rfl⟩
  have hrw : ∀ q : Nat, m_rows f q = sumN (fun j => if m_ans f (o j) q = false then 1 else 0) N := fun q => rows_at hO q
  have hm200 : ∀ q : Int, 0 ≤ m_rows f q ∧ m_rows f q ≤ 200 := fun q => m_rows_rg f c1 q
  have loop : ∀ (d k : Nat), k + d = N → ∀ (w : Mem) (l5 l6 l7 l8 l9 l10 l11 : Option SV) (last : Int) (c z : Nat), RX w x f s P kp K T → Kp u w x → Arr w x a → (∀ q : Nat, q < 3 → mI w a q = sumN (fun j => if m_ans f (o j) q = false then 1 else 0) k) → (-1 ≤ last ∧ last ≤ 2000001 ∧ ∀ j : Nat, k ≤ j → j < N → last < m_num f (o j)) → c ≤ 5 + 25 * k → z ≤ 20 + 150 * k → VW C 15 [some (xA x), some (xI (N : Int)), some (xI last), some (xA a), some (xI (k : Int)), l5, l6, l7, l8, l9, l10, l11] [] w c z := by
    intro d
    induction d with
    | zero =>
      intro k hk w l5 l6 l7 l8 l9 l10 l11 last c z hX hkp har hg hl hcb hzb
      have hkN : k = N := by omega
      have hgq : ∀ q : Nat, q < 3 → mI w a q = m_rows f q := fun q hq => by rw [hg q hq, hkN, hrw q]
      have hrc : ∀ q : Nat, q < 3 → m_recvV f q 10 = mI w a q := fun q hq => by rw [rcv_10, hgq q hq]
      have slow : ∀ (q : Nat) (b r1 : Int), q < 3 → (b = -1 ∨ (0 ≤ b ∧ b ≤ 2)) → r1 = q + 1 → VW C 337 [some (xA x), some (xI (N : Int)), some (xI last), some (xA a), some (xI (m_far1 f q b)), some (xI r1), l6, l7, l8, l9, l10, l11] [] w c z → VW C 337 [some (xA x), some (xI (N : Int)), some (xI last), some (xA a), some (xI b), some (xI (q : Int)), l6, l7, l8, l9, l10, l11] [] w c z := by
        intro q b r1 hq hb hr1 kk
        have hq2 := hm200 q
        refine r_iload hC dL_rows_337 rfl ?_
        refine r_iconst hC dL_rows_339 ?_
        refine r_icmp_ge (t := 378) hC dL_rows_340 (by rfl) (by first | exact hI.rf _ | exact rg_mI _ _ _ | exact rg_way hI.rf _ _ | exact rg_of hI.rf _ _ | exact ⟨by omega, by omega⟩ | assumption) (by first | exact hI.rf _ | exact rg_mI _ _ _ | exact rg_way hI.rf _ _ | exact rg_of hI.rf _ _ | exact ⟨by omega, by omega⟩ | assumption) (fun h_340 => (by omega)) (fun h_340 => ?_)
        refine r_aload_n hC dL_rows_343 rfl ?_
        refine r_iload hC dL_rows_344 rfl ?_
        refine r_iald hC dL_rows_346 har.1 ⟨by omega, by omega⟩ ?_
        rcases hb with hb | hb
        · have hgqq := hgq q hq
          refine r_iload hC dL_rows_347 rfl ?_
          refine r_if_ge (t := 356) hC dL_rows_349 (by rfl) (by first | exact hI.rf _ | exact rg_mI _ _ _ | exact rg_way hI.rf _ _ | exact rg_of hI.rf _ _ | exact ⟨by omega, by omega⟩ | assumption) (fun h_349 => (by omega)) (fun h_349 => ?_)
          refine r_iconst hC dL_rows_352 ?_
          refine r_goto (t := 360) hC dL_rows_353 (by rfl) ?_
          refine r_icmp_le (t := 368) hC dL_rows_360 (by rfl) (by first | exact hI.rf _ | exact rg_mI _ _ _ | exact rg_way hI.rf _ _ | exact rg_of hI.rf _ _ | exact ⟨by omega, by omega⟩ | assumption) (by first | exact hI.rf _ | exact rg_mI _ _ _ | exact rg_way hI.rf _ _ | exact rg_of hI.rf _ _ | exact ⟨by omega, by omega⟩ | assumption) (fun h_360 => ?_) (fun h_360 => ?_)
          · skip
            refine r_iload hC dL_rows_368 rfl ?_
            refine r_istore (lv' := [_, _, _, _, _, _, _, _, _, _, _, _]) hC dL_rows_370 (lt_b rfl) rfl (lt_b rfl) rfl ?_
            refine r_iinc (lv' := [_, _, _, _, _, _, _, _, _, _, _, _]) hC dL_rows_372 rfl (lt_b rfl) rfl (lt_b rfl) rfl ?_
            refine r_goto (t := 337) hC dL_rows_375 (by rfl) ?_
            have e : m_far1 f q b = b := by unfold m_far1; rw [if_neg (by rw [if_pos hb]; omega)]
            rw [e, hr1] at kk; exact kk
          · skip
            refine r_iload hC dL_rows_363 rfl ?_
            refine r_goto (t := 370) hC dL_rows_365 (by rfl) ?_
            refine r_istore (lv' := [_, _, _, _, _, _, _, _, _, _, _, _]) hC dL_rows_370 (lt_b rfl) rfl (lt_b rfl) rfl ?_
            refine r_iinc (lv' := [_, _, _, _, _, _, _, _, _, _, _, _]) hC dL_rows_372 rfl (lt_b rfl) rfl (lt_b rfl) rfl ?_
            refine r_goto (t := 337) hC dL_rows_375 (by rfl) ?_
            have e : m_far1 f q b = q := by unfold m_far1; rw [if_pos (by rw [if_pos hb]; omega)]
            rw [e, hr1] at kk; exact kk
        · obtain ⟨bn, hbn⟩ : ∃ bn : Nat, b = bn := ⟨b.toNat, by omega⟩
          have hgqq := hgq q hq
          have hgb := hgq bn (by omega)
          rw [← hbn] at hgb
          have hb2 := hm200 b
          refine r_iload hC dL_rows_347 rfl ?_
          refine r_if_ge (t := 356) hC dL_rows_349 (by rfl) (by first | exact hI.rf _ | exact rg_mI _ _ _ | exact rg_way hI.rf _ _ | exact rg_of hI.rf _ _ | exact ⟨by omega, by omega⟩ | assumption) (fun h_349 => ?_) (fun h_349 => (by omega))
          refine r_aload_n hC dL_rows_356 rfl ?_
          refine r_iload hC dL_rows_357 rfl ?_
          refine r_iald hC dL_rows_359 har.1 ⟨by omega, by omega⟩ ?_
          refine r_icmp_le (t := 368) hC dL_rows_360 (by rfl) (by first | exact hI.rf _ | exact rg_mI _ _ _ | exact rg_way hI.rf _ _ | exact rg_of hI.rf _ _ | exact ⟨by omega, by omega⟩ | assumption) (by first | exact hI.rf _ | exact rg_mI _ _ _ | exact rg_way hI.rf _ _ | exact rg_of hI.rf _ _ | exact ⟨by omega, by omega⟩ | assumption) (fun h_360 => ?_) (fun h_360 => ?_)
          · skip
            refine r_iload hC dL_rows_368 rfl ?_
            refine r_istore (lv' := [_, _, _, _, _, _, _, _, _, _, _, _]) hC dL_rows_370 (lt_b rfl) rfl (lt_b rfl) rfl ?_
            refine r_iinc (lv' := [_, _, _, _, _, _, _, _, _, _, _, _]) hC dL_rows_372 rfl (lt_b rfl) rfl (lt_b rfl) rfl ?_
            refine r_goto (t := 337) hC dL_rows_375 (by rfl) ?_
            have e : m_far1 f q b = b := by unfold m_far1; rw [if_neg (by rw [if_neg (by omega)]; omega)]
            rw [e, hr1] at kk; exact kk
          · skip
            refine r_iload hC dL_rows_363 rfl ?_
            refine r_goto (t := 370) hC dL_rows_365 (by rfl) ?_
            refine r_istore (lv' := [_, _, _, _, _, _, _, _, _, _, _, _]) hC dL_rows_370 (lt_b rfl) rfl (lt_b rfl) rfl ?_
            refine r_iinc (lv' := [_, _, _, _, _, _, _, _, _, _, _, _]) hC dL_rows_372 rfl (lt_b rfl) rfl (lt_b rfl) rfl ?_
            refine r_goto (t := 337) hC dL_rows_375 (by rfl) ?_
            have e : m_far1 f q b = q := by unfold m_far1; rw [if_pos (by rw [if_neg (by omega)]; omega)]
            rw [e, hr1] at kk; exact kk
      refine r_iload hC dL_rows_15 rfl ?_
      refine r_iload_n hC dL_rows_17 rfl ?_
      refine r_icmp_ge (t := 331) hC dL_rows_18 (by rfl) (by first | exact hI.rf _ | exact rg_mI _ _ _ | exact rg_way hI.rf _ _ | exact rg_of hI.rf _ _ | exact ⟨by omega, by omega⟩ | assumption) (by first | exact hI.rf _ | exact rg_mI _ _ _ | exact rg_way hI.rf _ _ | exact rg_of hI.rf _ _ | exact ⟨by omega, by omega⟩ | assumption) (fun h_18 => ?_) (fun h_18 => (by omega))
      refine r_iconst hC dL_rows_331 ?_
      refine r_istore (lv' := [_, _, _, _, _, _, _, _, _, _, _, _]) hC dL_rows_332 (lt_b rfl) rfl (lt_b rfl) rfl ?_
      refine r_iconst hC dL_rows_334 ?_
      refine r_istore (lv' := [_, _, _, _, _, _, _, _, _, _, _, _]) hC dL_rows_335 (lt_b rfl) rfl (lt_b rfl) rfl ?_
      have b1 := far_rg (f := f) (r := ((0 : Nat) : Int)) (b := -1) (by decide) (Or.inl rfl)
      have b2 := far_rg (f := f) (r := ((1 : Nat) : Int)) (by decide) b1
      have b3 := far_rg (f := f) (r := ((2 : Nat) : Int)) (by decide) b2
      have hfar : rg (m_far f) := by
        show rg (m_far1 f ((2 : Nat) : Int) (m_far1 f ((1 : Nat) : Int) (m_far1 f ((0 : Nat) : Int) (-1))))
        rcases b3 with z | z
        · rw [z]; exact ⟨by decide, by decide⟩
        · exact ⟨by omega, by omega⟩
      refine slow 0 (-1) ((1 : Nat) : Int) (by decide) (Or.inl rfl) (by decide) (slow 1 _ ((2 : Nat) : Int) (by decide) b1 (by decide) (slow 2 _ 3 (by decide) b2 (by decide) ?_))
      rw [show m_far1 f ((2 : Nat) : Int) (m_far1 f ((1 : Nat) : Int) (m_far1 f ((0 : Nat) : Int) (-1))) = m_far f from rfl]
      refine r_iload hC dL_rows_337 rfl ?_
      refine r_iconst hC dL_rows_339 ?_
      refine r_icmp_ge (t := 378) hC dL_rows_340 (by rfl) (by first | exact hI.rf _ | exact rg_mI _ _ _ | exact rg_way hI.rf _ _ | exact rg_of hI.rf _ _ | exact ⟨by omega, by omega⟩ | assumption) (by first | exact hI.rf _ | exact rg_mI _ _ _ | exact rg_way hI.rf _ _ | exact rg_of hI.rf _ _ | exact ⟨by omega, by omega⟩ | assumption) (fun h_340 => ?_) (fun h_340 => (by omega))
      refine r_aload_n hC dL_rows_378 rfl ?_
      refine r_iconst hC dL_rows_379 ?_
      refine r_bipush hC dL_rows_380 (by rfl) ?_
      refine r_lrecv hC hfC dL_rows_382 ml_L_19 hR7 hX ⟨by omega, by omega⟩ ⟨by omega, by omega⟩ (hrc 0 (by decide)) (le_b rfl) (by omega) (by omega) ?_
      refine r_aload_n hC dL_rows_385 rfl ?_
      refine r_iconst hC dL_rows_386 ?_
      refine r_iald hC dL_rows_387 har.1 ⟨by omega, by omega⟩ ?_
      refine r_icmp_ne (t := 445) hC dL_rows_388 (by rfl) (by first | exact hI.rf _ | exact rg_mI _ _ _ | exact rg_way hI.rf _ _ | exact rg_of hI.rf _ _ | exact ⟨by omega, by omega⟩ | assumption) (by first | exact hI.rf _ | exact rg_mI _ _ _ | exact rg_way hI.rf _ _ | exact rg_of hI.rf _ _ | exact ⟨by omega, by omega⟩ | assumption) (fun h_388 => absurd rfl h_388) (fun h_388 => ?_)
      refine r_aload_n hC dL_rows_391 rfl ?_
      refine r_iconst hC dL_rows_392 ?_
      refine r_bipush hC dL_rows_393 (by rfl) ?_
      refine r_lrecv hC hfC dL_rows_395 ml_L_19 hR7 hX ⟨by omega, by omega⟩ ⟨by omega, by omega⟩ (hrc 1 (by decide)) (le_b rfl) (by omega) (by omega) ?_
      refine r_aload_n hC dL_rows_398 rfl ?_
      refine r_iconst hC dL_rows_399 ?_
      refine r_iald hC dL_rows_400 har.1 ⟨by omega, by omega⟩ ?_
      refine r_icmp_ne (t := 445) hC dL_rows_401 (by rfl) (by first | exact hI.rf _ | exact rg_mI _ _ _ | exact rg_way hI.rf _ _ | exact rg_of hI.rf _ _ | exact ⟨by omega, by omega⟩ | assumption) (by first | exact hI.rf _ | exact rg_mI _ _ _ | exact rg_way hI.rf _ _ | exact rg_of hI.rf _ _ | exact ⟨by omega, by omega⟩ | assumption) (fun h_401 => absurd rfl h_401) (fun h_401 => ?_)
      refine r_aload_n hC dL_rows_404 rfl ?_
      refine r_iconst hC dL_rows_405 ?_
      refine r_bipush hC dL_rows_406 (by rfl) ?_
      refine r_lrecv hC hfC dL_rows_408 ml_L_19 hR7 hX ⟨by omega, by omega⟩ ⟨by omega, by omega⟩ (hrc 2 (by decide)) (le_b rfl) (by omega) (by omega) ?_
      refine r_aload_n hC dL_rows_411 rfl ?_
      refine r_iconst hC dL_rows_412 ?_
      refine r_iald hC dL_rows_413 har.1 ⟨by omega, by omega⟩ ?_
      refine r_icmp_ne (t := 445) hC dL_rows_414 (by rfl) (by first | exact hI.rf _ | exact rg_mI _ _ _ | exact rg_way hI.rf _ _ | exact rg_of hI.rf _ _ | exact ⟨by omega, by omega⟩ | assumption) (by first | exact hI.rf _ | exact rg_mI _ _ _ | exact rg_way hI.rf _ _ | exact rg_of hI.rf _ _ | exact ⟨by omega, by omega⟩ | assumption) (fun h_414 => absurd rfl h_414) (fun h_414 => ?_)
      refine r_aload_n hC dL_rows_417 rfl ?_
      refine r_V0 hC dL_rows_418 mi_X7_slowest se_X7_slowest ml_L_31 (rm := rmX7_slowest) rfl hX.1.1 rfl rfl rfl rfl ⟨by omega, by omega⟩ (k_Rl_slowest hfC hX) ?_ rfl
      refine r_iload hC dL_rows_421 rfl ?_
      refine r_icmp_ne (t := 445) hC dL_rows_423 (by rfl) hfar hfar (fun h_423 => absurd rfl h_423) (fun h_423 => ?_)
      refine r_aload_n hC dL_rows_426 rfl ?_
      refine r_iconst hC dL_rows_427 ?_
      refine r_lcnt hC hfC dL_rows_428 ml_L_9 hR7 hX ⟨by omega, by omega⟩ (show m_countV f s 2 = f 2 from rfl) (le_b rfl) (by omega) (by omega) ?_
      refine r_iload_n hC dL_rows_431 rfl ?_
      refine r_aload_n hC dL_rows_432 rfl ?_
      refine r_iconst hC dL_rows_433 ?_
      refine r_lcnt hC hfC dL_rows_434 ml_L_9 hR7 hX ⟨by omega, by omega⟩ (show m_countV f s 4 = f 3 from rfl) (le_b rfl) (by omega) (by omega) ?_
      refine r_iadd hC dL_rows_437 ?_
      refine r_icmp_ne (t := 445) hC dL_rows_438 (by rfl) (by first | exact hI.rf _ | exact rg_mI _ _ _ | exact rg_way hI.rf _ _ | exact rg_of hI.rf _ _ | exact ⟨by omega, by omega⟩ | assumption) (by first | exact hI.rf _ | exact rg_mI _ _ _ | exact rg_way hI.rf _ _ | exact rg_of hI.rf _ _ | exact ⟨by omega, by omega⟩ | assumption) (fun h_438 => (by omega)) (fun h_438 => ?_)
      refine r_iconst hC dL_rows_441 ?_
      refine r_goto (t := 446) hC dL_rows_442 (by rfl) ?_
      refine r_zret hC hR dL_rows_446 (Or.inr rfl) (by omega) (by omega) ?_
      exact ⟨rfl, hX, hkp⟩
    | succ d ih =>
      intro k hk w0 l5 l6 l7 l8 l9 l10 l11 last c0 z0 hX0 hkp0 har0 hg0 hl hcb hzb
      have hkN : k < N := by omega
      have hk2 := hon k hkN
      obtain ⟨j, hj⟩ : ∃ j, j = o k := ⟨_, rfl⟩
      have hlk := hl.2.2 k (Nat.le_refl _) hkN
      rw [← hj] at hk2 hlk
      have hnp := num_pos hro hk2
      have htp := topic_rg hro hk2
      have hvl := value_rg hro hk2
      obtain ⟨⟨q1, q2⟩, ⟨q3, q4⟩, q5⟩ := hro j hk2
      have hnum : m_num f j ≤ 2000000 := by
        unfold m_num; split
        · omega
        · omega
      have hv : ∀ q v : Int, m_rowV f j q = v → m_rowV f (m_keptAt f ((k : Int)).toNat) q = v := fun q v h => by rw [Int.toNat_natCast, hka k hkN, ← hj]; exact h
      obtain ⟨e5, he5⟩ : ∃ e, e = b_and (b_shr (f (97 + 3 * (j : Int) + 2)) 1) 7 := ⟨_, rfl⟩
      obtain ⟨nm, hnm⟩ : ∃ e, e = m_num f j := ⟨_, rfl⟩
      obtain ⟨tp, htq⟩ : ∃ e, e = m_topic f j := ⟨_, rfl⟩
      rw [← hnm] at hnp hlk hnum
      rw [← htq] at htp
      have rcv : ∀ (q q' : Int) (n : Nat), q = n → q' = q + -1 → n < 3 → ∀ (w : Mem) (mask why : Int) (l10 l11 : Option SV) (c z : Nat), RX w x f s P kp K T → Kp u w x → Arr w x a → rg mask → c + 10 ≤ 1600 → z + 60 ≤ 9400 → (∀ (w' : Mem) (l10 l11 : Option SV), RX w' x f s P kp K T → Kp u w' x → Arr w' x a → (∀ r : Int, mI w' a r = if r = q then wr (mI w a q + (if m_ans f j q = true then 0 else 1)) else mI w a r) → VW C 48 [some (xA x), some (xI (N : Int)), some (xI last), some (xA a), some (xI (k : Int)), some (xI nm), some (xI tp), some (xI (if m_ans f j q = true then b_or mask (b_shl 1 q) else mask)), some (xI (if m_ans f j q = true then why else if m_mark f j (1 + q) = true then 2 else 1)), some (xI q'), l10, l11] [] w' (c + 3) (z + 18)) → VW C 48 [some (xA x), some (xI (N : Int)), some (xI last), some (xA a), some (xI (k : Int)), some (xI nm), some (xI tp), some (xI mask), some (xI why), some (xI q), l10, l11] [] w c z := by
        intro q q' n hqn hq' hn w mask why l10 l11 c z hX hkp har hmask hcb hzb kk
        subst hqn
        have heff := eff_at hro (k := j) (i := n) hk2 hn
        rw [← he5] at heff
        have h01 := and_one (b_shr (m_of f n 0) tp)
        have hwt : m_wants f n (m_topic f j) = decide (b_and (b_shr (m_of f n 0) tp) 1 = 1) := by rw [htq]; rfl
        have hor := fun v : Int => hX.st har (n : Int) v
        by_cases hA : m_ans f j n = true
        · have K81 : ∀ c1 z1 : Nat, c1 ≤ c + 2 → z1 ≤ z + 12 → VW C 81 [some (xA x), some (xI (N : Int)), some (xI last), some (xA a), some (xI (k : Int)), some (xI nm), some (xI tp), some (xI mask), some (xI why), some (xI (n : Int)), l10, l11] [] w c1 z1 := by
            intro c1 z1 hc1 hz1
            obtain ⟨x1, x2, x3⟩ := hor (mI w a n + 0)
            refine r_iconst hC dL_rows_81 ?_
            refine r_goto (t := 86) hC dL_rows_82 (by rfl) ?_
            refine r_istore (lv' := [_, _, _, _, _, _, _, _, _, _, _, _]) hC dL_rows_86 (lt_b rfl) rfl (lt_b rfl) rfl ?_
            refine r_iload hC dL_rows_88 rfl ?_
            refine r_iload hC dL_rows_90 rfl ?_
            refine r_if_eq (t := 102) hC dL_rows_92 (by rfl) (by first | exact hI.rf _ | exact rg_mI _ _ _ | exact rg_way hI.rf _ _ | exact rg_of hI.rf _ _ | exact ⟨by omega, by omega⟩ | assumption) (fun h_92 => (by omega)) (fun h_92 => ?_)
            refine r_iconst hC dL_rows_95 ?_
            refine r_iload hC dL_rows_96 rfl ?_
            refine r_ishl hC dL_rows_98 ?_
            refine r_goto (t := 103) hC dL_rows_99 (by rfl) ?_
            refine r_ior hC dL_rows_103 ?_
            refine r_istore (lv' := [_, _, _, _, _, _, _, _, _, _, _, _]) hC dL_rows_104 (lt_b rfl) rfl (lt_b rfl) rfl ?_
            refine r_aload_n hC dL_rows_106 rfl ?_
            refine r_iload hC dL_rows_107 rfl ?_
            refine r_dup2 hC dL_rows_109 rfl rfl ?_
            refine r_iald hC dL_rows_110 har.1 ⟨by omega, by omega⟩ ?_
            refine r_iload hC dL_rows_111 rfl ?_
            refine r_if_eq (t := 120) hC dL_rows_113 (by rfl) (by first | exact hI.rf _ | exact rg_mI _ _ _ | exact rg_way hI.rf _ _ | exact rg_of hI.rf _ _ | exact ⟨by omega, by omega⟩ | assumption) (fun h_113 => (by omega)) (fun h_113 => ?_)
            refine r_iconst hC dL_rows_116 ?_
            refine r_goto (t := 121) hC dL_rows_117 (by rfl) ?_
            refine r_iadd hC dL_rows_121 ?_
            refine r_iast hC dL_rows_122 har.1 ⟨by omega, by omega⟩ ?_
            refine r_aload_n hC dL_rows_123 rfl ?_
            refine r_iload hC dL_rows_124 rfl ?_
            refine r_iconst hC dL_rows_126 ?_
            refine r_lrow hC hfC dL_rows_127 ml_L_15 hR7 x1 ⟨by omega, by omega⟩ ⟨by omega, by omega⟩ (hv 5 e5 (by rw [he5]; rfl)) (le_b rfl) (by omega) (by omega) ?_
            refine r_iload hC dL_rows_130 rfl ?_
            refine r_ishr hC dL_rows_132 ?_
            refine r_iconst hC dL_rows_133 ?_
            refine r_iand hC dL_rows_134 ?_
            refine r_iconst hC dL_rows_135 ?_
            refine d_icmp_ne (t := 143) (J := 144) hC dL_rows_136 dL_rows_139 dL_rows_140 dL_rows_143 (by rfl) (by rfl) (by rfl) (rg_and _ _) ⟨by omega, by omega⟩ ?_
            refine r_istore (lv' := [_, _, _, _, _, _, _, _, _, _, _, _]) hC dL_rows_144 (lt_b rfl) rfl (lt_b rfl) rfl ?_
            refine r_iload hC dL_rows_146 rfl ?_
            refine r_if_eq (t := 156) hC dL_rows_148 (by rfl) (by first | exact hI.rf _ | exact rg_mI _ _ _ | exact rg_way hI.rf _ _ | exact rg_of hI.rf _ _ | exact ⟨by omega, by omega⟩ | assumption) (fun h_148 => (by omega)) (fun h_148 => ?_)
            refine r_iload hC dL_rows_151 rfl ?_
            refine r_goto (t := 166) hC dL_rows_153 (by rfl) ?_
            refine r_istore (lv' := [_, _, _, _, _, _, _, _, _, _, _, _]) hC dL_rows_166 (lt_b rfl) rfl (lt_b rfl) rfl ?_
            refine r_iinc (lv' := [_, _, _, _, _, _, _, _, _, _, _, _]) hC dL_rows_168 rfl (lt_b rfl) rfl (lt_b rfl) rfl ?_
            refine r_goto (t := 48) hC dL_rows_171 (by rfl) ?_
            have k2 := kk _ l10 l11 x1 (x3 u hkp (by omega)) (x2 a har) (fun r => by rw [up_mI, if_pos hA]; rfl)
            have k3 := kk _ (some (xI 1)) (some (xI (if b_and (b_shr e5 n) 1 = 1 then 1 else 0))) x1 (x3 u hkp (by omega)) (x2 a har) (fun r => by rw [up_mI, if_pos hA]; rfl)
            rw [if_pos hA, if_pos hA, hq'] at k3
            exact vw_widen (by omega) (by omega) k3
          refine r_iload hC dL_rows_48 rfl ?_
          refine r_if_lt (t := 174) hC dL_rows_50 (by rfl) (by first | exact hI.rf _ | exact rg_mI _ _ _ | exact rg_way hI.rf _ _ | exact rg_of hI.rf _ _ | exact ⟨by omega, by omega⟩ | assumption) (fun h_50 => (by omega)) (fun h_50 => ?_)
          refine r_aload_n hC dL_rows_53 rfl ?_
          refine r_iload hC dL_rows_54 rfl ?_
          refine r_iconst hC dL_rows_56 ?_
          refine r_lrecv hC hfC dL_rows_57 ml_L_19 hR7 hX ⟨by omega, by omega⟩ ⟨by omega, by omega⟩ (rcv_le f n (w := 0) (by decide)) (le_b rfl) (by omega) (by omega) ?_
          refine r_iload hC dL_rows_60 rfl ?_
          refine r_ishr hC dL_rows_62 ?_
          refine r_iconst hC dL_rows_63 ?_
          refine r_iand hC dL_rows_64 ?_
          refine r_if_eq (t := 81) hC dL_rows_65 (by rfl) (rg_and _ _) (fun h_65 => ?_) (fun h_65 => ?_)
          · skip
            exact K81 _ _ (by omega) (by omega)
          · skip
            have hle : nm ≤ m_of f n 8 := by
              unfold m_ans at hA; rw [hwt, decide_eq_true (h01.resolve_left h_65), ← hnm] at hA; simpa using hA
            refine r_iload hC dL_rows_68 rfl ?_
            refine r_aload_n hC dL_rows_70 rfl ?_
            refine r_iload hC dL_rows_71 rfl ?_
            refine r_bipush hC dL_rows_73 (by rfl) ?_
            refine r_lrecv hC hfC dL_rows_75 ml_L_19 hR7 hX ⟨by omega, by omega⟩ ⟨by omega, by omega⟩ (rcv_le f n (w := 8) (by decide)) (le_b rfl) (by omega) (by omega) ?_
            refine r_icmp_gt (t := 85) hC dL_rows_78 (by rfl) (by first | exact hI.rf _ | exact rg_mI _ _ _ | exact rg_way hI.rf _ _ | exact rg_of hI.rf _ _ | exact ⟨by omega, by omega⟩ | assumption) (by first | exact hI.rf _ | exact rg_mI _ _ _ | exact rg_way hI.rf _ _ | exact rg_of hI.rf _ _ | exact ⟨by omega, by omega⟩ | assumption) (fun h_78 => (by omega)) (fun h_78 => ?_)
            exact K81 _ _ (by omega) (by omega)
        · have hA2 : m_ans f j n = false := by cases z : m_ans f j n; rfl; exact absurd z hA
          obtain ⟨hw1, hw2⟩ := (ans_iff f j n).mp hA2
          rw [hwt, decide_eq_true_eq] at hw1
          rw [← hnm] at hw2
          obtain ⟨x1, x2, x3⟩ := hor (mI w a n + 1)
          refine r_iload hC dL_rows_48 rfl ?_
          refine r_if_lt (t := 174) hC dL_rows_50 (by rfl) (by first | exact hI.rf _ | exact rg_mI _ _ _ | exact rg_way hI.rf _ _ | exact rg_of hI.rf _ _ | exact ⟨by omega, by omega⟩ | assumption) (fun h_50 => (by omega)) (fun h_50 => ?_)
          refine r_aload_n hC dL_rows_53 rfl ?_
          refine r_iload hC dL_rows_54 rfl ?_
          refine r_iconst hC dL_rows_56 ?_
          refine r_lrecv hC hfC dL_rows_57 ml_L_19 hR7 hX ⟨by omega, by omega⟩ ⟨by omega, by omega⟩ (rcv_le f n (w := 0) (by decide)) (le_b rfl) (by omega) (by omega) ?_
          refine r_iload hC dL_rows_60 rfl ?_
          refine r_ishr hC dL_rows_62 ?_
          refine r_iconst hC dL_rows_63 ?_
          refine r_iand hC dL_rows_64 ?_
          refine r_if_eq (t := 81) hC dL_rows_65 (by rfl) (rg_and _ _) (fun h_65 => (by rw [hw1] at h_65; exact absurd h_65 (by decide))) (fun h_65 => ?_)
          refine r_iload hC dL_rows_68 rfl ?_
          refine r_aload_n hC dL_rows_70 rfl ?_
          refine r_iload hC dL_rows_71 rfl ?_
          refine r_bipush hC dL_rows_73 (by rfl) ?_
          refine r_lrecv hC hfC dL_rows_75 ml_L_19 hR7 hX ⟨by omega, by omega⟩ ⟨by omega, by omega⟩ (rcv_le f n (w := 8) (by decide)) (le_b rfl) (by omega) (by omega) ?_
          refine r_icmp_gt (t := 85) hC dL_rows_78 (by rfl) (by first | exact hI.rf _ | exact rg_mI _ _ _ | exact rg_way hI.rf _ _ | exact rg_of hI.rf _ _ | exact ⟨by omega, by omega⟩ | assumption) (by first | exact hI.rf _ | exact rg_mI _ _ _ | exact rg_way hI.rf _ _ | exact rg_of hI.rf _ _ | exact ⟨by omega, by omega⟩ | assumption) (fun h_78 => ?_) (fun h_78 => (by omega))
          refine r_iconst hC dL_rows_85 ?_
          refine r_istore (lv' := [_, _, _, _, _, _, _, _, _, _, _, _]) hC dL_rows_86 (lt_b rfl) rfl (lt_b rfl) rfl ?_
          refine r_iload hC dL_rows_88 rfl ?_
          refine r_iload hC dL_rows_90 rfl ?_
          refine r_if_eq (t := 102) hC dL_rows_92 (by rfl) (by first | exact hI.rf _ | exact rg_mI _ _ _ | exact rg_way hI.rf _ _ | exact rg_of hI.rf _ _ | exact ⟨by omega, by omega⟩ | assumption) (fun h_92 => ?_) (fun h_92 => (by omega))
          refine r_iconst hC dL_rows_102 ?_
          refine r_ior hC dL_rows_103 ?_
          rw [or_0 hmask]
          refine r_istore (lv' := [_, _, _, _, _, _, _, _, _, _, _, _]) hC dL_rows_104 (lt_b rfl) rfl (lt_b rfl) rfl ?_
          refine r_aload_n hC dL_rows_106 rfl ?_
          refine r_iload hC dL_rows_107 rfl ?_
          refine r_dup2 hC dL_rows_109 rfl rfl ?_
          refine r_iald hC dL_rows_110 har.1 ⟨by omega, by omega⟩ ?_
          refine r_iload hC dL_rows_111 rfl ?_
          refine r_if_eq (t := 120) hC dL_rows_113 (by rfl) (by first | exact hI.rf _ | exact rg_mI _ _ _ | exact rg_way hI.rf _ _ | exact rg_of hI.rf _ _ | exact ⟨by omega, by omega⟩ | assumption) (fun h_113 => ?_) (fun h_113 => (by omega))
          refine r_iconst hC dL_rows_120 ?_
          refine r_iadd hC dL_rows_121 ?_
          refine r_iast hC dL_rows_122 har.1 ⟨by omega, by omega⟩ ?_
          refine r_aload_n hC dL_rows_123 rfl ?_
          refine r_iload hC dL_rows_124 rfl ?_
          refine r_iconst hC dL_rows_126 ?_
          refine r_lrow hC hfC dL_rows_127 ml_L_15 hR7 x1 ⟨by omega, by omega⟩ ⟨by omega, by omega⟩ (hv 5 e5 (by rw [he5]; rfl)) (le_b rfl) (by omega) (by omega) ?_
          refine r_iload hC dL_rows_130 rfl ?_
          refine r_ishr hC dL_rows_132 ?_
          refine r_iconst hC dL_rows_133 ?_
          refine r_iand hC dL_rows_134 ?_
          refine r_iconst hC dL_rows_135 ?_
          by_cases hW : m_mark f j (1 + n) = true
          · have hW1 := heff.mpr hW
            refine r_icmp_ne (t := 143) hC dL_rows_136 (by rfl) (rg_and _ _) ⟨by omega, by omega⟩ (fun h_136 => absurd hW1 h_136) (fun h_136 => ?_)
            refine r_iconst hC dL_rows_139 ?_
            refine r_goto (t := 144) hC dL_rows_140 (by rfl) ?_
            refine r_istore (lv' := [_, _, _, _, _, _, _, _, _, _, _, _]) hC dL_rows_144 (lt_b rfl) rfl (lt_b rfl) rfl ?_
            refine r_iload hC dL_rows_146 rfl ?_
            refine r_if_eq (t := 156) hC dL_rows_148 (by rfl) (by first | exact hI.rf _ | exact rg_mI _ _ _ | exact rg_way hI.rf _ _ | exact rg_of hI.rf _ _ | exact ⟨by omega, by omega⟩ | assumption) (fun h_148 => ?_) (fun h_148 => (by omega))
            refine r_iload hC dL_rows_156 rfl ?_
            refine r_if_eq (t := 165) hC dL_rows_158 (by rfl) (by first | exact hI.rf _ | exact rg_mI _ _ _ | exact rg_way hI.rf _ _ | exact rg_of hI.rf _ _ | exact ⟨by omega, by omega⟩ | assumption) (fun h_158 => (by omega)) (fun h_158 => ?_)
            refine r_iconst hC dL_rows_161 ?_
            refine r_goto (t := 166) hC dL_rows_162 (by rfl) ?_
            refine r_istore (lv' := [_, _, _, _, _, _, _, _, _, _, _, _]) hC dL_rows_166 (lt_b rfl) rfl (lt_b rfl) rfl ?_
            refine r_iinc (lv' := [_, _, _, _, _, _, _, _, _, _, _, _]) hC dL_rows_168 rfl (lt_b rfl) rfl (lt_b rfl) rfl ?_
            refine r_goto (t := 48) hC dL_rows_171 (by rfl) ?_
            have k3 := kk _ (some (xI 0)) (some (xI 1)) x1 (x3 u hkp (by omega)) (x2 a har) (fun r => by rw [up_mI, if_neg hA]; rfl)
            rw [if_neg hA, if_neg hA, if_pos hW, hq'] at k3
            exact vw_widen (by omega) (by omega) k3
          · have hW1 : ¬ b_and (b_shr e5 n) 1 = 1 := fun y => hW (heff.mp y)
            refine r_icmp_ne (t := 143) hC dL_rows_136 (by rfl) (rg_and _ _) ⟨by omega, by omega⟩ (fun h_136 => ?_) (fun h_136 => absurd h_136 hW1)
            refine r_iconst hC dL_rows_143 ?_
            refine r_istore (lv' := [_, _, _, _, _, _, _, _, _, _, _, _]) hC dL_rows_144 (lt_b rfl) rfl (lt_b rfl) rfl ?_
            refine r_iload hC dL_rows_146 rfl ?_
            refine r_if_eq (t := 156) hC dL_rows_148 (by rfl) (by first | exact hI.rf _ | exact rg_mI _ _ _ | exact rg_way hI.rf _ _ | exact rg_of hI.rf _ _ | exact ⟨by omega, by omega⟩ | assumption) (fun h_148 => ?_) (fun h_148 => (by omega))
            refine r_iload hC dL_rows_156 rfl ?_
            refine r_if_eq (t := 165) hC dL_rows_158 (by rfl) (by first | exact hI.rf _ | exact rg_mI _ _ _ | exact rg_way hI.rf _ _ | exact rg_of hI.rf _ _ | exact ⟨by omega, by omega⟩ | assumption) (fun h_158 => ?_) (fun h_158 => (by omega))
            refine r_iconst hC dL_rows_165 ?_
            refine r_istore (lv' := [_, _, _, _, _, _, _, _, _, _, _, _]) hC dL_rows_166 (lt_b rfl) rfl (lt_b rfl) rfl ?_
            refine r_iinc (lv' := [_, _, _, _, _, _, _, _, _, _, _, _]) hC dL_rows_168 rfl (lt_b rfl) rfl (lt_b rfl) rfl ?_
            refine r_goto (t := 48) hC dL_rows_171 (by rfl) ?_
            have k3 := kk _ (some (xI 0)) (some (xI 0)) x1 (x3 u hkp (by omega)) (x2 a har) (fun r => by rw [up_mI, if_neg hA]; rfl)
            rw [if_neg hA, if_neg hA, if_neg hW, hq'] at k3
            exact vw_widen (by omega) (by omega) k3
      refine r_iload hC dL_rows_15 rfl ?_
      refine r_iload_n hC dL_rows_17 rfl ?_
      refine r_icmp_ge (t := 331) hC dL_rows_18 (by rfl) (by first | exact hI.rf _ | exact rg_mI _ _ _ | exact rg_way hI.rf _ _ | exact rg_of hI.rf _ _ | exact ⟨by omega, by omega⟩ | assumption) (by first | exact hI.rf _ | exact rg_mI _ _ _ | exact rg_way hI.rf _ _ | exact rg_of hI.rf _ _ | exact ⟨by omega, by omega⟩ | assumption) (fun h_18 => (by omega)) (fun h_18 => ?_)
      refine r_aload_n hC dL_rows_21 rfl ?_
      refine r_iload hC dL_rows_22 rfl ?_
      refine r_iconst hC dL_rows_24 ?_
      refine r_lrow hC hfC dL_rows_25 ml_L_15 hR7 hX0 ⟨by omega, by omega⟩ ⟨by omega, by omega⟩ (hv 0 nm (by rw [hnm]; rfl)) (le_b rfl) (by omega) (by omega) ?_
      refine r_istore (lv' := [_, _, _, _, _, _, _, _, _, _, _, _]) hC dL_rows_28 (lt_b rfl) rfl (lt_b rfl) rfl ?_
      refine r_aload_n hC dL_rows_30 rfl ?_
      refine r_iload hC dL_rows_31 rfl ?_
      refine r_iconst hC dL_rows_33 ?_
      refine r_lrow hC hfC dL_rows_34 ml_L_15 hR7 hX0 ⟨by omega, by omega⟩ ⟨by omega, by omega⟩ (hv 3 tp (by rw [htq]; rfl)) (le_b rfl) (by omega) (by omega) ?_
      refine r_istore (lv' := [_, _, _, _, _, _, _, _, _, _, _, _]) hC dL_rows_37 (lt_b rfl) rfl (lt_b rfl) rfl ?_
      refine r_iconst hC dL_rows_39 ?_
      refine r_istore (lv' := [_, _, _, _, _, _, _, _, _, _, _, _]) hC dL_rows_40 (lt_b rfl) rfl (lt_b rfl) rfl ?_
      refine r_iconst hC dL_rows_42 ?_
      refine r_istore (lv' := [_, _, _, _, _, _, _, _, _, _, _, _]) hC dL_rows_43 (lt_b rfl) rfl (lt_b rfl) rfl ?_
      refine r_iconst hC dL_rows_45 ?_
      refine r_istore (lv' := [_, _, _, _, _, _, _, _, _, _, _, _]) hC dL_rows_46 (lt_b rfl) rfl (lt_b rfl) rfl ?_
      refine rcv 2 1 2 rfl (by decide) (by decide) w0 0 0 _ _ _ _ hX0 hkp0 har0 rg_0 (by omega) (by omega) fun w2 _ _ y1 y2 y3 y4 => ?_
      refine rcv 1 0 1 rfl (by decide) (by decide) w2 _ _ _ _ _ _ y1 y2 y3 (by split; exact rg_or _ _; exact rg_0) (by omega) (by omega) fun w1 _ _ v1 v2 v3 v4 => ?_
      refine rcv 0 (-1) 0 rfl (by decide) (by decide) w1 _ _ _ _ _ _ v1 v2 v3 (by split; exact rg_or _ _; split; exact rg_or _ _; exact rg_0) (by omega) (by omega) fun w l10 l11 hX hkp har t4 => ?_
      obtain ⟨hwhy, wh1, wh2, wh3, wh4⟩ := w_why_is hE.2.1 hk2
      have hmk := w_mask_is f j
      unfold w_mask at hmk
      unfold w_why at hwhy wh3 wh4
      dsimp only at hmk hwhy wh3 wh4
      rw [hmk]
      generalize (if m_ans f j 0 = true then if m_ans f j 1 = true then if m_ans f j 2 = true then (0 : Int) else if m_mark f j (1 + 2) = true then 2 else 1 else if m_mark f j (1 + 1) = true then 2 else 1 else if m_mark f j (1 + 0) = true then 2 else 1) = why at hwhy wh3 wh4 ⊢
      obtain ⟨c, hc⟩ : ∃ c, c = c0 + 1 + 1 + 3 + 3 + 3 := ⟨_, rfl⟩
      obtain ⟨z, hz⟩ : ∃ z, z = z0 + 6 + 6 + 18 + 18 + 18 := ⟨_, rfl⟩
      rw [← hc, ← hz]
      have K252 : VW C 252 [some (xA x), some (xI (N : Int)), some (xI last), some (xA a), some (xI (k : Int)), some (xI nm), some (xI tp), some (xI (m_ansBy f j)), some (xI why), some (xI (m_why f j)), l10, l11] [] w (c + 4) (z + 24) := by
        refine r_aload_n hC dL_rows_252 rfl ?_
        refine r_iload hC dL_rows_253 rfl ?_
        refine r_iconst hC dL_rows_255 ?_
        refine r_lrow hC hfC dL_rows_256 ml_L_15 hR7 hX ⟨by omega, by omega⟩ ⟨by omega, by omega⟩ (hv 4 (m_value f j) rfl) (le_b rfl) (by omega) (by omega) ?_
        refine r_iconst hC dL_rows_259 ?_
        refine r_bipush hC dL_rows_260 (by rfl) ?_
        refine r_S0 hC dL_rows_262 mi_L_in ss_L_in ml_L_25 (rm := rmL_in) rfl rfl rfl ⟨by omega, by omega⟩ (l_in hfC ⟨by omega, by omega⟩ ⟨by omega, by omega⟩ ⟨by omega, by omega⟩) ?_ rfl
        refine r_beq (t := 282) hC dL_rows_265 (by rfl) (fun h_265 => absurd hvl h_265) (fun h_265 => ?_)
        refine r_iload hC dL_rows_268 rfl ?_
        refine r_iconst hC dL_rows_270 ?_
        refine r_iconst hC dL_rows_271 ?_
        refine r_S0 hC dL_rows_272 mi_L_in ss_L_in ml_L_25 (rm := rmL_in) rfl rfl rfl ⟨by omega, by omega⟩ (l_in hfC ⟨by omega, by omega⟩ ⟨by omega, by omega⟩ ⟨by omega, by omega⟩) ?_ rfl
        refine r_beq (t := 282) hC dL_rows_275 (by rfl) (fun h_275 => absurd htp h_275) (fun h_275 => ?_)
        refine r_iconst hC dL_rows_278 ?_
        refine r_goto (t := 283) hC dL_rows_279 (by rfl) ?_
        refine r_istore (lv' := [_, _, _, _, _, _, _, _, _, _, _, _]) hC dL_rows_283 (lt_b rfl) rfl (lt_b rfl) rfl ?_
        refine r_iload hC dL_rows_285 rfl ?_
        refine r_if_eq (t := 320) hC dL_rows_287 (by rfl) (by first | exact hI.rf _ | exact rg_mI _ _ _ | exact rg_way hI.rf _ _ | exact rg_of hI.rf _ _ | exact ⟨by omega, by omega⟩ | assumption) (fun h_287 => (by omega)) (fun h_287 => ?_)
        refine r_aload_n hC dL_rows_290 rfl ?_
        refine r_iload hC dL_rows_291 rfl ?_
        refine r_iconst hC dL_rows_293 ?_
        refine r_lrow hC hfC dL_rows_294 ml_L_15 hR7 hX ⟨by omega, by omega⟩ ⟨by omega, by omega⟩ (hv 2 (j : Int) rfl) (le_b rfl) (by omega) (by omega) ?_
        refine r_aload_n hC dL_rows_297 rfl ?_
        refine r_iconst hC dL_rows_298 ?_
        refine r_lcnt hC hfC dL_rows_299 ml_L_9 hR7 hX ⟨by omega, by omega⟩ (show m_countV f s 2 = f 2 from rfl) (le_b rfl) (by omega) (by omega) ?_
        refine r_icmp_ge (t := 320) hC dL_rows_302 (by rfl) (by first | exact hI.rf _ | exact rg_mI _ _ _ | exact rg_way hI.rf _ _ | exact rg_of hI.rf _ _ | exact ⟨by omega, by omega⟩ | assumption) (by first | exact hI.rf _ | exact rg_mI _ _ _ | exact rg_way hI.rf _ _ | exact rg_of hI.rf _ _ | exact ⟨by omega, by omega⟩ | assumption) (fun h_302 => (by omega)) (fun h_302 => ?_)
        refine r_aload_n hC dL_rows_305 rfl ?_
        refine r_iload hC dL_rows_306 rfl ?_
        refine r_iconst hC dL_rows_308 ?_
        refine r_lrow hC hfC dL_rows_309 ml_L_15 hR7 hX ⟨by omega, by omega⟩ ⟨by omega, by omega⟩ (hv 1 (m_write f j) rfl) (le_b rfl) (by omega) (by omega) ?_
        refine r_aload_n hC dL_rows_312 rfl ?_
        refine r_iconst hC dL_rows_313 ?_
        refine r_lcnt hC hfC dL_rows_314 ml_L_9 hR7 hX ⟨by omega, by omega⟩ (show m_countV f s 1 = f 1 from rfl) (le_b rfl) (by omega) (by omega) ?_
        refine r_icmp_lt (t := 322) hC dL_rows_317 (by rfl) (by first | exact hI.rf _ | exact rg_mI _ _ _ | exact rg_way hI.rf _ _ | exact rg_of hI.rf _ _ | exact ⟨by omega, by omega⟩ | assumption) (by first | exact hI.rf _ | exact rg_mI _ _ _ | exact rg_way hI.rf _ _ | exact rg_of hI.rf _ _ | exact ⟨by omega, by omega⟩ | assumption) (fun h_317 => ?_) (fun h_317 => (by omega))
        refine r_iload hC dL_rows_322 rfl ?_
        refine r_istore_n (lv' := [_, _, _, _, _, _, _, _, _, _, _, _]) hC dL_rows_324 (lt_b rfl) rfl (lt_b rfl) rfl ?_
        refine r_iinc (lv' := [_, _, _, _, _, _, _, _, _, _, _, _]) hC dL_rows_325 rfl (lt_b rfl) rfl (lt_b rfl) rfl ?_
        refine r_goto (t := 15) hC dL_rows_328 (by rfl) ?_
        rw [show (k : Int) + 1 = ((k + 1 : Nat) : Int) by omega]
        refine vw_widen (Nat.le_refl _) (Nat.le_refl _) (ih (k + 1) (by omega) _ _ _ _ _ _ _ _ _ _ _ hX hkp har (fun q hq => ?_) ⟨by omega, by omega, fun i hi hiN => ?_⟩ (by omega) (by omega))
        · have hs01 := sumN_01 (f := fun j => if m_ans f (o j) q = false then 1 else 0) k (fun j _ => by split <;> omega)
          simp only [sumN]
          rw [← hj, ← hg0 q hq]
          have hgb := hg0 q hq
          have hd : ∀ b : Bool, (if b = true then (0 : Int) else 1) = if b = false then 1 else 0 := by decide
          have h60 : (k : Int) ≤ 60 := by omega
          have hb1 : ∀ b : Bool, wr (mI w0 a q + (if b = true then (0 : Int) else 1)) = mI w0 a q + (if b = true then (0 : Int) else 1) := fun b => wr_id (by split <;> exact ⟨by omega, by omega⟩)
          rcases (show q = 0 ∨ q = 1 ∨ q = 2 by omega) with e | e | e
          · subst e
            rw [t4, if_pos (by decide), v4, if_neg (by decide), y4, if_neg (by decide)]
            exact (hb1 _).trans (by rw [hd]; rfl)
          · subst e
            rw [t4, if_neg (by decide), v4, if_pos (by decide), y4, if_neg (by decide)]
            exact (hb1 _).trans (by rw [hd]; rfl)
          · subst e
            rw [t4, if_neg (by decide), v4, if_neg (by decide), y4, if_pos (by decide)]
            exact (hb1 _).trans (by rw [hd]; rfl)
        · have := hO.2.1 k i (by omega) hiN
          rw [← hj, ← hnm] at this; exact this
      have K217 : VW C 217 [some (xA x), some (xI (N : Int)), some (xI last), some (xA a), some (xI (k : Int)), some (xI nm), some (xI tp), some (xI (m_ansBy f j)), some (xI why), some (xI (m_why f j)), l10, l11] [xI nm, xI nm] w (c + 3) (z + 18) := by
        refine r_icmp_ne (t := 282) hC dL_rows_217 (by rfl) (by first | exact hI.rf _ | exact rg_mI _ _ _ | exact rg_way hI.rf _ _ | exact rg_of hI.rf _ _ | exact ⟨by omega, by omega⟩ | assumption) (by first | exact hI.rf _ | exact rg_mI _ _ _ | exact rg_way hI.rf _ _ | exact rg_of hI.rf _ _ | exact ⟨by omega, by omega⟩ | assumption) (fun h_217 => absurd rfl h_217) (fun h_217 => ?_)
        refine r_aload_n hC dL_rows_220 rfl ?_
        refine r_iload hC dL_rows_221 rfl ?_
        refine r_bipush hC dL_rows_223 (by rfl) ?_
        refine r_lrow hC hfC dL_rows_225 ml_L_15 hR7 hX ⟨by omega, by omega⟩ ⟨by omega, by omega⟩ (hv 6 (m_ansBy f j) rfl) (le_b rfl) (by omega) (by omega) ?_
        refine r_iload hC dL_rows_228 rfl ?_
        refine r_icmp_ne (t := 282) hC dL_rows_230 (by rfl) (rg_ansBy _ _) (rg_ansBy _ _) (fun h_230 => absurd rfl h_230) (fun h_230 => ?_)
        rcases hwhy with hw1 | ⟨hw1, hw2⟩
        · skip
          refine r_iload hC dL_rows_233 rfl ?_
          refine r_iload hC dL_rows_235 rfl ?_
          refine r_icmp_eq (t := 252) hC dL_rows_237 (by rfl) (by first | exact hI.rf _ | exact rg_mI _ _ _ | exact rg_way hI.rf _ _ | exact rg_of hI.rf _ _ | exact ⟨by omega, by omega⟩ | assumption) (by first | exact hI.rf _ | exact rg_mI _ _ _ | exact rg_way hI.rf _ _ | exact rg_of hI.rf _ _ | exact ⟨by omega, by omega⟩ | assumption) (fun h_237 => ?_) (fun h_237 => (by omega))
          exact vw_widen (by omega) (by omega) K252
        · skip
          refine r_iload hC dL_rows_233 rfl ?_
          refine r_iload hC dL_rows_235 rfl ?_
          refine r_icmp_eq (t := 252) hC dL_rows_237 (by rfl) (by first | exact hI.rf _ | exact rg_mI _ _ _ | exact rg_way hI.rf _ _ | exact rg_of hI.rf _ _ | exact ⟨by omega, by omega⟩ | assumption) (by first | exact hI.rf _ | exact rg_mI _ _ _ | exact rg_way hI.rf _ _ | exact rg_of hI.rf _ _ | exact ⟨by omega, by omega⟩ | assumption) (fun h_237 => (by omega)) (fun h_237 => ?_)
          refine r_iload hC dL_rows_240 rfl ?_
          refine r_iconst hC dL_rows_242 ?_
          refine r_icmp_ne (t := 282) hC dL_rows_243 (by rfl) (by first | exact hI.rf _ | exact rg_mI _ _ _ | exact rg_way hI.rf _ _ | exact rg_of hI.rf _ _ | exact ⟨by omega, by omega⟩ | assumption) (by first | exact hI.rf _ | exact rg_mI _ _ _ | exact rg_way hI.rf _ _ | exact rg_of hI.rf _ _ | exact ⟨by omega, by omega⟩ | assumption) (fun h_243 => (by omega)) (fun h_243 => ?_)
          refine r_iload hC dL_rows_246 rfl ?_
          refine r_iconst hC dL_rows_248 ?_
          refine r_icmp_ne (t := 282) hC dL_rows_249 (by rfl) (by first | exact hI.rf _ | exact rg_mI _ _ _ | exact rg_way hI.rf _ _ | exact rg_of hI.rf _ _ | exact ⟨by omega, by omega⟩ | assumption) (by first | exact hI.rf _ | exact rg_mI _ _ _ | exact rg_way hI.rf _ _ | exact rg_of hI.rf _ _ | exact ⟨by omega, by omega⟩ | assumption) (fun h_249 => (by omega)) (fun h_249 => ?_)
          exact vw_widen (by omega) (by omega) K252
      refine r_iload hC dL_rows_48 rfl ?_
      refine r_if_lt (t := 174) hC dL_rows_50 (by rfl) (by first | exact hI.rf _ | exact rg_mI _ _ _ | exact rg_way hI.rf _ _ | exact rg_of hI.rf _ _ | exact ⟨by omega, by omega⟩ | assumption) (fun h_50 => ?_) (fun h_50 => (by omega))
      refine r_aload_n hC dL_rows_174 rfl ?_
      refine r_iload hC dL_rows_175 rfl ?_
      refine r_bipush hC dL_rows_177 (by rfl) ?_
      refine r_lrow hC hfC dL_rows_179 ml_L_15 hR7 hX ⟨by omega, by omega⟩ ⟨by omega, by omega⟩ (hv 7 (m_why f j) rfl) (le_b rfl) (by omega) (by omega) ?_
      refine r_istore (lv' := [_, _, _, _, _, _, _, _, _, _, _, _]) hC dL_rows_182 (lt_b rfl) rfl (lt_b rfl) rfl ?_
      refine r_iload hC dL_rows_184 rfl ?_
      refine r_iload_n hC dL_rows_186 rfl ?_
      refine r_icmp_le (t := 282) hC dL_rows_187 (by rfl) (by first | exact hI.rf _ | exact rg_mI _ _ _ | exact rg_way hI.rf _ _ | exact rg_of hI.rf _ _ | exact ⟨by omega, by omega⟩ | assumption) (by first | exact hI.rf _ | exact rg_mI _ _ _ | exact rg_way hI.rf _ _ | exact rg_of hI.rf _ _ | exact ⟨by omega, by omega⟩ | assumption) (fun h_187 => (by omega)) (fun h_187 => ?_)
      refine r_iload hC dL_rows_190 rfl ?_
      refine r_aload_n hC dL_rows_192 rfl ?_
      refine r_iconst hC dL_rows_193 ?_
      refine r_lset hC hfC dL_rows_194 ml_L_22 hR7 hX ⟨by omega, by omega⟩ (show f (10 + 0) = f 10 from rfl) (le_b rfl) (by omega) (by omega) ?_
      by_cases h10 : f 10 = 0
      · have hnj : nm = j := by rw [hnm]; unfold m_num; rw [if_pos h10]
        refine r_if_ne (t := 210) hC dL_rows_197 (by rfl) (by first | exact hI.rf _ | exact rg_mI _ _ _ | exact rg_way hI.rf _ _ | exact rg_of hI.rf _ _ | exact ⟨by omega, by omega⟩ | assumption) (fun h_197 => (by omega)) (fun h_197 => ?_)
        refine r_aload_n hC dL_rows_200 rfl ?_
        refine r_iload hC dL_rows_201 rfl ?_
        refine r_iconst hC dL_rows_203 ?_
        refine r_lrow hC hfC dL_rows_204 ml_L_15 hR7 hX ⟨by omega, by omega⟩ ⟨by omega, by omega⟩ (hv 2 nm (by rw [hnj]; rfl)) (le_b rfl) (by omega) (by omega) ?_
        refine r_goto (t := 217) hC dL_rows_207 (by rfl) ?_
        exact vw_widen (by omega) (by omega) K217
      · have hnj : nm = m_write f j := by rw [hnm]; unfold m_num; rw [if_neg h10]
        refine r_if_ne (t := 210) hC dL_rows_197 (by rfl) (by first | exact hI.rf _ | exact rg_mI _ _ _ | exact rg_way hI.rf _ _ | exact rg_of hI.rf _ _ | exact ⟨by omega, by omega⟩ | assumption) (fun h_197 => ?_) (fun h_197 => (by omega))
        refine r_aload_n hC dL_rows_210 rfl ?_
        refine r_iload hC dL_rows_211 rfl ?_
        refine r_iconst hC dL_rows_213 ?_
        refine r_lrow hC hfC dL_rows_214 ml_L_15 hR7 hX ⟨by omega, by omega⟩ ⟨by omega, by omega⟩ (hv 1 nm (by rw [hnj]; rfl)) (le_b rfl) (by omega) (by omega) ?_
        exact vw_widen (by omega) (by omega) K217
  refine r_aload_n hC dL_rows_0 rfl ?_
  refine r_iconst hC dL_rows_1 ?_
  refine r_lcnt hC hfC dL_rows_2 ml_L_9 hR7 hX0 ⟨by omega, by omega⟩ (show m_countV f s 3 = (N : Int) from hN) (le_b rfl) (by omega) (by omega) ?_
  refine r_istore_n (lv' := [_, _, _, _, _, _, _, _, _, _, _, _]) hC dL_rows_5 (lt_b rfl) rfl (lt_b rfl) rfl ?_
  refine r_iconst hC dL_rows_6 ?_
  refine r_istore_n (lv' := [_, _, _, _, _, _, _, _, _, _, _, _]) hC dL_rows_7 (lt_b rfl) rfl (lt_b rfl) rfl ?_
  refine r_iconst hC dL_rows_8 ?_
  refine r_newarr (n := 3) (ty := 0) hC dL_rows_9 (Or.inl ⟨rfl, rfl⟩) rfl (le_b rfl) (by omega) (by omega) ka_int (fun _ => ?_)
  obtain ⟨x1, x2, x3, x4⟩ := hX0.newA
  rw [← ha] at x3 x4 ⊢
  refine r_astore_n (lv' := [_, _, _, _, _, _, _, _, _, _, _, _]) hC dL_rows_11 (lt_b rfl) rfl (lt_b rfl) rfl ?_
  refine r_iconst hC dL_rows_12 ?_
  refine r_istore (lv' := [_, _, _, _, _, _, _, _, _, _, _, _]) hC dL_rows_13 (lt_b rfl) rfl (lt_b rfl) rfl ?_
  exact loop N 0 (by omega) _ _ _ _ _ _ _ _ (-1) _ _ x1 x2 x3 (fun q _ => by rw [x4]; rfl) ⟨by decide, by decide, fun j _ hj => by have := num_pos hro (hon j hj); omega⟩ (by omega) (by omega)
