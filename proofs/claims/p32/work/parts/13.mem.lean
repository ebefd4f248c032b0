section RA
variable {C : Cx} {cc : ByteArray} {own : String} {R : Room} {nL : Nat} {pc : Nat} {lv : LV} {st : List SV} {u : Mem} {c z : Nat}
theorem ix_nn {i : Int} {n : Nat} (h : 0 ≤ i ∧ i < n) (hn : n < 2147483648) : (Int32.ofInt i).toNatClampNeg = i.toNat := by
  show (wr i).toNat = _
  rw [wr_id ⟨by omega, by omega⟩]
theorem ix_in {i : Int} {n : Nat} (h : 0 ≤ i ∧ i < n) (hn : n < 2147483648) : vp_in (Int32.ofInt i) n := by
  rw [vp_in_iff]
  show 0 ≤ wr i ∧ wr i < n
  rw [wr_id ⟨by omega, by omega⟩]; exact h
theorem ix_ge {i : Int} {n : Nat} (h : 0 ≤ i ∧ i < n) (hn : n < 2147483648) : ¬ Int32.ofInt i < 0 := fun q => ix_in h hn (Or.inl q)
theorem ix_lt {i : Int} {n : Nat} (h : 0 ≤ i ∧ i < n) (hn : n < 2147483648) : (Int32.ofInt i).toNatClampNeg < n := Nat.not_le.mp fun q => ix_in h hn (Or.inr q)
theorem ix_cast {i : Int} (h : 0 ≤ i) : ((i.toNat : Nat) : Int) = i := Int.toNat_of_nonneg h
theorem tysD_at (D : DD) {k : Nat} (hk : k < 6) : (tysD D)[k]? = some (D.2.2.2.1 k, aTy k) := by
  unfold tysD
  rw [List.getElem?_map, List.getElem?_range hk]; rfl
theorem aX_0 (n : Nat) (u : Mem) (a : Nat) : aX 0 n u a = (n, .inl fun j : Nat => u.2.1 a j) := rfl
theorem aX_1 (n : Nat) (u : Mem) (a : Nat) : aX 1 n u a = (n, .inr (.inl fun j : Nat => u.2.2.2.1 a j)) := rfl
theorem r_iald (hC : CxOK C cc own R nL) {a n : Nat} {i : Int} (hd : decode cc pc = .ok (.iaload, 1)) (hs : mSh u a = some (.inr (0, n))) (hi : 0 ≤ i ∧ i < n) (kk : VW C (pc + 1) lv (xI (mI u a i) :: st) u c z) : VW C pc lv (xI i :: xA a :: st) u c z := by
  obtain ⟨p, l, e, R, s, m, args, below, meth, cd, Q, D⟩ := C
  obtain ⟨hx, hb, hml, hown, hts, ⟨hK, hKX⟩, hR, hbs, hfl, hlk⟩ := hC
  intro H locs ls hu hS hl
  obtain ⟨-, hn, hle, hat⟩ := hu.arr hs (by decide)
  refine va_iald (D := (D.2.1, D.2.2.1)) (ws := [(a, .inl (D.2.2.2.1 0, n, .inl fun j => u.2.1 a j))]) hx hb hK (va_P1 hat) 0 0 rfl (tysD_at D (by decide)) (ix_in hi hn) hd ?_
  have h := kk H locs ls hu hS hl
  rw [show (xI (mI u a i) :: st).map toV = .int (Int32.ofInt (mI u a i)) :: st.map toV from rfl, mI_ofInt] at h
  rw [ix_nn hi hn, ix_cast hi.1]
  exact h
theorem r_ialdS (hC : CxOK C cc own R nL) {a n : Nat} {i : Int} (hd : decode cc pc = .ok (.iaload, 1)) (hs : mSh u a = some (.inr (9, n))) (hi : 0 ≤ i ∧ i < n) (kk : VW C (pc + 1) lv (xI (mI u a i) :: st) u c z) : VW C pc lv (xI i :: xA a :: st) u c z := by
  obtain ⟨p, l, e, R, s, m, args, below, meth, cd, Q, D⟩ := C
  obtain ⟨hx, hb, hml, hown, hts, ⟨hK, hKX⟩, hR, hbs, hfl, hlk⟩ := hC
  intro H locs ls hu hS hl
  obtain ⟨hn, -, cell, h1, h2, h3, h4, h5⟩ := hu.sta hs
  refine W.iald (v := .int (u.2.1 a i)) hx hb h1 h2 h3 (by rw [h4]; exact ix_in hi hn) ?_ rfl rfl hd ?_
  · rw [ix_nn hi hn, h5 _ (by omega), ix_cast hi.1]
  have h := kk H locs ls hu hS hl
  rw [show (xI (mI u a i) :: st).map toV = .int (Int32.ofInt (mI u a i)) :: st.map toV from rfl, mI_ofInt] at h
  exact h
theorem r_aald (hC : CxOK C cc own R nL) {a n ty : Nat} {i : Int} {r : Option Nat} (hd : decode cc pc = .ok (.aaload, 1)) (hs : mSh u a = some (.inr (ty, n))) (h2 : 2 ≤ ty) (h6 : ty < 6) (hi : 0 ≤ i ∧ i < n) (hp : mP u a i = r) (kk : VW C (pc + 1) lv (xR r :: st) u c z) : VW C pc lv (xI i :: xA a :: st) u c z := by
  obtain ⟨p, l, e, R, s, m, args, below, meth, cd, Q, D⟩ := C
  obtain ⟨hx, hb, hml, hown, hts, ⟨hK, hKX⟩, hR, hbs, hfl, hlk⟩ := hC
  intro H locs ls hu hS hl
  subst hp
  obtain ⟨-, hn, hle, hat⟩ := hu.arr hs (by omega)
  obtain ⟨nm, hnm⟩ : ∃ nm, aTy ty = .object nm := by
    match ty, h2, h6 with
    | 2, _, _ => exact ⟨_, rfl⟩
    | 3, _, _ => exact ⟨_, rfl⟩
    | 4, _, _ => exact ⟨_, rfl⟩
    | 5, _, _ => exact ⟨_, rfl⟩
  have hx2 : aX ty n u a = (n, .inr (.inr (.inr (.inr fun j : Nat => u.2.2.1 a j)))) := by
    unfold aX; rw [if_neg (by omega), if_neg (by omega)]
  rw [hx2] at hat
  refine va_aldq (D := (D.2.1, D.2.2.1)) (C := nm) (ws := [(a, .inl (D.2.2.2.1 ty, n, .inr (.inr (.inr (.inr fun j : Nat => u.2.2.1 a j)))))]) hx hb hK (va_P1 hat) 0 ty rfl (by rw [tysD_at D h6, hnm]) (ix_in hi hn) hd ?_
  rw [ix_nn hi hn, ix_cast hi.1]
  exact kk H locs ls hu hS hl
/-- an array's place is written: the heap behind it -/
theorem arr_at {D : DD} {U : State} {u1 : Mem} {H1 : Heap} {a ty n : Nat} (h9 : ty ≠ 9) (h6 : ty < 6) (hn : n < 2147483648) (hle : D.1 ≤ a) (hsh : mSh u1 a = some (.inr (ty, n))) (e1 : H1[a]? = some (vp_cell (D.2.2.2.1 ty) (aX ty n u1 a))) : RelAt D U u1 H1 a := by
  unfold RelAt
  rw [hsh]
  dsimp only
  rw [if_neg h9]
  exact ⟨h6, hn, hle, e1⟩
theorem r_iast (hC : CxOK C cc own R nL) {a n : Nat} {i v : Int} (hd : decode cc pc = .ok (.iastore, 1)) (hs : mSh u a = some (.inr (0, n))) (hi : 0 ≤ i ∧ i < n) (kk : VW C (pc + 1) lv st (sI u a i v) c z) : VW C pc lv (xI v :: xI i :: xA a :: st) u c z := by
  obtain ⟨p, l, e, R, s, m, args, below, meth, cd, Q, D⟩ := C
  obtain ⟨hx, hb, hml, hown, hts, ⟨hK, hKX⟩, hR, hbs, hfl, hlk⟩ := hC
  intro H locs ls hu hS hl
  obtain ⟨-, hn, hle, hat⟩ := hu.arr hs (by decide)
  refine W.iast hx hb hat ((hK.2 0 _ (tysD_at D (by decide))).1 n (fun j => .int (u.2.1 a j))) (fun q => by cases q) (by show ¬ (_ < 0 ∨ (arrV _ _ _).slots.size ≤ _); rw [arrV_size]; exact ix_in hi hn) rfl rfl hd fun H1 e z oq => ?_
  refine kk H1 _ ls (hu.put hle z oq rfl rfl (fun b hb k' => ?_) (fun _ _ _ => rfl) (fun _ _ _ => rfl) (arr_at (ty := 0) (n := n) (by decide) (by decide) hn hle hs ?_)) (hS.put z oq hle) hl
  · simp only [sI, up2]; rw [if_neg (fun q => hb q.1)]
  · rw [e, ix_nn hi hn]
    rw [aX_0, aX_0, vp_cell_i, vp_cell_i, arrV_store]
    congr 2
    funext q
    by_cases hq : q = i.toNat
    · subst hq
      simp [updV, sI, up2, ix_cast hi.1]
    · have : ((q : Int) = i) = False := eq_false (by omega)
      simp [updV, sI, up2, this, hq]
theorem r_aast (hC : CxOK C cc own R nL) {a n ty v cv : Nat} {i : Int} {r : vw_C} (hd : decode cc pc = .ok (.aastore, 1)) (hs : mSh u a = some (.inr (ty, n))) (h2 : 2 ≤ ty) (h6 : ty < 6) (hv : mSh u v = some (.inl cv)) (hc : vwCl[cv]? = some r) (ht : aTy ty = .object r.1) (hi : 0 ≤ i ∧ i < n) (kk : VW C (pc + 1) lv st (sP u a i (some v)) c z) : VW C pc lv (xA v :: xI i :: xA a :: st) u c z := by
  obtain ⟨p, l, e, R, s, m, args, below, meth, cd, Q, D⟩ := C
  obtain ⟨hx, hb, hml, hown, hts, ⟨hK, hKX⟩, hR, hbs, hfl, hlk⟩ := hC
  intro H locs ls hu hS hl
  obtain ⟨-, hn, hle, hat⟩ := hu.arr hs (by omega)
  obtain ⟨-, r', hr', cellV, g1, g2, g3, -⟩ := hu.obj hv
  cases hc.symm.trans hr'
  have hx2 : ∀ w : Mem, aX ty n w a = (n, .inr (.inr (.inr (.inr fun j : Nat => w.2.2.1 a j)))) := fun w => by
    unfold aX; rw [if_neg (by omega), if_neg (by omega)]
  rw [hx2] at hat
  have hcls := (hK.1 cv r hc).2
  have hty := hK.2 ty _ (tysD_at D h6)
  rw [ht] at hty
  obtain ⟨kA, comp, k1, k2, k3, -⟩ := hty.2
  have hcomp : comp = D.2.1 cv := Option.some.inj (k3.symm.trans hcls.1)
  subst hcomp
  obtain ⟨kC, hkC, -⟩ := hcls.2
  refine W.aast hx hb hat (fun q h => by cases h) (fun h => by cases h) k1 k2 rfl hkC ⟨ix_ge hi hn, by show _ < (arrV _ _ _).slots.size; rw [arrV_size]; exact ix_lt hi hn⟩ g1 (fun q h => by rw [g3] at h; cases h) (by rw [g2]; exact hkC) (by rw [g2]; exact va_assign hcls) rfl rfl hd fun H1 e z oq => ?_
  refine kk H1 _ ls (hu.put hle z oq rfl rfl (fun _ _ _ => rfl) (fun b hb k' => ?_) (fun _ _ _ => rfl) (arr_at (ty := ty) (n := n) (by omega) h6 hn hle hs ?_)) (hS.put z oq hle) hl
  · simp only [sP, up2]; rw [if_neg (fun q => hb q.1)]
  · rw [e, ix_nn hi hn, hx2]
    rw [vp_cell_q, vp_cell_q, arrV_store]
    congr 2
    funext q
    by_cases hq : q = i.toNat
    · subst hq
      simp [updV, sP, up2, va_rf, ix_cast hi.1]
    · have : ((q : Int) = i) = False := eq_false (by omega)
      simp [updV, sP, up2, this, hq]
theorem r_alenS (hC : CxOK C cc own R nL) {a n : Nat} (hd : decode cc pc = .ok (.arraylength, 1)) (hs : mSh u a = some (.inr (9, n))) (kk : VW C (pc + 1) lv (xI n :: st) u c z) : VW C pc lv (xA a :: st) u c z := by
  obtain ⟨p, l, e, R, s, m, args, below, meth, cd, Q, D⟩ := C
  obtain ⟨hx, hb, hml, hown, hts, ⟨hK, hKX⟩, hR, hbs, hfl, hlk⟩ := hC
  intro H locs ls hu hS hl
  obtain ⟨hn, -, cell, h1, h2, h3, h4, h5⟩ := hu.sta hs
  exact W.alen (n := Int32.ofInt n) hx hb h1 h2 (by rw [h4]; rfl) rfl rfl hd (kk H locs ls hu hS hl)
theorem dflt_at (ci k : Nat) (h : ci < 9) (hk : k < 14) : defaultValue (cTy ci k) = if fR ci k = true then .null else .int 0 := by
  have key : ∀ ci, ci < 9 → ∀ k, k < 14 → defaultValue (cTy ci k) = if fR ci k = true then .null else .int 0 := by decide +kernel
  exact key ci h k hk
theorem r_new (hC : CxOK C cc own R nL) {ci idx : Nat} {r : vw_C} (hd : decode cc pc = .ok (.new idx, 3)) (hc : vwCl[ci]? = some r) (hcl : Cond.classLink own idx r.1 ∈ wAll) (hin : Cond.instantiable r.1 r.2.2 ∈ wAll) (hini : Cond.initialized r.1 ∈ wAll) (hcs : c + 1 ≤ R.cells) (hzs : z + r.2.2 ≤ R.slots) (kk : mSh u (mN u) = none → VW C (pc + 3) lv (xA (mN u) :: st) (nC u (some (.inl ci))) (c + 1) (z + r.2.2)) : VW C pc lv st u c z := by
  obtain ⟨p, l, e, R1, s, m, args, below, meth, cd, Q, D⟩ := C
  obtain ⟨hx, hb, hml, hown, hts, ⟨hK, hKX⟩, hR, hbs, hfl, hlk⟩ := hC
  intro H locs ls hu hS hl
  subst hR
  obtain ⟨h14, hinw, htys, hnm⟩ := clsOK ci r hc
  have hKn := hK.1 ci _ hc
  refine W.newcK hx hb hown (hts _ hcl) (hts _ hin) (hts _ hini) rfl hd hcs hzs hKn.2.1 hu.1 fun H1 kC hkC e1 z1 o1 => ?_
  refine kk (hu.2.2.1 _ (Nat.le_refl _)) H1 locs ls (hu.push (by rw [z1, hu.1]) (fun q hq => o1 q (by rw [← hu.1]; exact hq)) ?_) ⟨by rw [z1, ← hu.1]; exact Nat.le_trans hS.1 (Nat.le_succ _), fun q h1 h2 => (o1 q (by rw [← hu.1]; exact Nat.lt_of_lt_of_le h1 hS.1)).trans (hS.2.1 q h1 h2), hS.2.2⟩ hl
  unfold RelAt
  rw [mSh_nC, if_pos rfl]
  refine ⟨hu.2.1, r, hc, (u_born (cTy ci) hts hinw hKn hkC e1 htys).to fun k hk => ?_⟩
  dsimp only
  rw [vpV_at ci _ _ k (by omega)]
  rw [dflt_at ci k (Nat.lt_of_lt_of_le (List.getElem?_eq_some_iff.mp hc).1 (by decide)) (by omega)]
  simp only [fV, nC, up1, if_true]
  rfl
end RA
