/-! ===== fields, arrays, new cells ===== -/
theorem va_P1 {D : va_G} {cl : List vw_C} {q : Nat × va_E} {H : Heap} (h : va_at D cl q H) : va_P D cl [q] H := by
  intro k p hp
  cases k with
  | zero => simp at hp; rw [← hp]; exact h
  | succ k => simp at hp
def ClsOK (ci : Nat) : Prop := ∀ r : vw_C, vwCl[ci]? = some r → r.2.2 ≤ 14 ∧ (∀ w ∈ u_ws r.1 r.2.1 r.2.2, w ∈ wAll) ∧ (∀ k, k < r.2.2 → parseFieldDescriptor (r.2.1 k).2.2.1 = some (cTy ci k)) ∧ ∀ a, a < r.2.2 → ∀ b, b < r.2.2 → a ≠ b → (r.2.1 a).2.1 ≠ (r.2.1 b).2.1
theorem in_all {ws : List Cond} (h : ws.all (fun w => decide (w ∈ lw_tbl) && goodWord w) = true) : ∀ w ∈ ws, w ∈ wAll := by
  intro w hw
  have h1 := List.all_eq_true.mp h w hw
  simp only [Bool.and_eq_true, decide_eq_true_eq] at h1
  exact List.mem_filter.mpr ⟨h1.1, h1.2⟩
theorem in_at {w : Cond} (i : Nat) (h : lw_tbl[i]? = some w) (hg : goodWord w = true) : w ∈ wAll := List.mem_filter.mpr ⟨List.mem_of_getElem? h, hg⟩
set_option maxRecDepth 100000 in
theorem clsOK : ∀ ci, ClsOK ci := by
  intro ci r hr
  match ci, hr with
  | 0, hr => cases hr; exact ⟨by decide, in_all (by decide +kernel), tyX0_ok, nmX0⟩
  | 1, hr => cases hr; exact ⟨by decide, in_all (by decide +kernel), tyX1_ok, nmX1⟩
  | 2, hr => cases hr; exact ⟨by decide, in_all (by decide +kernel), tyX2_ok, nmX2⟩
  | 3, hr => cases hr; exact ⟨by decide, in_all (by decide +kernel), tyX3_ok, nmX3⟩
  | 4, hr => cases hr; exact ⟨by decide, in_all (by decide +kernel), tyX4_ok, nmX4⟩
  | 5, hr => cases hr; exact ⟨by decide, in_all (by decide +kernel), tyX5_ok, nmX5⟩
  | 6, hr => cases hr; exact ⟨by decide, in_all (by decide +kernel), tyX6_ok, nmX6⟩
  | 7, hr => cases hr; exact ⟨by decide, in_all (by decide +kernel), tyX7_ok, nmX7⟩
  | n + 8, hr => simp [vwCl] at hr
theorem fs_at (ci : Nat) (u : Mem) (a k : Nat) (hk : k < 14) : ((List.range 14).map fun k => fV ci k u a)[k]? = some (fV ci k u a) := by
  rw [List.getElem?_map, List.getElem?_range hk]; rfl
theorem vpV_at (ci : Nat) (u : Mem) (a k : Nat) (hk : k < 14) : vp_V ((List.range 14).map fun k => fV ci k u a) k = fV ci k u a := by
  unfold vp_V
  rw [List.getD_eq_getElem?_getD, fs_at ci u a k hk]; rfl
/-- own's entry idx is the field k of class ci -/
def FL (own : String) (idx ci k : Nat) : Prop := ∃ r : vw_C, vwCl[ci]? = some r ∧ k < r.2.2 ∧ Cond.fieldLink own idx (r.2.1 k).1 (r.2.1 k).2.1 (r.2.1 k).2.2.1 ∈ wAll
theorem Rel.obj {D : DD} {U : State} {u : Mem} {H : Heap} {a ci : Nat} (h : Rel D U u H) (hs : mSh u a = some (.inl ci)) : D.1 ≤ a ∧ va_at (D.2.1, D.2.2.1) vwCl (a, .inr (ci, (List.range 14).map fun k => fV ci k u a)) H := by
  have h1 := h.2.2.2.2 a
  unfold RelAt at h1
  rw [hs] at h1
  exact h1
theorem Rel.arr {D : DD} {U : State} {u : Mem} {H : Heap} {a ty n : Nat} (h : Rel D U u H) (hs : mSh u a = some (.inr (ty, n))) (h9 : ty ≠ 9) : ty < 6 ∧ n < 2147483648 ∧ D.1 ≤ a ∧ H[a]? = some (vp_cell (D.2.2.2.1 ty) (aX ty n u a)) := by
  have h1 := h.2.2.2.2 a
  unfold RelAt at h1
  rw [hs] at h1
  dsimp only at h1
  rw [if_neg h9] at h1
  exact h1
theorem Rel.sta {D : DD} {U : State} {u : Mem} {H : Heap} {a n : Nat} (h : Rel D U u H) (hs : mSh u a = some (.inr (9, n))) : n < 2147483648 ∧ a < D.1 ∧ ∃ cell : Cell, H[a]? = some cell ∧ U.isArrayOf cell .int ∧ cell.vm ≠ .unknown ∧ cell.slots.size = n ∧ ∀ j : Nat, j < n → cell.slots[j]? = some (.int (u.2.1 a j)) := by
  have h1 := h.2.2.2.2 a
  unfold RelAt at h1
  rw [hs] at h1
  exact h1
theorem Rel.szlt {D : DD} {U : State} {u : Mem} {H : Heap} {a : Nat} (h : Rel D U u H) (hs : mSh u a ≠ none) : a < mN u := by
  rcases Nat.lt_or_ge a (mN u) with q | q
  · exact q
  · exact absurd (h.2.2.1 a q) hs
section RM
variable {C : Cx} {cc : ByteArray} {own : String} {R : Room} {nL : Nat} {pc : Nat} {lv : LV} {st : List SV} {u : Mem} {c z : Nat}
theorem r_getI (hC : CxOK C cc own R nL) {ci k idx a : Nat} {j : Int} (hd : decode cc pc = .ok (.getfield idx, 3)) (hf : FL own idx ci k) (hr : fR ci k = false) (hj : (k : Int) = j) (hs : mSh u a = some (.inl ci)) (kk : VW C (pc + 3) lv (xI (mI u a j) :: st) u c z) : VW C pc lv (xA a :: st) u c z := by
  obtain ⟨p, l, e, R, s, m, args, below, meth, cd, Q, D⟩ := C
  obtain ⟨hx, hb, hml, hown, hts, ⟨hK, hKX⟩, hR, hbs, hfl, hlk⟩ := hC
  intro H locs ls hu hS hl
  subst hj
  obtain ⟨r, hc, hk, hlink⟩ := hf
  obtain ⟨h14, hin, hty, hnm⟩ := clsOK ci r hc
  obtain ⟨hle, hat⟩ := hu.obj hs
  refine va_get (D := (D.2.1, D.2.2.1)) (C := r.1) (T := r.2.1) (N := r.2.2) (ref := (r.2.1 k).1) hx hb hts hin hown hK (va_P1 hat) 0 rfl hc k hk (hts _ hlink) (fun _ h => h) (fs_at ci u a k (by omega)) hd ?_
  have h := kk H locs ls hu hS hl
  rw [show (xI (mI u a (k : Int)) :: st).map toV = .int (Int32.ofInt (mI u a (k : Int))) :: st.map toV from rfl, mI_ofInt] at h
  rw [show fV ci k u a = .int (u.2.1 a k) from by simp [fV, hr]]
  exact h
theorem r_getR (hC : CxOK C cc own R nL) {ci k idx a : Nat} {j : Int} {r : Option Nat} (hd : decode cc pc = .ok (.getfield idx, 3)) (hf : FL own idx ci k) (hr : fR ci k = true) (hj : (k : Int) = j) (hs : mSh u a = some (.inl ci)) (hp : mP u a j = r) (kk : VW C (pc + 3) lv (xR r :: st) u c z) : VW C pc lv (xA a :: st) u c z := by
  obtain ⟨p, l, e, R, s, m, args, below, meth, cd, Q, D⟩ := C
  obtain ⟨hx, hb, hml, hown, hts, ⟨hK, hKX⟩, hR, hbs, hfl, hlk⟩ := hC
  intro H locs ls hu hS hl
  subst hj
  subst hp
  obtain ⟨r, hc, hk, hlink⟩ := hf
  obtain ⟨h14, hin, hty, hnm⟩ := clsOK ci r hc
  obtain ⟨hle, hat⟩ := hu.obj hs
  refine va_get (D := (D.2.1, D.2.2.1)) (C := r.1) (T := r.2.1) (N := r.2.2) (ref := (r.2.1 k).1) hx hb hts hin hown hK (va_P1 hat) 0 rfl hc k hk (hts _ hlink) (fun _ h => h) (fs_at ci u a k (by omega)) hd ?_
  have h := kk H locs ls hu hS hl
  rw [show fV ci k u a = va_rf (mP u a k) from by simp [fV, hr, mP]]
  exact h
/-- a field is written: the heap behind it -/
theorem put_at {D : DD} {U : State} {u u1 : Mem} {H1 : Heap} {a ci k : Nat} {r : vw_C} {cell : Cell} {v : Value} (hc : vwCl[ci]? = some r) (h14 : r.2.2 ≤ 14) (hk : k < r.2.2) (hsh : mSh u1 a = some (.inl ci)) (hle : D.1 ≤ a) (hap : ∀ x y, x < r.2.2 → y < r.2.2 → x ≠ y → (D.2.2.1 ci) x ≠ (D.2.2.1 ci) y) (q2 : cell.cls = D.2.1 ci) (q3 : cell.vm = .none)
    (q4 : ∀ j, j < r.2.2 → cell.slots[D.2.2.1 ci j]? = some (vp_V ((List.range 14).map fun k => fV ci k u a) j)) (e1 : H1[a]? = some (cell.setSlot (D.2.2.1 ci k) v)) (hv : fV ci k u1 a = v) (ho : ∀ j, j ≠ k → fV ci j u1 a = fV ci j u a) : RelAt D U u1 H1 a := by
  unfold RelAt
  rw [hsh]
  refine ⟨hle, r, hc, _, e1, q2, q3, fun j hj => ?_⟩
  rw [t_set q4 hap hk v j hj]
  congr 1
  rw [vpV_at ci u1 a j (by omega)]
  by_cases hjk : j = k
  · subst hjk
    simp [updV, hv]
  · simp only [updV, if_neg hjk]
    rw [vpV_at ci u a j (by omega), ho j hjk]
theorem r_putI (hC : CxOK C cc own R nL) {ci k idx a : Nat} {i j : Int} (hd : decode cc pc = .ok (.putfield idx, 3)) (hf : FL own idx ci k) (hj : (k : Int) = j) (hs : mSh u a = some (.inl ci)) (hfin : ∀ r : vw_C, vwCl[ci]? = some r → (r.2.1 k).2.2.2 = false) (hty : cTy ci k = .int ∨ (cTy ci k = .boolean ∧ (i = 0 ∨ i = 1))) (kk : VW C (pc + 3) lv st (sI u a j i) c z) : VW C pc lv (xI i :: xA a :: st) u c z := by
  obtain ⟨p, l, e, R, s, m, args, below, meth, cd, Q, D⟩ := C
  obtain ⟨hx, hb, hml, hown, hts, ⟨hK, hKX⟩, hR, hbs, hfl, hlk⟩ := hC
  intro H locs ls hu hS hl
  subst hj
  obtain ⟨r, hc, hk, hlink⟩ := hf
  obtain ⟨h14, hin, htys, hnm⟩ := clsOK ci r hc
  obtain ⟨hle, hat⟩ := hu.obj hs
  have hr : fR ci k = false := by rcases hty with h | ⟨h, -⟩ <;> simp [fR, h]
  have hap := va_apart (D := (D.2.1, D.2.2.1)) (own := own) hts hin (cTy ci) htys hnm hK hc
  obtain ⟨r', h1, cell, q1, q2, q3, q4⟩ := hat
  cases hc.symm.trans h1
  obtain ⟨hSl, hfc, kC, hkC, hkind⟩ := hK.1 ci _ hc
  obtain ⟨cf, kf, fi, f, hi, hsl⟩ := hSl k hk
  have hlay := hts _ (hin _ (u_in_lay hk))
  unfold u_lay at hlay
  rw [if_neg (by rw [hfin r hc]; decide)] at hlay
  have hst := (u_facts hfc hkC (u_lays hts hin hk) hi).1
  have hnar : narrow (cTy ci k) (.int (Int32.ofInt i)) = .int (Int32.ofInt i) := by
    rcases hty with h | ⟨h, h1 | h1⟩ <;> rw [h] <;> first | rfl | (subst h1; rfl)
  have hfit : fits (cTy ci k) (.int (Int32.ofInt i)) = true := by
    rcases hty with h | ⟨h, h1 | h1⟩ <;> rw [h] <;> first | rfl | (subst h1; rfl)
  have h6 := u_store hfc hkC hkind hlay hi (htys k hk) hnar hfit
  refine W.putK hx hb (f := f) ⟨hown, hts _ hlink, ⟨_, _, _, hi⟩, hst⟩ (by rw [q2]; exact h6) q1 q3 (by rw [hsl]; exact k2_hasslot (q4 k hk)) rfl rfl hd fun H' e1 e2 e3 => ?_
  rw [hsl] at e1 ⊢
  refine kk H' _ ls (hu.put hle e2 e3 rfl rfl (fun b hb k' => ?_) (fun _ _ _ => rfl) (fun _ _ _ => rfl) (put_at hc h14 hk hs hle hap q2 q3 q4 e1 ?_ fun j' hj' => ?_)) (hS.put e2 e3 hle) hl
  · simp only [sI, up2]; rw [if_neg (fun q => hb q.1)]
  · simp [fV, hr, sI, up2, toV]
  · have : ((j' : Int) = (k : Int)) = False := eq_false (by omega)
    simp only [fV, sI, up2, this, and_false, if_false]
theorem r_putR (hC : CxOK C cc own R nL) {ci k idx a : Nat} {j : Int} {v : Option Nat} (hd : decode cc pc = .ok (.putfield idx, 3)) (hf : FL own idx ci k) (hj : (k : Int) = j) (hs : mSh u a = some (.inl ci)) (hfin : (∀ r : vw_C, vwCl[ci]? = some r → (r.2.1 k).2.2.2 = false) ∨ ((∀ r : vw_C, vwCl[ci]? = some r → (r.2.1 k).2.2.2 = true ∧ (r.2.1 k).1 = own) ∧ C.2.2.2.2.2.2.2.2.1.name = "<init>")) (hty : (cTy ci k).isReference = true) (kk : VW C (pc + 3) lv st (sP u a j v) c z) : VW C pc lv (xR v :: xA a :: st) u c z := by
  obtain ⟨p, l, e, R, s, m, args, below, meth, cd, Q, D⟩ := C
  obtain ⟨hx, hb, hml, hown, hts, ⟨hK, hKX⟩, hR, hbs, hfl, hlk⟩ := hC
  intro H locs ls hu hS hl
  subst hj
  obtain ⟨r, hc, hk, hlink⟩ := hf
  obtain ⟨h14, hin, htys, hnm⟩ := clsOK ci r hc
  obtain ⟨hle, hat⟩ := hu.obj hs
  have hr : fR ci k = true := by
    unfold fR
    cases h : cTy ci k <;> first | rfl | (rw [h] at hty; cases hty)
  have hap := va_apart (D := (D.2.1, D.2.2.1)) (own := own) hts hin (cTy ci) htys hnm hK hc
  obtain ⟨r', h1, cell, q1, q2, q3, q4⟩ := hat
  cases hc.symm.trans h1
  obtain ⟨hSl, hfc, kC, hkC, hkind⟩ := hK.1 ci _ hc
  obtain ⟨cf, kf, fi, f, hi, hsl⟩ := hSl k hk
  have hlay := hts _ (hin _ (u_in_lay hk))
  have hst := (u_facts hfc hkC (u_lays hts hin hk) hi).1
  have hnar : narrow (cTy ci k) (va_rf v) = va_rf v := by
    cases h : cTy ci k <;> first | (rw [h] at hty; cases hty; done) | (cases v <;> rfl)
  have hfit : fits (cTy ci k) (va_rf v) = true := by
    cases h : cTy ci k <;> first | (rw [h] at hty; cases hty; done) | (cases v <;> rfl)
  have fin : ∀ (H' : Heap), H'[a]? = some (cell.setSlot f.slot (va_rf v)) → H'.size = H.size → (∀ q : Nat, q ≠ a → H'[q]? = H[q]?) → W p l e R s m args below meth cd H' (locs ++ [⟨a, f.slot⟩]) c z Q (F0 m (pc + 3) ls (st.map toV)) := by
    intro H' e1 e2 e3
    rw [hsl] at e1 ⊢
    refine kk H' _ ls (hu.put hle e2 e3 rfl rfl (fun _ _ _ => rfl) (fun b hb k' => ?_) (fun _ _ _ => rfl) (put_at hc h14 hk hs hle hap q2 q3 q4 e1 ?_ fun j' hj' => ?_)) (hS.put e2 e3 hle) hl
    · simp only [sP, up2]; rw [if_neg (fun q => hb q.1)]
    · simp [fV, hr, sP, up2]
    · have : ((j' : Int) = (k : Int)) = False := eq_false (by omega)
      simp only [fV, sP, up2, this, and_false, if_false]
  rcases hfin with hfin | ⟨hfin, hinit⟩
  · unfold u_lay at hlay
    rw [if_neg (by rw [hfin r hc]; decide)] at hlay
    have h6 := u_store hfc hkC hkind hlay hi (htys k hk) hnar hfit
    exact W.putK hx hb (f := f) ⟨hown, hts _ hlink, ⟨_, _, _, hi⟩, hst⟩ (by rw [q2]; exact h6) q1 q3 (by rw [hsl]; exact k2_hasslot (q4 k hk)) rfl rfl hd fin
  · unfold u_lay at hlay
    rw [if_pos (hfin r hc).1] at hlay
    have hcf : m.cls = cf := by
      obtain ⟨_, _, c', _, _, _, -, -, hf', -, -, -, hown2, -⟩ := Cond.laysFinal_spec hlay
      have e1 : c' = cf := by have := hi.symm.trans hf'; simp at this; exact this.1.symm
      rw [(hfin r hc).2] at hown2
      rw [← e1]; exact Option.some.inj (hown.symm.trans hown2)
    have h6 := u_fits hfc hkC hkind (Or.inr hlay) hi (htys k hk) hnar hfit
    exact W.putFinK hx hb hown (hts _ hlink) hi hst hcf hinit (by rw [q2]; exact h6) q1 q3 (by rw [hsl]; exact k2_hasslot (q4 k hk)) rfl rfl hd fin
end RM
