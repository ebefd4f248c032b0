section RDIA
variable {C : Cx} {cc : ByteArray} {own : String} {R : Room} {nL : Nat} {pc : Nat} {lv : LV} {st : List SV} {u : Mem} {c z : Nat}
theorem d_beq (hC : CxOK C cc own R nL) {off o2 a b : Int} {t J : Nat} {P : Prop} [Decidable P] (hd : decode cc pc = .ok (.ifCond .eq off, 3)) (h1 : decode cc (pc + 3) = .ok (.iconst a, 1)) (h2 : decode cc (pc + 3 + 1) = .ok (.goto o2, 3)) (h3 : decode cc t = .ok (.iconst b, 1)) (ht : (pc : Int) + off = (t : Int)) (hJ : ((pc + 3 + 1 : Nat) : Int) + o2 = (J : Int)) (hJ2 : t + 1 = J) (kk : VW C J lv (xI (if P then a else b) :: st) u c z) : VW C pc lv (xI (bI P) :: st) u c z := by
  refine r_beq hC hd ht (fun h => ?_) (fun h => ?_)
  · rw [if_neg h] at kk; exact r_iconst hC h3 (hJ2 ▸ kk)
  · rw [if_pos h] at kk; exact r_iconst hC h1 (r_goto hC h2 hJ kk)
theorem d_bne (hC : CxOK C cc own R nL) {off o2 a b : Int} {t J : Nat} {P : Prop} [Decidable P] (hd : decode cc pc = .ok (.ifCond .ne off, 3)) (h1 : decode cc (pc + 3) = .ok (.iconst a, 1)) (h2 : decode cc (pc + 3 + 1) = .ok (.goto o2, 3)) (h3 : decode cc t = .ok (.iconst b, 1)) (ht : (pc : Int) + off = (t : Int)) (hJ : ((pc + 3 + 1 : Nat) : Int) + o2 = (J : Int)) (hJ2 : t + 1 = J) (kk : VW C J lv (xI (if P then b else a) :: st) u c z) : VW C pc lv (xI (bI P) :: st) u c z := by
  refine r_bne hC hd ht (fun h => ?_) (fun h => ?_)
  · rw [if_pos h] at kk; exact r_iconst hC h3 (hJ2 ▸ kk)
  · rw [if_neg h] at kk; exact r_iconst hC h1 (r_goto hC h2 hJ kk)
theorem d_icmp_eq (hC : CxOK C cc own R nL) {off o2 a b : Int} {t J : Nat} {i j : Int} (hd : decode cc pc = .ok (.if_icmp .eq off, 3)) (h1 : decode cc (pc + 3) = .ok (.iconst a, 1)) (h2 : decode cc (pc + 3 + 1) = .ok (.goto o2, 3)) (h3 : decode cc t = .ok (.iconst b, 1)) (ht : (pc : Int) + off = (t : Int)) (hJ : ((pc + 3 + 1 : Nat) : Int) + o2 = (J : Int)) (hJ2 : t + 1 = J) (hi : rg i) (hj : rg j) (kk : VW C J lv (xI (if i = j then b else a) :: st) u c z) : VW C pc lv (xI j :: xI i :: st) u c z := by
  refine r_icmp_eq hC hd ht hi hj (fun h => ?_) (fun h => ?_)
  · rw [if_pos h] at kk; exact r_iconst hC h3 (hJ2 ▸ kk)
  · rw [if_neg h] at kk; exact r_iconst hC h1 (r_goto hC h2 hJ kk)
theorem d_icmp_lt (hC : CxOK C cc own R nL) {off o2 a b : Int} {t J : Nat} {i j : Int} (hd : decode cc pc = .ok (.if_icmp .lt off, 3)) (h1 : decode cc (pc + 3) = .ok (.iconst a, 1)) (h2 : decode cc (pc + 3 + 1) = .ok (.goto o2, 3)) (h3 : decode cc t = .ok (.iconst b, 1)) (ht : (pc : Int) + off = (t : Int)) (hJ : ((pc + 3 + 1 : Nat) : Int) + o2 = (J : Int)) (hJ2 : t + 1 = J) (hi : rg i) (hj : rg j) (kk : VW C J lv (xI (if i < j then b else a) :: st) u c z) : VW C pc lv (xI j :: xI i :: st) u c z := by
  refine r_icmp_lt hC hd ht hi hj (fun h => ?_) (fun h => ?_)
  · rw [if_pos h] at kk; exact r_iconst hC h3 (hJ2 ▸ kk)
  · rw [if_neg h] at kk; exact r_iconst hC h1 (r_goto hC h2 hJ kk)
theorem d_icmp_ge (hC : CxOK C cc own R nL) {off o2 a b : Int} {t J : Nat} {i j : Int} (hd : decode cc pc = .ok (.if_icmp .ge off, 3)) (h1 : decode cc (pc + 3) = .ok (.iconst a, 1)) (h2 : decode cc (pc + 3 + 1) = .ok (.goto o2, 3)) (h3 : decode cc t = .ok (.iconst b, 1)) (ht : (pc : Int) + off = (t : Int)) (hJ : ((pc + 3 + 1 : Nat) : Int) + o2 = (J : Int)) (hJ2 : t + 1 = J) (hi : rg i) (hj : rg j) (kk : VW C J lv (xI (if j ≤ i then b else a) :: st) u c z) : VW C pc lv (xI j :: xI i :: st) u c z := by
  refine r_icmp_ge hC hd ht hi hj (fun h => ?_) (fun h => ?_)
  · rw [if_pos h] at kk; exact r_iconst hC h3 (hJ2 ▸ kk)
  · rw [if_neg h] at kk; exact r_iconst hC h1 (r_goto hC h2 hJ kk)
theorem d_icmp_gt (hC : CxOK C cc own R nL) {off o2 a b : Int} {t J : Nat} {i j : Int} (hd : decode cc pc = .ok (.if_icmp .gt off, 3)) (h1 : decode cc (pc + 3) = .ok (.iconst a, 1)) (h2 : decode cc (pc + 3 + 1) = .ok (.goto o2, 3)) (h3 : decode cc t = .ok (.iconst b, 1)) (ht : (pc : Int) + off = (t : Int)) (hJ : ((pc + 3 + 1 : Nat) : Int) + o2 = (J : Int)) (hJ2 : t + 1 = J) (hi : rg i) (hj : rg j) (kk : VW C J lv (xI (if j < i then b else a) :: st) u c z) : VW C pc lv (xI j :: xI i :: st) u c z := by
  refine r_icmp_gt hC hd ht hi hj (fun h => ?_) (fun h => ?_)
  · rw [if_pos h] at kk; exact r_iconst hC h3 (hJ2 ▸ kk)
  · rw [if_neg h] at kk; exact r_iconst hC h1 (r_goto hC h2 hJ kk)
theorem d_icmp_le (hC : CxOK C cc own R nL) {off o2 a b : Int} {t J : Nat} {i j : Int} (hd : decode cc pc = .ok (.if_icmp .le off, 3)) (h1 : decode cc (pc + 3) = .ok (.iconst a, 1)) (h2 : decode cc (pc + 3 + 1) = .ok (.goto o2, 3)) (h3 : decode cc t = .ok (.iconst b, 1)) (ht : (pc : Int) + off = (t : Int)) (hJ : ((pc + 3 + 1 : Nat) : Int) + o2 = (J : Int)) (hJ2 : t + 1 = J) (hi : rg i) (hj : rg j) (kk : VW C J lv (xI (if i ≤ j then b else a) :: st) u c z) : VW C pc lv (xI j :: xI i :: st) u c z := by
  refine r_icmp_le hC hd ht hi hj (fun h => ?_) (fun h => ?_)
  · rw [if_pos h] at kk; exact r_iconst hC h3 (hJ2 ▸ kk)
  · rw [if_neg h] at kk; exact r_iconst hC h1 (r_goto hC h2 hJ kk)
theorem d_icmp_ne (hC : CxOK C cc own R nL) {off o2 a b : Int} {t J : Nat} {i j : Int} (hd : decode cc pc = .ok (.if_icmp .ne off, 3)) (h1 : decode cc (pc + 3) = .ok (.iconst a, 1)) (h2 : decode cc (pc + 3 + 1) = .ok (.goto o2, 3)) (h3 : decode cc t = .ok (.iconst b, 1)) (ht : (pc : Int) + off = (t : Int)) (hJ : ((pc + 3 + 1 : Nat) : Int) + o2 = (J : Int)) (hJ2 : t + 1 = J) (hi : rg i) (hj : rg j) (kk : VW C J lv (xI (if i = j then a else b) :: st) u c z) : VW C pc lv (xI j :: xI i :: st) u c z := by
  refine r_icmp_ne hC hd ht hi hj (fun h => ?_) (fun h => ?_)
  · rw [if_neg h] at kk; exact r_iconst hC h3 (hJ2 ▸ kk)
  · rw [if_pos h] at kk; exact r_iconst hC h1 (r_goto hC h2 hJ kk)
end RDIA
/-! ===== the reference's memory: a base, and its row ===== -/
def MO (u : Mem) (m : Nat) : Prop := mSh u m = some (.inl 8) ∧ (mP u m 0 = some (m + 1) ∧ mSh u (m + 1) = some (.inr (0, 1651))) ∧ (mP u m 1 = some (m + 2) ∧ mSh u (m + 2) = some (.inr (0, 9906))) ∧ (mP u m 2 = some (m + 3) ∧ mSh u (m + 3) = some (.inr (0, 1651))) ∧ (mP u m 3 = some (m + 4) ∧ mSh u (m + 4) = some (.inr (0, 1651))) ∧ (mP u m 6 = some (m + 5) ∧ mSh u (m + 5) = some (.inr (0, 60))) ∧ (mP u m 9 = some (m + 6) ∧ mSh u (m + 6) = some (.inr (0, 3))) ∧ (mP u m 10 = some (m + 7) ∧ mSh u (m + 7) = some (.inr (0, 8)))
theorem MO.o {u : Mem} {m : Nat} (h : MO u m) : mSh u m = some (.inl 8) := h.1
theorem MO.p_row {u : Mem} {m : Nat} (h : MO u m) : mP u m 0 = some (m + 1) := h.2.1.1
theorem MO.a_row {u : Mem} {m : Nat} (h : MO u m) : mSh u (m + 1) = some (.inr (0, 1651)) := h.2.1.2
theorem MO.p_past {u : Mem} {m : Nat} (h : MO u m) : mP u m 1 = some (m + 2) := h.2.2.1.1
theorem MO.a_past {u : Mem} {m : Nat} (h : MO u m) : mSh u (m + 2) = some (.inr (0, 9906)) := h.2.2.1.2
theorem MO.p_kept {u : Mem} {m : Nat} (h : MO u m) : mP u m 2 = some (m + 3) := h.2.2.2.1.1
theorem MO.a_kept {u : Mem} {m : Nat} (h : MO u m) : mSh u (m + 3) = some (.inr (0, 1651)) := h.2.2.2.1.2
theorem MO.p_aside {u : Mem} {m : Nat} (h : MO u m) : mP u m 3 = some (m + 4) := h.2.2.2.2.1.1
theorem MO.a_aside {u : Mem} {m : Nat} (h : MO u m) : mSh u (m + 4) = some (.inr (0, 1651)) := h.2.2.2.2.1.2
theorem MO.p_buffer {u : Mem} {m : Nat} (h : MO u m) : mP u m 6 = some (m + 5) := h.2.2.2.2.2.1.1
theorem MO.a_buffer {u : Mem} {m : Nat} (h : MO u m) : mSh u (m + 5) = some (.inr (0, 60)) := h.2.2.2.2.2.1.2
theorem MO.p_numbers {u : Mem} {m : Nat} (h : MO u m) : mP u m 9 = some (m + 6) := h.2.2.2.2.2.2.1.1
theorem MO.a_numbers {u : Mem} {m : Nat} (h : MO u m) : mSh u (m + 6) = some (.inr (0, 3)) := h.2.2.2.2.2.2.1.2
theorem MO.p_batch {u : Mem} {m : Nat} (h : MO u m) : mP u m 10 = some (m + 7) := h.2.2.2.2.2.2.2.1
theorem MO.a_batch {u : Mem} {m : Nat} (h : MO u m) : mSh u (m + 7) = some (.inr (0, 8)) := h.2.2.2.2.2.2.2.2
theorem MO.sI {u : Mem} {m : Nat} (h : MO u m) (a : Nat) (k v : Int) : MO (sI u a k v) m := h
theorem MO.sA {u : Mem} {m : Nat} (h : MO u m) (a : Nat) (f : RW) : MO (sA u a f) m := h
theorem sA_up (u : Mem) (a : Nat) (f : RW) (k v : Int) : sI (sA u a f) a k v = sA u a (up f k v) := by
  rw [sI_sA]
  unfold sA up1
  congr 2
  funext b
  by_cases h : b = a
  · simp only [if_pos h]
    funext j
    unfold up
    by_cases q : j = k
    · simp only [if_pos q]; exact (ofInt_wr v).symm
    · simp only [if_neg q]
  · simp only [if_neg h]
theorem sA_wr {u : Mem} {a : Nat} {f g : RW} (h : ∀ k, wr (f k) = wr (g k)) : sA u a f = sA u a g := by
  unfold sA up1
  congr 2
  funext b
  by_cases q : b = a
  · simp only [if_pos q]
    funext j
    rw [← Int32.toInt_inj]
    exact h j
  · simp only [if_neg q]
section RMM
variable {C : Cx} {cc : ByteArray} {own : String} {R : Room} {nL : Nat} {pc : Nat} {lv : LV} {st : List SV} {u : Mem} {m : Nat} {f : RW} {c z : Nat}
theorem rM_ald (hC : CxOK C cc own R nL) (hM : MO u m) (hf : RF f) {i : Int} (hd : decode cc pc = .ok (.iaload, 1)) (hi : 0 ≤ i ∧ i < (1651 : Nat)) (kk : VW C (pc + 1) lv (xI (f i) :: st) (sA u (m + 1) f) c z) : VW C pc lv (xI i :: xA (m + 1) :: st) (sA u (m + 1) f) c z := by
  refine r_iald hC hd (hM.sA (m + 1) f).a_row hi ?_
  rw [mI_sA_f u (m + 1) hf]; exact kk
theorem rM_ast (hC : CxOK C cc own R nL) (hM : MO u m) {i v : Int} (hd : decode cc pc = .ok (.iastore, 1)) (hi : 0 ≤ i ∧ i < (1651 : Nat)) (kk : VW C (pc + 1) lv st (sA u (m + 1) (up f i v)) c z) : VW C pc lv (xI v :: xI i :: xA (m + 1) :: st) (sA u (m + 1) f) c z := by
  refine r_iast hC hd (hM.sA (m + 1) f).a_row hi ?_
  rw [sA_up]; exact kk
theorem rM_getI (hC : CxOK C cc own R nL) (hM : MO u m) {k idx : Nat} {j : Int} (hd : decode cc pc = .ok (.getfield idx, 3)) (hF : FL own idx 8 k) (hr : fR 8 k = false) (hj : (k : Int) = j) (kk : VW C (pc + 3) lv (xI (mI u m j) :: st) (sA u (m + 1) f) c z) : VW C pc lv (xA m :: st) (sA u (m + 1) f) c z := by
  refine r_getI hC hd hF hr hj hM.o ?_
  rw [mI_sA_n u f (by omega)]; exact kk
theorem rM_putI (hC : CxOK C cc own R nL) (hM : MO u m) {k idx : Nat} {i j : Int} (hd : decode cc pc = .ok (.putfield idx, 3)) (hF : FL own idx 8 k) (hj : (k : Int) = j) (hfin : ∀ r : vw_C, vwCl[8]? = some r → (r.2.1 k).2.2.2 = false) (hty : cTy 8 k = .int ∨ (cTy 8 k = .boolean ∧ (i = 0 ∨ i = 1))) (kk : VW C (pc + 3) lv st (sA (sI u m j i) (m + 1) f) c z) : VW C pc lv (xI i :: xA m :: st) (sA u (m + 1) f) c z := by
  refine r_putI hC hd hF hj hM.o hfin hty ?_
  rw [sI_sA_comm u f _ _ (by omega)]; exact kk
theorem rM_ald2 (hC : CxOK C cc own R nL) {q n : Nat} {i : Int} (hd : decode cc pc = .ok (.iaload, 1)) (hs : mSh u (m + q) = some (.inr (0, n))) (hq : Nat.beq q 1 = false) (hi : 0 ≤ i ∧ i < n) (kk : VW C (pc + 1) lv (xI (mI u (m + q) i) :: st) (sA u (m + 1) f) c z) : VW C pc lv (xI i :: xA (m + q) :: st) (sA u (m + 1) f) c z := by
  have hq : q ≠ 1 := fun h => by subst h; cases hq
  refine r_iald hC hd hs hi ?_
  rw [mI_sA_n u f (by omega)]; exact kk
theorem rM_ast2 (hC : CxOK C cc own R nL) {q n : Nat} {i v : Int} (hd : decode cc pc = .ok (.iastore, 1)) (hs : mSh u (m + q) = some (.inr (0, n))) (hq : Nat.beq q 1 = false) (hi : 0 ≤ i ∧ i < n) (kk : VW C (pc + 1) lv st (sA (sI u (m + q) i v) (m + 1) f) c z) : VW C pc lv (xI v :: xI i :: xA (m + q) :: st) (sA u (m + 1) f) c z := by
  have hq : q ≠ 1 := fun h => by subst h; cases hq
  refine r_iast hC hd hs hi ?_
  rw [sI_sA_comm u f _ _ (by omega)]; exact kk
theorem rM_getI3 (hC : CxOK C cc own R nL) (hM : MO u m) {q k idx : Nat} {b : RW} {j : Int} (hd : decode cc pc = .ok (.getfield idx, 3)) (hF : FL own idx 8 k) (hr : fR 8 k = false) (hj : (k : Int) = j) (kk : VW C (pc + 3) lv (xI (mI u m j) :: st) (sA (sA u (m + (q + 1)) b) (m + 1) f) c z) : VW C pc lv (xA m :: st) (sA (sA u (m + (q + 1)) b) (m + 1) f) c z := by
  refine rM_getI hC (hM.sA _ _) hd hF hr hj ?_
  rw [mI_sA_n u b (by omega)]; exact kk
theorem rM_putI3 (hC : CxOK C cc own R nL) (hM : MO u m) {q k idx : Nat} {b : RW} {i j : Int} (hd : decode cc pc = .ok (.putfield idx, 3)) (hF : FL own idx 8 k) (hj : (k : Int) = j) (hfin : ∀ r : vw_C, vwCl[8]? = some r → (r.2.1 k).2.2.2 = false) (hty : cTy 8 k = .int ∨ (cTy 8 k = .boolean ∧ (i = 0 ∨ i = 1))) (kk : VW C (pc + 3) lv st (sA (sA (sI u m j i) (m + (q + 1)) b) (m + 1) f) c z) : VW C pc lv (xI i :: xA m :: st) (sA (sA u (m + (q + 1)) b) (m + 1) f) c z := by
  refine rM_putI hC (hM.sA _ _) hd hF hj hfin hty ?_
  rw [sI_sA_comm u b _ _ (by omega)]; exact kk
theorem rM_ast3 (hC : CxOK C cc own R nL) {q n : Nat} {b : RW} {i v : Int} (hd : decode cc pc = .ok (.iastore, 1)) (hs : mSh u (m + q) = some (.inr (0, n))) (hq : Nat.beq q 1 = false) (hi : 0 ≤ i ∧ i < n) (kk : VW C (pc + 1) lv st (sA (sA u (m + q) (up b i v)) (m + 1) f) c z) : VW C pc lv (xI v :: xI i :: xA (m + q) :: st) (sA (sA u (m + q) b) (m + 1) f) c z := by
  refine rM_ast2 hC hd hs hq hi ?_
  rw [sA_up]; exact kk
theorem rM_V0 {rt : Option FieldType} {rm : Room} (hC : CxOK C cc own R nL) (hM : MO u m) {y : MethodName} {b : ByteArray} {mL idx n : Nat} {as : List SV} {v : SV} {u1 : Mem} (hd : decode cc pc = .ok (.invokevirtual idx, 3)) (hm : MI y b mL rt n) (hse : Cond.selects y.cls y y ∈ wAll ∧ Cond.instanceMethod y ∈ wAll) (hlk : Cond.methodLink own idx y ∈ wAll) (hR : (Nat.ble (rm.frames + 1) R.frames && Nat.ble (8 + (mL + 11) + rm.locals) R.locals && Nat.beq rm.cells 0 && Nat.beq rm.slots 0) = true) (hcn : RX8 = y.cls) (hn : as.length = n) (hw : Nat.ble (st.map fun v => ca_t v).sum 8 = true) (hcz : c ≤ R.cells ∧ z ≤ R.slots)
    (hct : CT (cxL C) (cxD C) y b mL rt rm (xA m :: as) (sA u (m + 1) f) (RT v u1)) (kk : VW C (pc + 3) lv (v :: st) u1 c z) {st0 : List SV} (h0 : as.reverse ++ xA m :: st = st0) : VW C pc lv st0 (sA u (m + 1) f) c z :=
  r_V0 hC hd hm hse hlk hR (hM.sA (m + 1) f).o rfl hcn hn hw hcz hct kk h0
theorem rM_V0v {rt : Option FieldType} {rm : Room} (hC : CxOK C cc own R nL) (hM : MO u m) {y : MethodName} {b : ByteArray} {mL idx n : Nat} {as : List SV} {u1 : Mem} (hd : decode cc pc = .ok (.invokevirtual idx, 3)) (hm : MI y b mL rt n) (hse : Cond.selects y.cls y y ∈ wAll ∧ Cond.instanceMethod y ∈ wAll) (hlk : Cond.methodLink own idx y ∈ wAll) (hR : (Nat.ble (rm.frames + 1) R.frames && Nat.ble (8 + (mL + 11) + rm.locals) R.locals && Nat.beq rm.cells 0 && Nat.beq rm.slots 0) = true) (hcn : RX8 = y.cls) (hn : as.length = n) (hw : Nat.ble (st.map fun v => ca_t v).sum 8 = true) (hcz : c ≤ R.cells ∧ z ≤ R.slots)
    (hct : CT (cxL C) (cxD C) y b mL rt rm (xA m :: as) (sA u (m + 1) f) (RV u1)) (kk : VW C (pc + 3) lv st u1 c z) {st0 : List SV} (h0 : as.reverse ++ xA m :: st = st0) : VW C pc lv st0 (sA u (m + 1) f) c z :=
  r_V0v hC hd hm hse hlk hR (hM.sA (m + 1) f).o rfl hcn hn hw hcz hct kk h0
theorem vw_mem {u u' : Mem} (h : u = u') (k : VW C pc lv st u' c z) : VW C pc lv st u c z := h ▸ k
end RMM
