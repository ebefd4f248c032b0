section
section RDIA
variable {C : Cx} {cc : ByteArray} {own : String} {R : Room} {nL : Nat} {pc : Nat} {lv : LV} {st : List SV} {u : Mem} {c z : Nat}
theorem d_beq (hC : CxOK C cc own R nL) {off o2 a b : Int} {t J : Nat} {P : Prop} [Decidable P] (hd : decode cc pc = .ok (.ifCond .eq off, 3)) (h1 : decode cc (pc + 3) = .ok (.iconst a, 1)) (h2 : decode cc (pc + 3 + 1) = .ok (.goto o2, 3)) (h3 : decode cc t = .ok (.iconst b, 1)) (ht : (pc : Int) + off = (t : Int)) (hJ : ((pc + 3 + 1 : Nat) : Int) + o2 = (J : Int)) (hJ2 : t + 1 = J) (kk : VW C J lv (xI (if P then a else b) :: st) u c z) : VW C pc lv (xI (bI P) :: st) u c z := by
  refine r_beq hC hd ht (fun h => ?_) (fun h => ?_)
  · rw [if_neg h] at kk; exact r_iconst hC h3 (hJ2 ▸ kk)
  · rw [if_pos h] at kk; exact r_iconst hC h1 (r_goto hC h2 hJ kk)
theorem d_bne (hC : CxOK C cc own R nL) {off o2 a b : Int} {t J : Nat} {P : Prop} [Decidable P] (hd : decode cc pc = .ok (.ifCond .ne off, 3)) (h1 : decode cc (pc + 3) = .ok (.iconst a, 1)) (h2 : decode cc (pc + 3 + 1) = .ok (.goto o2, 3)) (h3 : decode cc t = .ok (.iconst b, 1)) (ht : (pc : Int) + off = (t : Int)) (hJ : ((pc + 3 + 1 : Nat) : Int) + o2 = (J : Int)) (hJ2 : t + 1 = J) (kk : VW C J lv (xI (if P then b else a) :: st) u c z) : VW C pc lv (xI (bI P) :: st) u c z := by
  refine r_bne hC hd ht (fun h => ?_) (fun h => ?_)
  · rw [if_pos h] at kk; exact r_iconst hC h3 (hJ2 ▸ kk)
  · rw [if_neg h] at kk; exact r_iconst hC h1 (r_goto hC h2 hJ kk)
theorem d_icmp_eq (hC : CxOK C cc own R nL) {off o2 a b : Int} {t J : Nat} {i j : Int} (hd : decode cc pc = .ok (.if_icmp .eq off, 3)) (h1 : decode cc (pc + 3) = .ok (.iconst a, 1)) (h2 : decode cc (pc + 3 + 1) = .ok (.goto o2, 3)) (h3 : decode cc t = .ok (.iconst b, 1)) (ht : (pc : Int) + off = (t : Int)) (hJ : ((pc + 3 + 1 : Nat) : Int) + o2 = (J : Int)) (hJ2 : t + 1 = J) (hi : rg i) (hj : rg j) (kk : VW C J lv (xI (if i = j then b else a) :: st) u c z) : VW C pc lv (xI j :: xI i :: st) u c z := by
  refine r_icmp_eq hC hd ht hi hj (fun h => ?_) (fun h => ?_)
  · rw [if_pos h] at kk; exact r_iconst hC h3 (hJ2 ▸ kk)
  · rw [if_neg h] at kk; exact r_iconst hC h1 (r_goto hC h2 hJ kk)
theorem d_icmp_lt (hC : CxOK C cc own R nL) {off o2 a b : Int} {t J : Nat} {i j : Int} (hd : decode cc pc = .ok (.if_icmp .lt off, 3)) (h1 : decode cc (pc + 3) = .ok (.iconst a, 1)) (h2 : decode cc (pc + 3 + 1) = .ok (.goto o2, 3)) (h3 : decode cc t = .ok (.iconst b, 1)) (ht : (pc : Int) + off = (t : Int)) (hJ : ((pc + 3 + 1 : Nat) : Int) + o2 = (J : Int)) (hJ2 : t + 1 = J) (hi : rg i) (hj : rg j) (kk : VW C J lv (xI (if i < j then b else a) :: st) u c z) : VW C pc lv (xI j :: xI i :: st) u c z := by
  refine r_icmp_lt hC hd ht hi hj (fun h => ?_) (fun h => ?_)
  · rw [if_pos h] at kk; exact r_iconst hC h3 (hJ2 ▸ kk)
  · rw [if_neg h] at kk; exact r_iconst hC h1 (r_goto hC h2 hJ kk)
theorem d_icmp_ge (hC : CxOK C cc own R nL) {off o2 a b : Int} {t J : Nat} {i j : Int} (hd : decode cc pc = .ok (.if_icmp .ge off, 3)) (h1 : decode cc (pc + 3) = .ok (.iconst a, 1)) (h2 : decode cc (pc + 3 + 1) = .ok (.goto o2, 3)) (h3 : decode cc t = .ok (.iconst b, 1)) (ht : (pc : Int) + off = (t : Int)) (hJ : ((pc + 3 + 1 : Nat) : Int) + o2 = (J : Int)) (hJ2 : t + 1 = J) (hi : rg i) (hj : rg j) (kk : VW C J lv (xI (if j ≤ i then b else a) :: st) u c z) : VW C pc lv (xI j :: xI i :: st) u c z := by
  refine r_icmp_ge hC hd ht hi hj (fun h => ?_) (fun h => ?_)
  · rw [if_pos h] at kk; exact r_iconst hC h3 (hJ2 ▸ kk)
  · rw [if_neg h] at kk; exact r_iconst hC h1 (r_goto hC h2 hJ kk)
theorem d_icmp_gt (hC : CxOK C cc own R nL) {off o2 a b : Int} {t J : Nat} {i j : Int} (hd : decode cc pc = .ok (.if_icmp .gt off, 3)) (h1 : decode cc (pc + 3) = .ok (.iconst a, 1)) (h2 : decode cc (pc + 3 + 1) = .ok (.goto o2, 3)) (h3 : decode cc t = .ok (.iconst b, 1)) (ht : (pc : Int) + off = (t : Int)) (hJ : ((pc + 3 + 1 : Nat) : Int) + o2 = (J : Int)) (hJ2 : t + 1 = J) (hi : rg i) (hj : rg j) (kk : VW C J lv (xI (if j < i then b else a) :: st) u c z) : VW C pc lv (xI j :: xI i :: st) u c z := by
  refine r_icmp_gt hC hd ht hi hj (fun h => ?_) (fun h => ?_)
  · rw [if_pos h] at kk; exact r_iconst hC h3 (hJ2 ▸ kk)
  · rw [if_neg h] at kk; exact r_iconst hC h1 (r_goto hC h2 hJ kk)
theorem d_icmp_le (hC : CxOK C cc own R nL) {off o2 a b : Int} {t J : Nat} {i j : Int} (hd : decode cc pc = .ok (.if_icmp .le off, 3)) (h1 : decode cc (pc + 3) = .ok (.iconst a, 1)) (h2 : decode cc (pc + 3 + 1) = .ok (.goto o2, 3)) (h3 : decode cc t = .ok (.iconst b, 1)) (ht : (pc : Int) + off = (t : Int)) (hJ : ((pc + 3 + 1 : Nat) : Int) + o2 = (J : Int)) (hJ2 : t + 1 = J) (hi : rg i) (hj : rg j) (kk : VW C J lv (xI (if i ≤ j then b else a) :: st) u c z) : VW C pc lv (xI j :: xI i :: st) u c z := by
  refine r_icmp_le hC hd ht hi hj (fun h => ?_) (fun h => ?_)
  · rw [if_pos h] at kk; exact r_iconst hC h3 (hJ2 ▸ kk)
  · rw [if_neg h] at kk; exact r_iconst hC h1 (r_goto hC h2 hJ kk)
theorem d_icmp_ne (hC : CxOK C cc own R nL) {off o2 a b : Int} {t J : Nat} {i j : Int} (hd : decode cc pc = .ok (.if_icmp .ne off, 3)) (h1 : decode cc (pc + 3) = .ok (.iconst a, 1)) (h2 : decode cc (pc + 3 + 1) = .ok (.goto o2, 3)) (h3 : decode cc t = .ok (.iconst b, 1)) (ht : (pc : Int) + off = (t : Int)) (hJ : ((pc + 3 + 1 : Nat) : Int) + o2 = (J : Int)) (hJ2 : t + 1 = J) (hi : rg i) (hj : rg j) (kk : VW C J lv (xI (if i = j then a else b) :: st) u c z) : VW C pc lv (xI j :: xI i :: st) u c z := by
  refine r_icmp_ne hC hd ht hi hj (fun h => ?_) (fun h => ?_)
  · rw [if_neg h] at kk; exact r_iconst hC h3 (hJ2 ▸ kk)
  · rw [if_pos h] at kk; exact r_iconst hC h1 (r_goto hC h2 hJ kk)
end RDIA
/-! ===== the reference's memory: a base, and its row ===== -/
def MO (u : Mem) (m : Nat) : Prop := mSh u m = some (.inl 8) ∧ (mP u m 0 = some (m + 1) ∧ mSh u (m + 1) = some (.inr (0, 1651))) ∧ (mP u m 1 = some (m + 2) ∧ mSh u (m + 2) = some (.inr (0, 9906))) ∧ (mP u m 2 = some (m + 3) ∧ mSh u (m + 3) = some (.inr (0, 1651))) ∧ (mP u m 3 = some (m + 4) ∧ mSh u (m + 4) = some (.inr (0, 1651))) ∧ (mP u m 6 = some (m + 5) ∧ mSh u (m + 5) = some (.inr (0, 60))) ∧ (mP u m 9 = some (m + 6) ∧ mSh u (m + 6) = some (.inr (0, 3))) ∧ (mP u m 10 = some (m + 7) ∧ mSh u (m + 7) = some (.inr (0, 8)))
theorem sA_up (u : Mem) (a : Nat) (f : RW) (k v : Int) : sI (sA u a f) a k v = sA u a (up f k v) := by
  rw [sI_sA]
  unfold sA up1
  congr 2
  funext b
  by_cases h : b = a
  · simp only [if_pos h]
    funext j
    unfold up
    by_cases q : j = k
    · simp only [if_pos q]; exact (ofInt_wr v).symm
    · simp only [if_neg q]
  · simp only [if_neg h]
theorem sA_wr {u : Mem} {a : Nat} {f g : RW} (h : ∀ k, wr (f k) = wr (g k)) : sA u a f = sA u a g := by
  unfold sA up1
  congr 2
  funext b
  by_cases q : b = a
  · simp only [if_pos q]
    funext j
    rw [← Int32.toInt_inj]
    exact h j
  · simp only [if_neg q]
section RMM
variable {C : Cx} {cc : ByteArray} {own : String} {R : Room} {nL : Nat} {pc : Nat} {lv : LV} {st : List SV} {u : Mem} {m : Nat} {f : RW} {c z : Nat}
theorem rM_ald2 (hC : CxOK C cc own R nL) {q n : Nat} {i : Int} (hd : decode cc pc = .ok (.iaload, 1)) (hs : mSh u (m + q) = some (.inr (0, n))) (hq : Nat.beq q 1 = false) (hi : 0 ≤ i ∧ i < n) (kk : VW C (pc + 1) lv (xI (mI u (m + q) i) :: st) (sA u (m + 1) f) c z) : VW C pc lv (xI i :: xA (m + q) :: st) (sA u (m + 1) f) c z := by
  have hq : q ≠ 1 := fun h => by subst h; cases hq
  refine r_iald hC hd hs hi ?_
  rw [mI_sA_n u f (by omega)]; exact kk
theorem rM_ast2 (hC : CxOK C cc own R nL) {q n : Nat} {i v : Int} (hd : decode cc pc = .ok (.iastore, 1)) (hs : mSh u (m + q) = some (.inr (0, n))) (hq : Nat.beq q 1 = false) (hi : 0 ≤ i ∧ i < n) (kk : VW C (pc + 1) lv st (sA (sI u (m + q) i v) (m + 1) f) c z) : VW C pc lv (xI v :: xI i :: xA (m + q) :: st) (sA u (m + 1) f) c z := by
  have hq : q ≠ 1 := fun h => by subst h; cases hq
  refine r_iast hC hd hs hi ?_
  rw [sI_sA_comm u f _ _ (by omega)]; exact kk
theorem rM_ast3 (hC : CxOK C cc own R nL) {q n : Nat} {b : RW} {i v : Int} (hd : decode cc pc = .ok (.iastore, 1)) (hs : mSh u (m + q) = some (.inr (0, n))) (hq : Nat.beq q 1 = false) (hi : 0 ≤ i ∧ i < n) (kk : VW C (pc + 1) lv st (sA (sA u (m + q) (up b i v)) (m + 1) f) c z) : VW C pc lv (xI v :: xI i :: xA (m + q) :: st) (sA (sA u (m + q) b) (m + 1) f) c z := by
  refine rM_ast2 hC hd hs hq hi ?_
  rw [sA_up]; exact kk
theorem vw_mem {u u' : Mem} (h : u = u') (k : VW C pc lv st u' c z) : VW C pc lv st u c z := h ▸ k
end RMM
end
section
/-! its words on rows -/
def m_of (r : RW) (c w : Int) : Int := r (697 + 38 * c + w)
def m_its (r : RW) (p w : Int) : Int := r (17 + 20 * p + w)
def m_way (r : RW) (n w : Int) : Int := r (811 + 7 * n + w)
def m_open (r : RW) (p : Int) : Bool := decide (0 ≤ p ∧ p ≤ 3) && decide (m_its r p 0 = 1)
def m_topic (r : RW) (k : Int) : Int := (r (97 + 3 * k)).tmod 4
def m_value (r : RW) (k : Int) : Int := (r (97 + 3 * k)).tdiv 4
def m_write (r : RW) (k : Int) : Int := r (97 + 3 * k + 1)
def m_mark (r : RW) (k b : Int) : Bool := decide (b_and (b_shr (r (97 + 3 * k + 2)) b) 1 = 1)
/-- a row's mark is set -/
def m_setm (r : RW) (k b : Int) : RW := up r (97 + 3 * k + 2) (b_or (r (97 + 3 * k + 2)) (b_shl 1 b))
theorem rf_setm {r : RW} (h : RF r) (k b : Int) : RF (m_setm r k b) := rf_up h _ _
def m_num (r : RW) (k : Int) : Int := if r 10 = 0 then k else m_write r k
def m_kept (r : RW) : Int := r 2 - r 3
def m_wants (r : RW) (c t : Int) : Bool := decide (b_and (b_shr (m_of r c 0) t) 1 = 1)
def m_ans (r : RW) (k c : Int) : Bool := !(m_wants r c (m_topic r k)) || decide (m_num r k ≤ m_of r c 8)
theorem rf_at {r : RW} (h : RF r) (k : Int) : rg (r k) := h k
theorem rg_num {r : RW} (h : RF r) {k : Int} (hk : rg k) : rg (m_num r k) := by
  unfold m_num; split
  · exact hk
  · exact h _
theorem rg_of {r : RW} (h : RF r) (c w : Int) : rg (m_of r c w) := h _
theorem rg_its {r : RW} (h : RF r) (c w : Int) : rg (m_its r c w) := h _
theorem rg_way {r : RW} (h : RF r) (c w : Int) : rg (m_way r c w) := h _
abbrev rmX8_in : Room := { frames := 0, cells := 0, slots := 0, locals := 0 }
abbrev rmX8_thrown : Room := { frames := 0, cells := 0, slots := 0, locals := 0 }
abbrev rmX8_fails : Room := { frames := 0, cells := 0, slots := 0, locals := 0 }
abbrev rmX8_of : Room := { frames := 0, cells := 0, slots := 0, locals := 0 }
abbrev rmX8_lay : Room := { frames := 0, cells := 0, slots := 0, locals := 0 }
abbrev rmX8_its : Room := { frames := 0, cells := 0, slots := 0, locals := 0 }
abbrev rmX8_isOpen : Room := { frames := 1, cells := 0, slots := 0, locals := 22 }
abbrev rmX8_topicOf : Room := { frames := 0, cells := 0, slots := 0, locals := 0 }
abbrev rmX8_valueOf : Room := { frames := 0, cells := 0, slots := 0, locals := 0 }
abbrev rmX8_writeOf : Room := { frames := 0, cells := 0, slots := 0, locals := 0 }
abbrev rmX8_hasMark : Room := { frames := 0, cells := 0, slots := 0, locals := 0 }
abbrev rmX8_mark : Room := { frames := 0, cells := 0, slots := 0, locals := 0 }
abbrev rmX8_numberOf : Room := { frames := 1, cells := 0, slots := 0, locals := 21 }
abbrev rmX8_keptRows : Room := { frames := 0, cells := 0, slots := 0, locals := 0 }
abbrev rmX8_wants : Room := { frames := 1, cells := 0, slots := 0, locals := 22 }
abbrev rmX8_isAnswered : Room := { frames := 2, cells := 0, slots := 0, locals := 44 }
abbrev rmX8_way : Room := { frames := 0, cells := 0, slots := 0, locals := 0 }
end
section
/-- the best row of the first n: kept, its number above a, the least such -/
def m_nextL (r : RW) (a : Int) : Nat → Int
  | 0 => -1
  | k + 1 => if (m_mark r k 0 = false ∧ a < m_num r k) ∧ (m_nextL r a k = -1 ∨ m_num r k < m_num r (m_nextL r a k)) then (k : Int) else m_nextL r a k
def m_next (r : RW) (a : Int) : Int := m_nextL r a (r 2).toNat
theorem m_nextL_rg (r : RW) (a : Int) (n : Nat) : m_nextL r a n = -1 ∨ (0 ≤ m_nextL r a n ∧ m_nextL r a n < n) := by
  induction n with
  | zero => left; rfl
  | succ n ih =>
    simp only [m_nextL]
    split
    · right; omega
    · rcases ih with h | h
      · left; exact h
      · right; omega
theorem m_next_rg (r : RW) (a : Int) (h : 0 ≤ r 2) : m_next r a = -1 ∨ (0 ≤ m_next r a ∧ m_next r a < r 2) := by
  have h1 := m_nextL_rg r a (r 2).toNat
  unfold m_next
  omega
abbrev rmX8_next : Room := { frames := 2, cells := 0, slots := 0, locals := 42 }
def m_ansBy (r : RW) (k : Int) : Int := b_or (b_or (b_or 0 (if m_ans r k 0 = true then b_shl 1 0 else 0)) (if m_ans r k 1 = true then b_shl 1 1 else 0)) (if m_ans r k 2 = true then b_shl 1 2 else 0)
abbrev rmX8_answeredBy : Room := { frames := 3, cells := 0, slots := 0, locals := 66 }
def m_rowsL (r : RW) (c : Int) : Nat → Int
  | 0 => 0
  | k + 1 => m_rowsL r c k + (if m_mark r k 0 = false ∧ m_ans r k c = false then 1 else 0)
def m_rows (r : RW) (c : Int) : Int := m_rowsL r c (r 2).toNat
theorem m_rowsL_rg (r : RW) (c : Int) (n : Nat) : 0 ≤ m_rowsL r c n ∧ m_rowsL r c n ≤ n := by
  induction n with
  | zero => simp [m_rowsL]
  | succ n ih => simp only [m_rowsL]; split <;> omega
abbrev rmX8_rowsFor : Room := { frames := 3, cells := 0, slots := 0, locals := 66 }
def m_free (r : RW) : Int := if m_its r 0 0 = 0 then 0 else if m_its r 1 0 = 0 then 1 else if m_its r 2 0 = 0 then 2 else if m_its r 3 0 = 0 then 3 else -1
abbrev rmX8_freePlace : Room := { frames := 1, cells := 0, slots := 0, locals := 22 }
def m_dueL (r : RW) : Nat → Int → Int
  | 0, _ => -1
  | n + 1, k => if m_way r k 2 ≤ r 0 then k else m_dueL r n (k + 1)
def m_due (r : RW) : Int := m_dueL r (r 9).toNat 0
theorem m_dueL_rg (r : RW) (n : Nat) (k : Int) : m_dueL r n k = -1 ∨ (k ≤ m_dueL r n k ∧ m_dueL r n k < k + n) := by
  induction n generalizing k with
  | zero => left; rfl
  | succ n ih =>
    simp only [m_dueL]
    split
    · right; omega
    · rcases ih (k + 1) with h | h
      · left; exact h
      · right; omega
abbrev rmX8_due : Room := { frames := 1, cells := 0, slots := 0, locals := 22 }
end
section
theorem m_free_rg (r : RW) : m_free r = -1 ∨ (0 ≤ m_free r ∧ m_free r ≤ 3) := by
  unfold m_free; split <;> (try split) <;> (try split) <;> (try split) <;> omega
def m_begins (r : RW) : RW := up (up r (17 + 20 * m_free r + 0) 1) (17 + 20 * m_free r + 1) 0
theorem rf_begins {r : RW} (h : RF r) : RF (m_begins r) := rf_up (rf_up h _ _) _ _
abbrev rmX8_begins : Room := { frames := 2, cells := 0, slots := 0, locals := 43 }
def m_writesR (r : RW) (p t v : Int) : RW :=
  let n := m_its r p 1
  let a := 17 + 20 * p + 2 + 3 * n
  let r2 := up (up r a t) (a + 1) v
  let r4 := up (up r2 (a + 2) (r2 1)) (17 + 20 * p + 1) (n + 1)
  up r4 1 (r4 1 + 1)
theorem rf_writes {r : RW} (h : RF r) (p t v : Int) : RF (m_writesR r p t v) := rf_up (rf_up (rf_up (rf_up (rf_up h _ _) _ _) _ _) _ _) _ _
def m_writesC (r : RW) (p t v : Int) : Int := if m_open r p = false then -11 else if ¬ ((0 ≤ t ∧ t ≤ 3) ∧ (0 ≤ v ∧ v ≤ 99)) then -12 else if m_its r p 1 = 6 then -13 else (m_writesR r p t v) 1 - 1
def m_writes (r : RW) (p t v : Int) : RW := if m_open r p = false then r else if ¬ ((0 ≤ t ∧ t ≤ 3) ∧ (0 ≤ v ∧ v ≤ 99)) then r else if m_its r p 1 = 6 then r else m_writesR r p t v
theorem m_open_rg {r : RW} {p : Int} (h : m_open r p = true) : 0 ≤ p ∧ p ≤ 3 := by
  simp [m_open] at h; omega
abbrev rmX8_writes : Room := { frames := 2, cells := 0, slots := 0, locals := 43 }
def m_drops (r : RW) (p : Int) : RW := if m_open r p = false then r else up r (17 + 20 * p + 0) 0
theorem rf_drops {r : RW} (h : RF r) (p : Int) : RF (m_drops r p) := by
  unfold m_drops; split
  · exact h
  · exact rf_up h _ _
def m_dropsC (r : RW) (p : Int) : Int := if m_open r p = false then -11 else m_its (m_drops r p) p 1
abbrev rmX8_drops : Room := { frames := 2, cells := 0, slots := 0, locals := 43 }
def m_rowOf (r : RW) (n k : Int) : Int := b_and (b_shr (m_way r n (5 + k.tdiv 4)) (8 * k.tmod 4)) 255
abbrev rmX8_rowOf : Room := { frames := 1, cells := 0, slots := 0, locals := 22 }
/-- the places k.. of the row are taken from 7 places on, as far as it has come -/
def m_tkL (r : RW) (n k : Int) : RW := fun j => if 811 + 7 * n ≤ j ∧ j < k then r (j + 7) else r j
def m_takeOff (r : RW) (n : Int) : RW := fun j => if j = 9 then r 9 - 1 else if 811 + 7 * (r 9 - 1) ≤ j ∧ j < 811 + 7 * r 9 then 0 else if 811 + 7 * n ≤ j ∧ j < 811 + 7 * (r 9 - 1) then r (j + 7) else r j
theorem rf_takeOff {r : RW} (h : RF r) (h9 : 0 < r 9 ∧ r 9 ≤ 100) (n : Int) : RF (m_takeOff r n) := fun j => by
  unfold m_takeOff; split
  · exact ⟨by omega, by omega⟩
  · split
    · exact rg_0
    · split <;> exact h _
abbrev rmX8_takeOff : Room := { frames := 0, cells := 0, slots := 0, locals := 0 }
end
section
def m_commit1 (g : RW) (p k : Int) : RW :=
  let a := 17 + 20 * p + 2 + 3 * k
  let t := 97 + 3 * g 2
  let g1 := up g t (g a + 4 * g (a + 1))
  let g2 := up g1 (t + 1) (g1 (a + 2))
  let g3 := up g2 (t + 2) 0
  up g3 2 (g3 2 + 1)
def m_commitL (r : RW) (p : Int) : Nat → RW
  | 0 => r
  | k + 1 => m_commit1 (m_commitL r p k) p k
theorem rf_commit1 {g : RW} (h : RF g) (p k : Int) : RF (m_commit1 g p k) := rf_up (rf_up (rf_up (rf_up h _ _) _ _) _ _) _ _
theorem rf_commitL {r : RW} (h : RF r) (p : Int) (n : Nat) : RF (m_commitL r p n) := by
  induction n with
  | zero => exact h
  | succ n ih => exact rf_commit1 ih _ _
theorem m_commitL_2 {r : RW} (h : RF r) (p : Int) (h2 : 0 ≤ r 2 ∧ r 2 ≤ 200) (n : Nat) (hn : n ≤ 6) : (m_commitL r p n) 2 = r 2 + n := by
  induction n with
  | zero => simp [m_commitL]
  | succ n ih =>
    have ih := ih (by omega)
    simp only [m_commitL, m_commit1]
    rw [up_s, up_n _ _ (by omega), up_n _ _ (by omega), up_n _ _ (by omega), ih, wr_id ⟨by omega, by omega⟩]
    omega
def m_commitsC (r : RW) (p : Int) : Int := if m_open r p = false then -11 else if m_kept r + m_its r p 1 > 60 ∨ r 2 + m_its r p 1 > 200 then -12 else m_kept (up (m_commitL r p (m_its r p 1).toNat) (17 + 20 * p + 0) 0)
def m_commits (r : RW) (p : Int) : RW := if m_open r p = false then r else if m_kept r + m_its r p 1 > 60 ∨ r 2 + m_its r p 1 > 200 then r else up (m_commitL r p (m_its r p 1).toNat) (17 + 20 * p + 0) 0
theorem rf_commits {r : RW} (h : RF r) (p : Int) : RF (m_commits r p) := by
  unfold m_commits; split
  · exact h
  · split
    · exact h
    · exact rf_up (rf_commitL h _ _) _ _
abbrev rmX8_commits : Room := { frames := 2, cells := 0, slots := 0, locals := 43 }
def m_lost (g : RW) (k c : Int) : RW := up g (697 + 38 * c + 12) (m_of g c 12 + (if m_wants g c (m_topic g k) = true ∧ m_mark g k (1 + c) = false then 1 else 0))
def m_sweep1 (g : RW) (k : Int) : RW := m_lost (m_lost (m_lost (m_setm g k 0) k 0) k 1) k 2
theorem rf_lost {g : RW} (h : RF g) (k c : Int) : RF (m_lost g k c) := rf_up h _ _
def m_sweepL (r : RW) : Nat → RW
  | 0 => r
  | k + 1 => if m_mark (m_sweepL r k) k 0 = false ∧ m_ansBy (m_sweepL r k) k = 7 then m_sweep1 (m_sweepL r k) k else m_sweepL r k
def m_sweepN (r : RW) : Nat → Int
  | 0 => 0
  | k + 1 => if m_mark (m_sweepL r k) k 0 = false ∧ m_ansBy (m_sweepL r k) k = 7 then m_sweepN r k + 1 else m_sweepN r k
theorem rf_sweep1 {g : RW} (h : RF g) (k : Int) : RF (m_sweep1 g k) := rf_lost (rf_lost (rf_lost (rf_setm h _ _) _ _) _ _) _ _
theorem rf_sweepL {r : RW} (h : RF r) (n : Nat) : RF (m_sweepL r n) := by
  induction n with
  | zero => exact h
  | succ n ih => simp only [m_sweepL]; split; exact rf_sweep1 ih _; exact ih
theorem m_sweep1_lo {g : RW} {k j : Int} (hk : 0 ≤ k) (hj : j < 97) : (m_sweep1 g k) j = g j := by
  unfold m_sweep1 m_lost m_setm
  rw [up_n _ _ (by omega), up_n _ _ (by omega), up_n _ _ (by omega), up_n _ _ (by omega)]
theorem m_sweepL_lo {r : RW} {j : Int} (hj : j < 97) (n : Nat) : (m_sweepL r n) j = r j := by
  induction n with
  | zero => rfl
  | succ n ih =>
    simp only [m_sweepL]; split
    · rw [m_sweep1_lo (by omega) hj, ih]
    · exact ih
theorem m_sweepN_rg (r : RW) (n : Nat) : 0 ≤ m_sweepN r n ∧ m_sweepN r n ≤ n := by
  induction n with
  | zero => simp [m_sweepN]
  | succ n ih => simp only [m_sweepN]; split <;> omega
def m_sweepsC (r : RW) : Int := m_sweepN r (r 2).toNat
def m_sweeps (r : RW) : RW := up (m_sweepL r (r 2).toNat) 3 ((m_sweepL r (r 2).toNat) 3 + m_sweepN r (r 2).toNat)
theorem rf_sweeps {r : RW} (h : RF r) : RF (m_sweeps r) := rf_up (rf_sweepL h _) _ _
theorem rg_ansBy (r : RW) (k : Int) : rg (m_ansBy r k) := rg_or _ _
abbrev rmX8_sweeps : Room := { frames := 4, cells := 0, slots := 0, locals := 89 }
end
section
def m_sends0 (r : RW) : RW := up r 4 (r 4 + 1)
def m_sendsA (g : RW) (kd c mn gr : Int) : RW :=
  let a := 811 + 7 * g 9
  let g2 := up (up g (a + 0) kd) (a + 1) c
  up (up (up (up (up g2 (a + 2) (g2 0 + g2 11)) (a + 3) mn) (a + 4) gr) (a + 5) 0) (a + 5 + 1) 0
def m_pack (g b : RW) (a : Int) : Nat → RW
  | 0 => g
  | k + 1 => up (m_pack g b a k) (a + 5 + (k : Int).tdiv 4) (b_or ((m_pack g b a k) (a + 5 + (k : Int).tdiv 4)) (b_shl (b k) (8 * (k : Int).tmod 4)))
def m_sends (r b : RW) (kd c mn gr : Int) : RW :=
  if (m_sends0 r) 14 ≠ 0 ∧ ((m_sends0 r) 4).tmod ((m_sends0 r) 14) = 0 then up (m_sends0 r) 5 ((m_sends0 r) 5 + 1)
  else up (m_pack (m_sendsA (m_sends0 r) kd c mn gr) b (811 + 7 * (m_sends0 r) 9) mn.toNat) 9 ((m_pack (m_sendsA (m_sends0 r) kd c mn gr) b (811 + 7 * (m_sends0 r) 9) mn.toNat) 9 + 1)
theorem rf_sends0 {r : RW} (h : RF r) : RF (m_sends0 r) := rf_up h _ _
theorem rf_sendsA {r : RW} (h : RF r) (kd c mn gr : Int) : RF (m_sendsA r kd c mn gr) := rf_up (rf_up (rf_up (rf_up (rf_up (rf_up (rf_up h _ _) _ _) _ _) _ _) _ _) _ _) _ _
theorem rf_pack {g : RW} (h : RF g) (b : RW) (a : Int) (n : Nat) : RF (m_pack g b a n) := by
  induction n with
  | zero => exact h
  | succ n ih => exact rf_up ih _ _
theorem rf_sends {r : RW} (h : RF r) (b : RW) (kd c mn gr : Int) : RF (m_sends r b kd c mn gr) := by
  unfold m_sends; split
  · exact rf_up (rf_sends0 h) _ _
  · exact rf_up (rf_pack (rf_sendsA (rf_sends0 h) _ _ _ _) _ _ _) _ _
theorem m_sends0_n (r : RW) {j : Int} (h : j ≠ 4) : (m_sends0 r) j = r j := up_n r _ h
theorem m_sendsA_lo {g : RW} (h9 : 0 ≤ g 9) (kd c mn gr : Int) {j : Int} (hj : j < 811) : (m_sendsA g kd c mn gr) j = g j := by
  simp only [m_sendsA]
  rw [up_n _ _ (by omega), up_n _ _ (by omega), up_n _ _ (by omega), up_n _ _ (by omega), up_n _ _ (by omega), up_n _ _ (by omega), up_n _ _ (by omega)]
theorem tdiv4 (k : Nat) : (k : Int).tdiv 4 = ((k / 4 : Nat) : Int) := by rw [Int.tdiv_eq_ediv_of_nonneg (by omega)]; rfl
theorem m_pack_lo {g : RW} (b : RW) {a : Int} (ha : 811 ≤ a) (n : Nat) {j : Int} (hj : j < 811) : (m_pack g b a n) j = g j := by
  induction n with
  | zero => rfl
  | succ n ih =>
    simp only [m_pack]
    rw [up_n _ _ (by rw [tdiv4]; omega), ih]
theorem rg_tmod {i j : Int} (hi : rg i) (hj : rg j) (h0 : j ≠ 0) : rg (i.tmod j) := by
  rcases Int.lt_or_gt_of_ne h0 with q | q
  · have := tmod_bounds (a := i) (M := -j) (by omega)
    rw [Int.tmod_neg] at this
    constructor <;> omega
  · have := tmod_bounds (a := i) (M := j) (by omega)
    constructor <;> omega
abbrev rmX8_sends : Room := { frames := 0, cells := 0, slots := 0, locals := 0 }
def m_mem (r : RW) (c n : Int) : Nat → Bool
  | 0 => false
  | k + 1 => m_mem r c n k || decide (m_of r c (13 + k) = n)
abbrev rmX8_remembers : Room := { frames := 1, cells := 0, slots := 0, locals := 22 }
end
section
/-- effects, sum, seconds, disorders -/
def m_works4 (f : RW) (c k : Int) : RW :=
  let r1 := up f (697 + 38 * c + 3) (m_of f c 3 + 1)
  let r2 := up r1 (697 + 38 * c + 4) (m_of r1 c 4 + m_value r1 k)
  let r3 := up r2 (697 + 38 * c + 6) (m_of r2 c 6 + (if m_mark r2 k (1 + c) = true then 1 else 0))
  up r3 (697 + 38 * c + 7) (m_of r3 c 7 + (if m_of r3 c 1 ≤ m_num f k then 0 else 1))
/-- mark, memory, how many are known -/
def m_works7 (f : RW) (c k : Int) : RW :=
  let r4 := m_works4 f c k
  let r5 := up r4 (697 + 38 * c + 1) (if m_num f k ≤ m_of r4 c 1 then m_of r4 c 1 else m_num f k)
  up (up r5 (697 + 38 * c + (13 + m_of f c 2)) (m_num f k)) (697 + 38 * c + 2) (m_of f c 2 + 1)
def m_shift (g : RW) (b : Int) (k : Int) : RW := fun j => if b ≤ j ∧ j < b + k then g (j + 1) else g j
def m_works (f : RW) (c k : Int) : RW :=
  m_setm (if m_of f c 2 + 1 ≤ (m_works7 f c k) 16 then m_works7 f c k else up (up (m_shift (m_works7 f c k) (697 + 38 * c + 13) (m_of f c 2)) (697 + 38 * c + (13 + m_of f c 2)) 0) (697 + 38 * c + 2) (m_of f c 2)) k (1 + c)
theorem rf_works4 {r : RW} (h : RF r) (c k : Int) : RF (m_works4 r c k) := rf_up (rf_up (rf_up (rf_up h _ _) _ _) _ _) _ _
theorem rf_works7 {r : RW} (h : RF r) (c k : Int) : RF (m_works7 r c k) := rf_up (rf_up (rf_up (rf_works4 h _ _) _ _) _ _) _ _
theorem rf_shift {g : RW} (h : RF g) (b k : Int) : RF (m_shift g b k) := fun j => by unfold m_shift; split <;> exact h _
theorem rf_works {r : RW} (h : RF r) (c k : Int) : RF (m_works r c k) := by
  unfold m_works
  refine rf_setm ?_ _ _
  split
  · exact rf_works7 h _ _
  · exact rf_up (rf_up (rf_shift (rf_works7 h _ _) _ _) _ _) _ _
abbrev rmX8_works : Room := { frames := 2, cells := 0, slots := 0, locals := 42 }
theorem rf_ite {P : Prop} [Decidable P] {a b : RW} (ha : RF a) (hb : RF b) : RF (if P then a else b) := by
  split <;> assumption
def m_answerComes (f : RW) (n : Int) : RW :=
  let c := m_way f n 1
  let x := m_way f n 4
  let g := m_takeOff f n
  let g1 := up g 7 (g 7 + 1)
  let g2 := up g1 (697 + 38 * c + 8) (if x ≤ m_of g1 c 8 then m_of g1 c 8 else x)
  if x < m_of g2 c 10 then g2 else up g2 (697 + 38 * c + 9) 0
theorem rf_answerComes {f : RW} (h : RF f) (h9 : 0 < f 9 ∧ f 9 ≤ 100) (n : Int) : RF (m_answerComes f n) := by
  have h1 := rf_takeOff h h9 n
  simp only [m_answerComes]
  exact rf_ite (rf_up (rf_up h1 _ _) _ _) (rf_up (rf_up (rf_up h1 _ _) _ _) _ _)
abbrev rmX8_answerComes : Room := { frames := 1, cells := 0, slots := 0, locals := 23 }
end
section
theorem b_and255 (x : Int) : 0 ≤ b_and x 255 ∧ b_and x 255 ≤ 255 := by
  obtain ⟨j, hj, e⟩ := pk_andE (Int32.ofInt x) (m := 255) 8 (by decide)
  unfold b_and
  rw [show Int32.ofInt 255 = 255 from rfl, e, nI_toInt (by omega)]
  omega
theorem m_rowOf_rg (r : RW) (n k : Int) : 0 ≤ m_rowOf r n k ∧ m_rowOf r n k ≤ 255 := b_and255 _
theorem m_works7_out (f : RW) {c k : Int} (hc : 0 ≤ c ∧ c < 3) (h2 : 0 ≤ m_of f c 2 ∧ m_of f c 2 ≤ 20) {j : Int} (hj : j < 697 ∨ 811 ≤ j) : (m_works7 f c k) j = f j := by
  unfold m_works7 m_works4
  dsimp only
  rw [up_n _ _ (by omega), up_n _ _ (by omega), up_n _ _ (by omega), up_n _ _ (by omega), up_n _ _ (by omega), up_n _ _ (by omega), up_n _ _ (by omega)]
theorem m_works_out (f : RW) {c k : Int} (hc : 0 ≤ c ∧ c < 3) (hk : 0 ≤ k ∧ k < 200) (h2 : 0 ≤ m_of f c 2 ∧ m_of f c 2 ≤ 20) {j : Int} (hj : j < 97 ∨ 811 ≤ j ∨ (j < 697 ∧ j ≠ 97 + 3 * k + 2)) : (m_works f c k) j = f j := by
  unfold m_works m_setm
  rw [up_n _ _ (by omega)]
  split
  · exact m_works7_out f hc h2 (by omega)
  · rw [up_n _ _ (by omega), up_n _ _ (by omega)]
    unfold m_shift
    rw [if_neg (by omega)]
    exact m_works7_out f hc h2 (by omega)
theorem m_works_known (f : RW) {c k : Int} (hc : 0 ≤ c ∧ c < 3) (hk : 0 ≤ k ∧ k < 200) (h2 : 0 ≤ m_of f c 2 ∧ m_of f c 2 ≤ 20) (h16 : f 16 ≤ 20) : 0 ≤ m_of (m_works f c k) c 2 ∧ m_of (m_works f c k) c 2 ≤ 20 := by
  have h7 := m_works7_out f (c := c) (k := k) hc h2 (j := 16) (by omega)
  rw [show m_of (m_works f c k) c 2 = (m_works f c k) (697 + 38 * c + 2) from rfl]
  unfold m_works m_setm
  rw [up_n _ _ (by omega)]
  split
  · rename_i hle
    rw [h7] at hle
    have e : (m_works7 f c k) (697 + 38 * c + 2) = wr (m_of f c 2 + 1) := up_s _ _ _
    rw [e, wr_id ⟨by omega, by omega⟩]
    omega
  · rw [up_s, wr_id ⟨by omega, by omega⟩]
    exact h2
/-- does the row w come again to receiver c -/
def m_rep (g : RW) (c w : Int) : Bool := if g 15 = 1 then decide (m_num g w ≤ m_of g c 1) else m_mem g c (m_num g w) (m_of g c 2).toNat
def m_bc1 (g : RW) (n c k : Int) : RW := if m_rep g c (m_rowOf g n k) = true then up g (697 + 38 * c + 5) (m_of g c 5 + 1) else m_works g c (m_rowOf g n k)
def m_bcL (f : RW) (n c : Int) : Nat → RW
  | 0 => f
  | k + 1 => m_bc1 (m_bcL f n c k) n c k
theorem rf_bc1 {g : RW} (h : RF g) (n c k : Int) : RF (m_bc1 g n c k) := rf_ite (rf_up h _ _) (rf_works h _ _)
theorem rf_bcL {f : RW} (h : RF f) (n c : Int) (k : Nat) : RF (m_bcL f n c k) := by
  induction k with
  | zero => exact h
  | succ k ih => exact rf_bc1 ih _ _ _
/-- what a message must be that comes to its receiver -/
def BP (f : RW) (n : Int) : Prop := (0 < f 9 ∧ f 9 ≤ 100) ∧ (0 ≤ n ∧ n < f 9) ∧ (0 ≤ m_way f n 1 ∧ m_way f n 1 < 3) ∧ (0 ≤ m_way f n 3 ∧ m_way f n 3 ≤ 8) ∧ (∀ k : Int, 0 ≤ k → k < m_way f n 3 → m_rowOf f n k < 200) ∧ (0 ≤ m_of f (m_way f n 1) 2 ∧ m_of f (m_way f n 1) 2 ≤ 20) ∧ f 16 ≤ 20
theorem m_rowOf_hi {f g : RW} {n k : Int} (hn : 0 ≤ n) (hk : 0 ≤ k) (h : ∀ j, 811 ≤ j → g j = f j) : m_rowOf g n k = m_rowOf f n k := by
  unfold m_rowOf m_way
  rw [h _ (by have := Int.tdiv_nonneg hk (by decide : (0:Int) ≤ 4); omega)]
theorem m_bcL_facts {f : RW} {n : Int} (hB : BP f n) (k : Nat) (hk : (k : Int) ≤ m_way f n 3) : (∀ j, (j < 97 ∨ 811 ≤ j) → (m_bcL f n (m_way f n 1) k) j = f j) ∧ (0 ≤ m_of (m_bcL f n (m_way f n 1) k) (m_way f n 1) 2 ∧ m_of (m_bcL f n (m_way f n 1) k) (m_way f n 1) 2 ≤ 20) := by
  obtain ⟨h9, hn, hc, hl, hr, h2, h16⟩ := hB
  induction k with
  | zero => exact ⟨fun _ _ => rfl, h2⟩
  | succ k ih =>
    obtain ⟨i1, i2⟩ := ih (by omega)
    have e := m_rowOf_hi (f := f) (g := m_bcL f n (m_way f n 1) k) (n := n) (k := k) hn.1 (by omega) (fun j hj => i1 j (Or.inr hj))
    have hw := m_rowOf_rg f n k
    have hw2 := hr k (by omega) (by omega)
    simp only [m_bcL, m_bc1]
    split
    · refine ⟨fun j hj => ?_, ?_⟩
      · rw [up_n _ _ (by omega)]; exact i1 j hj
      · show 0 ≤ up _ _ _ (697 + 38 * m_way f n 1 + 2) ∧ up _ _ _ (697 + 38 * m_way f n 1 + 2) ≤ 20
        rw [up_n _ _ (by omega)]; exact i2
    · rw [e]
      refine ⟨fun j hj => ?_, ?_⟩
      · rw [m_works_out _ hc ⟨hw.1, hw2⟩ i2 (by omega)]; exact i1 j hj
      · exact m_works_known _ hc ⟨hw.1, hw2⟩ i2 (by rw [i1 16 (by omega)]; exact h16)
def m_batchComes (f b : RW) (n : Int) : RW :=
  m_sends (m_takeOff (m_bcL f n (m_way f n 1) (m_way f n 3).toNat) n) b 1 (m_way f n 1) 0 (m_way (m_bcL f n (m_way f n 1) (m_way f n 3).toNat) n 4)
abbrev rmX8_batchComes : Room := { frames := 3, cells := 0, slots := 0, locals := 67 }
end
section
theorem m_nextL_spec (r : RW) (a : Int) (n : Nat) (h : m_nextL r a n ≠ -1) : a < m_num r (m_nextL r a n) ∧ m_mark r (m_nextL r a n) 0 = false := by
  induction n with
  | zero => exact absurd rfl h
  | succ n ih =>
    simp only [m_nextL] at h ⊢
    split
    · rename_i q; exact ⟨q.1.2, q.1.1⟩
    · rename_i q; rw [if_neg q] at h; exact ih h
theorem m_next_spec (r : RW) (a : Int) (h : m_next r a ≠ -1) : a < m_num r (m_next r a) ∧ m_mark r (m_next r a) 0 = false := m_nextL_spec r a _ h
def m_cntL (r : RW) (a : Int) : Nat → Nat
  | 0 => 0
  | k + 1 => m_cntL r a k + (if a < m_num r k then 1 else 0)
def m_cnt (r : RW) (a : Int) : Nat := m_cntL r a (r 2).toNat
theorem m_cntL_le (r : RW) (a : Int) (n : Nat) : m_cntL r a n ≤ n := by
  induction n with
  | zero => exact Nat.le_refl _
  | succ n ih => simp only [m_cntL]; split <;> omega
theorem m_cntL_mono (r : RW) {a a2 : Int} (h : a ≤ a2) (n : Nat) : m_cntL r a2 n ≤ m_cntL r a n := by
  induction n with
  | zero => exact Nat.le_refl _
  | succ n ih => simp only [m_cntL]; split <;> split <;> omega
theorem m_cntL_lt (r : RW) {a : Int} {k n : Nat} (hk : k < n) (h : a < m_num r k) : m_cntL r (m_num r k) n < m_cntL r a n := by
  induction n with
  | zero => omega
  | succ n ih =>
    simp only [m_cntL]
    rcases Nat.lt_or_ge k n with q | q
    · have := ih q
      split <;> split <;> omega
    · have e : k = n := by omega
      subst e
      have := m_cntL_mono r (Int.le_of_lt h) k
      rw [if_neg (by omega), if_pos h]; omega
theorem m_cnt_lt (r : RW) {a : Int} (h2 : 0 ≤ r 2) (h : m_next r a ≠ -1) : m_cnt r (m_num r (m_next r a)) < m_cnt r a := by
  have h1 := m_next_rg r a h2
  have h3 := (m_next_spec r a h).1
  obtain ⟨k, hk⟩ : ∃ k : Nat, m_next r a = k := ⟨(m_next r a).toNat, by omega⟩
  rw [hk] at h3 ⊢
  exact m_cntL_lt r (by omega) h3
/-- the batch is filled: how many, and the batch -/
def m_gat (f : RW) (c : Int) : Nat → Int → Int → RW → Int × RW
  | 0, _, n, b => (n, b)
  | s + 1, a, n, b => if m_next f a = -1 ∨ f 12 ≤ n then (n, b) else if m_wants f c (m_topic f (m_next f a)) = true then m_gat f c s (m_num f (m_next f a)) (n + 1) (up b n (m_next f a)) else m_gat f c s (m_num f (m_next f a)) n b
def m_gather (f : RW) (c : Int) (b : RW) : Int × RW := m_gat f c 201 (m_of f c 8) 0 b
theorem m_gat_facts (f : RW) (c : Int) (h2 : 0 ≤ f 2 ∧ f 2 ≤ 200) (h12 : f 12 ≤ 8) (s : Nat) : ∀ (a n : Int) (b : RW), RF b → 0 ≤ n → n ≤ 8 → (∀ i, 0 ≤ i → i < n → 0 ≤ b i ∧ b i < f 2) → RF (m_gat f c s a n b).2 ∧ n ≤ (m_gat f c s a n b).1 ∧ (m_gat f c s a n b).1 ≤ 8 ∧ ∀ i, 0 ≤ i → i < (m_gat f c s a n b).1 → 0 ≤ (m_gat f c s a n b).2 i ∧ (m_gat f c s a n b).2 i < f 2 := by
  induction s with
  | zero => intro a n b rb h0 h8 hb; exact ⟨rb, Int.le_refl _, h8, hb⟩
  | succ s ih =>
    intro a n b rb h0 h8 hb
    have hx := m_next_rg f a h2.1
    simp only [m_gat]
    split
    · exact ⟨rb, Int.le_refl _, h8, hb⟩
    · rename_i q
      have q1 : m_next f a ≠ -1 := fun e => q (Or.inl e)
      have q2 : n < f 12 := by
        rcases Int.lt_or_le n (f 12) with z | z
        · exact z
        · exact absurd (Or.inr z) q
      split
      · obtain ⟨i1, i2, i3, i4⟩ := ih (m_num f (m_next f a)) (n + 1) (up b n (m_next f a)) (rf_up rb _ _) (by omega) (by omega) (fun i hi0 hi => by
          by_cases e : i = n
          · subst e; rw [up_s, wr_id ⟨by omega, by omega⟩]; omega
          · rw [up_n _ _ e]; exact hb i hi0 (by omega))
        exact ⟨i1, by omega, i3, i4⟩
      · exact ih _ n b rb h0 h8 hb
abbrev rmX8_gather : Room := { frames := 3, cells := 0, slots := 0, locals := 66 }
end
section
theorem rM_ald3 {C : Cx} {cc : ByteArray} {own : String} {R : Room} {nL : Nat} {pc : Nat} {lv : LV} {st : List SV} {u : Mem} {m : Nat} {f b : RW} {c z : Nat} (hC : CxOK C cc own R nL) (hb : RF b) {q n : Nat} {i : Int} (hd : decode cc pc = .ok (.iaload, 1)) (hs : mSh u (m + q) = some (.inr (0, n))) (hq : Nat.beq q 1 = false) (hi : 0 ≤ i ∧ i < n) (kk : VW C (pc + 1) lv (xI (b i) :: st) (sA (sA u (m + q) b) (m + 1) f) c z) : VW C pc lv (xI i :: xA (m + q) :: st) (sA (sA u (m + q) b) (m + 1) f) c z := by
  refine rM_ald2 hC hd hs hq hi ?_
  rw [mI_sA_f u (m + q) hb]; exact kk
def m_may (f : RW) (c : Int) : Bool := decide (m_of f c 9 = 0) || decide (f 13 ≤ f 0 - m_of f c 11)
def m_markL (f b : RW) (c : Int) : Nat → RW
  | 0 => f
  | k + 1 => m_setm (m_markL f b c k) (b k) (4 + c)
def m_rel0 (f b : RW) (c n : Int) : RW :=
  let g1 := m_markL f b c n.toNat
  let g2 := up g1 (697 + 38 * c + 9) 1
  let g3 := up g2 (697 + 38 * c + 11) (g2 0)
  let g4 := up g3 (697 + 38 * c + 10) (m_num g3 (b (n - 1)))
  let g5 := up g4 6 (g4 6 + 1)
  up g5 8 (g5 8 + n)
def m_rel1 (f b : RW) (c n : Int) : RW := m_sends (m_rel0 f b c n) b 0 c n (m_num (m_rel0 f b c n) (b (n - 1)))
def m_relN (f b : RW) (c : Int) : Int := if m_may f c = true then (m_gather f c b).1 else 0
def m_relB (f b : RW) (c : Int) : RW := if m_may f c = true then (m_gather f c b).2 else b
def m_relays (f b : RW) (c : Int) : RW := if 0 < m_relN f b c then m_rel1 f (m_relB f b c) c (m_relN f b c) else f
theorem rf_markL {f : RW} (h : RF f) (b : RW) (c : Int) (k : Nat) : RF (m_markL f b c k) := by
  induction k with
  | zero => exact h
  | succ k ih => exact rf_setm ih _ _
theorem rf_rel0 {f : RW} (h : RF f) (b : RW) (c n : Int) : RF (m_rel0 f b c n) := rf_up (rf_up (rf_up (rf_up (rf_up (rf_markL h _ _ _) _ _) _ _) _ _) _ _) _ _
theorem rf_relays {f : RW} (h : RF f) (b : RW) (c : Int) : RF (m_relays f b c) := rf_ite (rf_sends (rf_rel0 h _ _ _) _ _ _ _ _) h
theorem m_rel_facts {f b : RW} (hb : RF b) (c : Int) (h2 : 0 ≤ f 2 ∧ f 2 ≤ 200) (h12 : f 12 ≤ 8) : RF (m_relB f b c) ∧ 0 ≤ m_relN f b c ∧ m_relN f b c ≤ 8 ∧ ∀ i, 0 ≤ i → i < m_relN f b c → 0 ≤ (m_relB f b c) i ∧ (m_relB f b c) i < f 2 := by
  unfold m_relB m_relN
  split
  · have h := m_gat_facts f c h2 h12 201 (m_of f c 8) 0 b hb (by omega) (by omega) (fun i h0 h1 => by omega)
    exact ⟨h.1, h.2.1, h.2.2.1, h.2.2.2⟩
  · exact ⟨hb, by omega, by omega, fun i h0 h1 => by omega⟩
theorem m_markL_out (f : RW) {b : RW} {c n : Int} {X : Int} (hX : X ≤ 200) (hb : ∀ i, 0 ≤ i → i < n → 0 ≤ b i ∧ b i < X) (k : Nat) (hk : (k : Int) ≤ n) {j : Int} (hj : j < 97 ∨ 697 ≤ j) : (m_markL f b c k) j = f j := by
  induction k with
  | zero => rfl
  | succ k ih =>
    have := hb k (by omega) (by omega)
    simp only [m_markL, m_setm]
    rw [up_n _ _ (by omega)]; exact ih (by omega)
abbrev rmX8_relays : Room := { frames := 4, cells := 0, slots := 0, locals := 89 }
end
section
def m_step (f b : RW) : RW := if m_way f (m_due f) 0 = 0 then m_batchComes f b (m_due f) else m_answerComes f (m_due f)
def m_steps (b : RW) : Nat → RW → RW
  | 0, f => f
  | s + 1, f => if m_due f = -1 then f else m_steps b s (m_step f b)
def m_rel3 (f b : RW) : RW × RW :=
  let f1 := m_relays f b 0
  let b1 := m_relB f b 0
  let f2 := m_relays f1 b1 1
  let b2 := m_relB f1 b1 1
  (m_relays f2 b2 2, m_relB f2 b2 2)
def m_tick (f b : RW) : RW × RW := m_rel3 (m_steps b 200 (up f 0 (f 0 + 1))) b
def RelPre (f : RW) (c : Int) : Prop := (0 ≤ f 2 ∧ f 2 ≤ 200) ∧ (1 ≤ f 12 ∧ f 12 ≤ 8) ∧ (0 ≤ f 9 ∧ f 9 ≤ 100) ∧ rg (f 0 - m_of f c 11)
def Rel3Pre (f b : RW) : Prop := RelPre f 0 ∧ RelPre (m_relays f b 0) 1 ∧ RelPre (m_relays (m_relays f b 0) (m_relB f b 0) 1) 2
def StepPre (f : RW) : Prop := BP f (m_due f)
/-- the due ones can be gone through, and then the relays -/
def StepsOK (b : RW) : Nat → RW → Prop
  | 0, f => (0 ≤ f 9 ∧ f 9 ≤ 100) ∧ m_due f = -1 ∧ Rel3Pre f b
  | s + 1, f => (0 ≤ f 9 ∧ f 9 ≤ 100) ∧ ((m_due f = -1 ∧ Rel3Pre f b) ∨ (m_due f ≠ -1 ∧ StepPre f ∧ StepsOK b s (m_step f b)))
theorem rf_batchComes {f b : RW} (h : RF f) (n : Int) (hB : BP f n) : RF (m_batchComes f b n) := by
  unfold m_batchComes
  have h1 := m_bcL_facts hB (m_way f n 3).toNat (by have := hB.2.2.2.1; omega)
  have h2 := h1.1 9 (by omega)
  exact rf_sends (rf_takeOff (rf_bcL h _ _ _) (by rw [h2]; exact hB.1) _) _ _ _ _ _
theorem rf_step {f b : RW} (h : RF f) (hB : BP f (m_due f)) : RF (m_step f b) := by
  unfold m_step
  split
  · exact rf_batchComes h _ hB
  · exact rf_answerComes h hB.1 _
theorem StepsOK.nine {b : RW} {s : Nat} {f : RW} (h : StepsOK b s f) : 0 ≤ f 9 ∧ f 9 ≤ 100 := by
  cases s with
  | zero => exact h.1
  | succ s => exact h.1
abbrev rmX8_tick : Room := { frames := 5, cells := 0, slots := 0, locals := 113 }
def m_eff (f : RW) : Int := m_of f 0 3 + m_of f 1 3 + m_of f 2 3
abbrev rmX8_effects : Room := { frames := 1, cells := 0, slots := 0, locals := 22 }
end
section
theorem rf_steps {b : RW} (s : Nat) : ∀ {f : RW}, RF f → StepsOK b s f → RF (m_steps b s f) ∧ Rel3Pre (m_steps b s f) b := by
  induction s with
  | zero => intro f h hs; exact ⟨h, hs.2.2⟩
  | succ s ih =>
    intro f h hs
    simp only [m_steps]
    rcases hs.2 with ⟨q1, q2⟩ | ⟨q1, q2, q3⟩
    · rw [if_pos q1]; exact ⟨h, q2⟩
    · rw [if_neg q1]; exact ih (rf_step h q2) q3
theorem rf_rel3 {f b : RW} (h : RF f) (hb : RF b) (hP : Rel3Pre f b) : RF (m_rel3 f b).1 ∧ RF (m_rel3 f b).2 := by
  have h1 := rf_relays h b 0
  have b1 := (m_rel_facts (f := f) hb 0 hP.1.1 hP.1.2.1.2).1
  have h2 := rf_relays h1 (m_relB f b 0) 1
  have b2 := (m_rel_facts (f := m_relays f b 0) b1 1 hP.2.1.1 hP.2.1.2.1.2).1
  exact ⟨rf_relays h2 _ _, (m_rel_facts b2 2 hP.2.2.1 hP.2.2.2.1.2).1⟩
def TickOK (f b : RW) : Prop := StepsOK b 200 (up f 0 (f 0 + 1))
theorem rf_tick {f b : RW} (h : RF f) (hb : RF b) (hs : TickOK f b) : RF (m_tick f b).1 ∧ RF (m_tick f b).2 := by
  obtain ⟨h1, h2⟩ := rf_steps 200 (rf_up h 0 (f 0 + 1)) hs
  exact rf_rel3 h1 hb h2
def m_pass (f b : RW) : Nat → RW × RW
  | 0 => (f, b)
  | k + 1 => m_tick (m_pass f b k).1 (m_pass f b k).2
def PassOK (f b : RW) (n : Nat) : Prop := ∀ k, k < n → TickOK (m_pass f b k).1 (m_pass f b k).2
theorem rf_pass {f b : RW} (h : RF f) (hb : RF b) {n : Nat} (hp : PassOK f b n) (k : Nat) (hk : k ≤ n) : RF (m_pass f b k).1 ∧ RF (m_pass f b k).2 := by
  induction k with
  | zero => exact ⟨h, hb⟩
  | succ k ih =>
    obtain ⟨i1, i2⟩ := ih (by omega)
    exact rf_tick i1 i2 (hp k (by omega))
abbrev rmX8_passes : Room := { frames := 6, cells := 0, slots := 0, locals := 135 }
/-- the first k places from another row -/
def cp (dst src : RW) (k : Int) : RW := fun j => if 0 ≤ j ∧ j < k then src j else dst j
theorem rf_cp {d s : RW} (hd : RF d) (hs : RF s) (k : Int) : RF (cp d s k) := fun j => by unfold cp; split; exact hs j; exact hd j
theorem cp_0 (d s : RW) (j : Int) : cp d s 0 j = d j := if_neg (by omega)
theorem cp_up (d s : RW) {k : Int} (h0 : 0 ≤ k) (rs : RF s) (j : Int) : up (cp d s k) k (s k) j = cp d s (k + 1) j := by
  unfold up cp
  by_cases h : j = k
  · subst h; rw [if_pos rfl, if_pos (by omega), wr_id (rs j)]
  · rw [if_neg h]; split <;> split <;> first | rfl | omega
/-- slice s of the past is the row -/
def m_put (P f : RW) (s : Int) (k : Int) : RW := fun j => if 1651 * s ≤ j ∧ j < 1651 * s + k then f (j - 1651 * s) else P j
theorem rf_put {P f : RW} (hP : RF P) (hf : RF f) (s k : Int) : RF (m_put P f s k) := fun j => by unfold m_put; split; exact hf _; exact hP j
theorem m_put_up (P f : RW) {s k : Int} (h0 : 0 ≤ k) (rf : RF f) (j : Int) : up (m_put P f s k) (1651 * s + k) (f k) j = m_put P f s (k + 1) j := by
  unfold up m_put
  by_cases h : j = 1651 * s + k
  · subst h; rw [if_pos rfl, if_pos (by omega), wr_id (rf k)]; congr 1; omega
  · rw [if_neg h]; split <;> split <;> first | rfl | omega
def m_shf (P : RW) (k : Int) : RW := fun j => if 0 ≤ j ∧ j < k then P (1651 + j) else P j
theorem rf_shf {P : RW} (hP : RF P) (k : Int) : RF (m_shf P k) := fun j => by unfold m_shf; split <;> exact hP _
theorem m_shf_up (P : RW) {k : Int} (h0 : 0 ≤ k) (rP : RF P) (j : Int) : up (m_shf P k) k (m_shf P k (1651 + k)) j = m_shf P (k + 1) j := by
  unfold up
  by_cases h : j = k
  · subst h; rw [if_pos rfl, wr_id (rf_shf rP _ _)]; unfold m_shf; rw [if_neg (by omega), if_pos (by omega)]
  · rw [if_neg h]; unfold m_shf; split <;> split <;> first | rfl | omega
def m_saved (P f : RW) (s : Int) : RW := if s = 6 then m_put (m_shf P 8255) f 5 1651 else m_put P f s 1651
def m_savedN (s : Int) : Int := if s = 6 then 6 else s + 1
theorem rf_saved {P f : RW} (hP : RF P) (hf : RF f) (s : Int) : RF (m_saved P f s) := rf_ite (rf_put (rf_shf hP _) hf _ _) (rf_put hP hf _ _)
theorem sA_eq {u : Mem} {a : Nat} {f g : RW} (h : ∀ j, f j = g j) : sA u a f = sA u a g := by rw [show f = g from funext h]
abbrev rmX8_save : Room := { frames := 0, cells := 0, slots := 0, locals := 0 }
end
