section
/-! the digest -/
def hx (h : Int64) (v : Int) : Int64 := 31 * h + i2j v
def gN (F : Nat → Int64 → Int64) : Nat → Int64 → Int64
  | 0, h => h
  | n + 1, h => F n (gN F n h)
theorem hN_congr {F G : Nat → Int64 → Int64} {n : Nat} (h : ∀ k, k < n → ∀ g, F k g = G k g) (g : Int64) : gN F n g = gN G n g := by
  induction n with
  | zero => rfl
  | succ n ih => simp only [gN]; rw [ih fun k hk => h k (by omega), h n (by omega)]
def m_hRow (f : RW) (r : Nat) (g : Int64) : Int64 := gN (fun w h => hx h (m_rowV f (m_keptAt f r) w)) 8 g
theorem m_hRow_eq (f : RW) (r : Nat) (g : Int64) {k : Int} (hk : k = m_keptAt f r) : hx (hx (hx (hx (hx (hx (hx (hx g (m_num f k)) (m_write f k)) k) (m_topic f k)) (m_value f k)) (b_and (b_shr (f (97 + 3 * k + 2)) 1) 7)) (m_ansBy f k)) (m_why f k) = m_hRow f r g := by
  subst hk; rfl
/-- the kept rows can be gone through -/
def KeptOK (f : RW) : Prop := (0 ≤ f 3 ∧ f 3 ≤ f 2) ∧ (∀ j : Nat, (j : Int) < m_kept f → 0 ≤ m_keptAt f j) ∧ m_keptAt f (m_kept f).toNat = -1
abbrev rmX8_ofRows : Room := { frames := 4, cells := 0, slots := 0, locals := 89 }
def m_hPlace (f : RW) (p : Nat) (g : Int64) : Int64 := gN (fun r h => hx h (m_skip f p r)) 3 (gN (fun w h => hx h (m_transV f p w)) 3 g)
theorem m_hPlace_eq (f : RW) (p : Nat) (g : Int64) : hx (hx (hx (hx (hx (hx g (m_transV f p 0)) (m_transV f p (0 + 1))) (m_transV f p (0 + 1 + 1))) (m_skip f p 0)) (m_skip f p (0 + 1))) (m_skip f p (0 + 1 + 1)) = m_hPlace f p g := rfl
def PlOK (f : RW) : Prop := ∀ p, m_open f p = true → 0 ≤ m_its f p 1 ∧ m_its f p 1 ≤ 6
abbrev rmX8_ofPlaces : Room := { frames := 3, cells := 0, slots := 0, locals := 69 }
end
section
/-- the base with what lies aside and the batch -/
def ab (u : Mem) (m : Nat) (A B : RW) : Mem := sA (sA u (m + 4) A) (m + 7) B
theorem ab_id (u : Mem) (m : Nat) : ab u m (mI u (m + 4)) (mI u (m + 7)) = u := by
  unfold ab
  rw [sA_mI, sA_mI]
theorem ab_7 (u : Mem) (m : Nat) {A B : RW} (hB : RF B) : mI (ab u m A B) (m + 7) = B := mI_sA_f _ _ hB
theorem ab_4 (u : Mem) (m : Nat) {A B : RW} (hA : RF A) : mI (ab u m A B) (m + 4) = A := by
  unfold ab
  rw [mI_sA_n _ _ (by omega), mI_sA_f _ _ hA]
theorem ab_q (u : Mem) (m : Nat) (A B : RW) {q : Nat} (h4 : q ≠ m + 4) (h7 : q ≠ m + 7) : mI (ab u m A B) q = mI u q := by
  unfold ab
  rw [mI_sA_n _ _ h7, mI_sA_n _ _ h4]
theorem ab_ab (u : Mem) (m : Nat) (A B A' B' : RW) : ab (ab u m A B) m A' B' = ab u m A' B' := by
  unfold ab
  rw [sA_comm (sA u (m + 4) A) B A' (by omega), sA_sA, sA_sA]
theorem ab_tried (u : Mem) (m : Nat) {A B f : RW} (hA : RF A) (hB : RF B) (t : Nat) : m_tried (ab u m A B) m f t = ab u m (cp A f 1651) (m_pass f B t).2 := by
  unfold m_tried
  rw [ab_4 u m hA, ab_7 u m hB]
  exact ab_ab u m A B _ _
theorem ab_0 (u : Mem) (m : Nat) (A B : RW) (e0 : sI u m 11 0 = u) : sI (ab u m A B) m 11 0 = ab u m A B := by
  unfold ab
  rw [sI_sA_comm _ _ _ _ (by omega), sI_sA_comm _ _ _ _ (by omega), e0]
/-- ticks can be gone through, and what they do doesn't hang on what lies in the batch -/
def TryOK (f : RW) : Prop := ∀ B, RF B → PassOK f B 300 ∧ (∀ k : Nat, k ≤ 300 → 0 ≤ (m_pass f B k).1 2 ∧ (m_pass f B k).1 2 ≤ 200) ∧ ∀ k : Nat, k ≤ 300 → (m_pass f B k).1 = (m_pass f (fun _ => 0) k).1
theorem PassOK.le {f b : RW} {n k : Nat} (h : PassOK f b n) (hk : k ≤ n) : PassOK f b k := fun j hj => h j (by omega)
theorem m_afterV_0 {f B : RW} (h : TryOK f) (hB : RF B) {n : Nat} (hn : n ≤ 300) (c w : Int) : m_afterV f B n c w = m_afterV f (fun _ => 0) n c w := by
  unfold m_afterV; rw [(h B hB).2.2 n hn]
theorem m_drainK_0 {f B : RW} (h : TryOK f) (hB : RF B) (n : Nat) : ∀ k, k + n ≤ 300 → m_drainK f B n k = m_drainK f (fun _ => 0) n k := by
  induction n with
  | zero => intro k _; rfl
  | succ n ih =>
    intro k hk
    simp only [m_drainK]
    rw [(h B hB).2.2 k (by omega), ih (k + 1) (by omega)]
theorem m_drainV_0 {f B : RW} (h : TryOK f) (hB : RF B) : m_drainV f B = m_drainV f (fun _ => 0) := by
  have e : m_drainT f B = m_drainT f (fun _ => 0) := m_drainK_0 h hB 300 0 (by omega)
  have l := (m_drainK_le f (fun _ => 0) 300 0).2
  unfold m_drainV
  rw [e, (h B hB).2.2 _ (show m_drainT f (fun _ => 0) ≤ 300 by unfold m_drainT; omega)]
theorem gN_succ (F : Nat → Int64 → Int64) (n : Nat) (h : Int64) : gN F (n + 1) h = F n (gN F n h) := rfl
def m_hRec (f : RW) (c : Nat) (g : Int64) : Int64 := gN (fun w h => hx h (m_afterV f (fun _ => 0) 10 c w)) 4 (gN (fun k h => hx h (m_of f c (13 + k))) (m_of f c 2).toNat (gN (fun w h => hx h (m_recvV f c w)) 14 g))
def KnOK (f : RW) : Prop := ∀ c : Int, 0 ≤ c → c < 3 → 0 ≤ m_of f c 2 ∧ m_of f c 2 ≤ 24
theorem vw_lv {C : Cx} {pc : Nat} {lv lv' : LV} {st : List SV} {u : Mem} {c z : Nat} (h : lv = lv') (k : VW C pc lv' st u c z) : VW C pc lv st u c z := h ▸ k
abbrev rmX8_ofReceivers : Room := { frames := 8, cells := 0, slots := 0, locals := 184 }
end
section
/-- what the digest needs of the row -/
def DigOK (f : RW) : Prop := (0 ≤ f 2 ∧ f 2 ≤ 200) ∧ (0 ≤ f 9 ∧ f 9 ≤ 100) ∧ KeptOK f ∧ PlOK f ∧ KnOK f ∧ TryOK f ∧ (∀ i : Int, 0 ≤ i → i < f 9 → 0 ≤ m_ranked f i ∧ m_ranked f i < f 9) ∧ (f 4 ≠ 0 → vf_n64 (FP.ddiv (FP.i2d (Int32.ofInt (f 4 - f 5))) (FP.i2d (Int32.ofInt (f 4))))) ∧ (f 6 ≠ 0 → vf_n32 (FP.fdiv (FP.i2f (Int32.ofInt (f 8))) (FP.i2f (Int32.ofInt (f 6))))) ∧ (Op.cmpValue (FP.dcmp (m_good f) (m_good f)) .l).toInt = 0 ∧ (Op.cmpValue (FP.fcmp (m_mean f) (m_mean f)) .l).toInt = 0
def m_dig1 (f : RW) (s : Int) : Int64 := gN (fun w h => hx h (f (10 + w))) 7 (gN (fun w h => hx h (m_countV f s w)) 12 3623)
def m_dig2 (f : RW) (h : Int64) : Int64 := gN (m_hRec f) 3 (gN (m_hPlace f) 4 (gN (m_hRow f) (m_kept f).toNat h))
def m_hMsg (f : RW) (i : Nat) (g : Int64) : Int64 := gN (fun w h => hx h (m_msgV f (m_ranked f i) w)) 5 g
theorem m_hMsg_eq (f : RW) (i : Nat) (g : Int64) : hx (hx (hx (hx (hx g (m_msgV f (m_ranked f i) 0)) (m_msgV f (m_ranked f i) (0 + 1))) (m_msgV f (m_ranked f i) (0 + 1 + 1))) (m_msgV f (m_ranked f i) (0 + 1 + 1 + 1))) (m_msgV f (m_ranked f i) (0 + 1 + 1 + 1 + 1)) = m_hMsg f i g := rfl
def m_dig4 (f : RW) (kept : Int) (g : Int64) : Int64 := hx (hx (31 * hx (hx g (m_drainV f (fun _ => 0))) (m_far f) + (m_good f).toInt64) ((m_mean f).toInt32.toInt)) (if kept = 0 then 0 else 1)
def m_dig5 (b : RW) (n : Int) (g : Int64) : Int64 := gN (fun k h => hx h (b k)) n.toNat (hx g n)
def m_digest (u : Mem) (m : Nat) (f : RW) : Int64 := m_dig5 (mI u (m + 5)) (mI u m 7) (m_dig4 f (mI u m 5) (gN (m_hMsg f) (f 9).toNat (m_dig2 f (m_dig1 f (mI u m 4)))))
abbrev rmX8_digest : Room := { frames := 9, cells := 0, slots := 0, locals := 210 }
end
section
/-! a new reference -/
/-- below lo nothing differs -/
def Bel (u w : Mem) (lo : Nat) : Prop := ∀ a, a < lo → mSh w a = mSh u a ∧ mI w a = mI u a ∧ mP w a = mP u a ∧ mJ w a = mJ u a
theorem Bel.refl (u : Mem) (lo : Nat) : Bel u u lo := fun _ _ => ⟨rfl, rfl, rfl, rfl⟩
theorem Bel.trans {u v w : Mem} {lo hi : Nat} (h : Bel u v lo) (h2 : Bel v w hi) (hl : lo ≤ hi) : Bel u w lo := fun a ha => by
  obtain ⟨a1, a2, a3, a4⟩ := h a ha
  obtain ⟨b1, b2, b3, b4⟩ := h2 a (by omega)
  exact ⟨b1.trans a1, b2.trans a2, b3.trans a3, b4.trans a4⟩
theorem Bel.sA {u w : Mem} {lo : Nat} (h : Bel u w lo) {q : Nat} (hq : lo ≤ q) (f : RW) : Bel u (sA w q f) lo := fun a ha => by
  obtain ⟨a1, a2, a3, a4⟩ := h a ha
  exact ⟨a1, by rw [mI_sA_n w f (show a ≠ q by omega)]; exact a2, a3, a4⟩
/-- i arrays of the new object have been made -/
def AL (u w : Mem) (m i : Nat) : Prop := mN w = m + 1 + i ∧ Bel u w m ∧ (∀ a, m ≤ a → a < m + 1 + i → mI w a = fun _ => 0) ∧ mSh w m = some (.inl 8)
theorem al_step {u w : Mem} {m i : Nat} (h : AL u w m i) (k : Int) (n : Nat) : ∃ w', sP (nC w (some (.inr (0, n)))) m k (some (mN w)) = w' ∧ AL u w' m (i + 1) ∧ mP w' m k = some (m + (i + 1)) ∧ mSh w' (m + (i + 1)) = some (.inr (0, n)) ∧ (∀ j, j ≠ k → mP w' m j = mP w m j) ∧ ∀ a, a < m + (i + 1) → mSh w' a = mSh w a := by
  obtain ⟨h1, h2, h3, h4⟩ := h
  refine ⟨_, rfl, ⟨?_, ?_, ?_, ?_⟩, ?_, ?_, ?_, ?_⟩
  · rw [mN_sP, mN_nC, h1]; omega
  · intro a ha
    obtain ⟨a1, a2, a3, a4⟩ := h2 a ha
    refine ⟨?_, ?_, ?_, ?_⟩
    · rw [mSh_sP, mSh_nC, if_neg (by omega)]; exact a1
    · rw [mI_sP]; funext j; rw [mI_nC, if_neg (by omega), a2]
    · funext j; rw [mP_sP_a _ _ _ _ (by omega), mP_nC, if_neg (by omega), a3]
    · rw [mJ_sP]; funext j; rw [mJ_nC, if_neg (by omega), a4]
  · intro a ha hb
    rw [mI_sP]
    funext j
    rw [mI_nC]
    by_cases q : a = mN w
    · rw [if_pos q]
    · rw [if_neg q, h3 a ha (by omega)]
  · rw [mSh_sP, mSh_nC, if_neg (by omega)]; exact h4
  · rw [mP_sP_s, h1]; congr 1; omega
  · rw [mSh_sP, mSh_nC, if_pos (by omega)]
  · intro j hj
    rw [mP_sP_k _ _ _ _ hj, mP_nC, if_neg (by omega)]
  · intro a ha
    rw [mSh_sP, mSh_nC, if_neg (by omega)]
/-- the first row -/
def m_row0 : RW := (up (up (up (up (up (up (up (up (up (up (up (up (up (up (fun _ => 0) 11 2) 12 3) 13 6) 15 1) 16 4) (697 + 38 * 0 + 0) 15) (697 + 38 * 0 + 1) (-1)) (697 + 38 * 0 + 8) (-1)) (697 + 38 * (0 + 1) + 0) 15) (697 + 38 * (0 + 1) + 1) (-1)) (697 + 38 * (0 + 1) + 8) (-1)) (697 + 38 * (0 + 1 + 1) + 0) 15) (697 + 38 * (0 + 1 + 1) + 1) (-1)) (697 + 38 * (0 + 1 + 1) + 8) (-1))
theorem rf_0 : RF (fun _ => 0) := fun _ => rg_0
theorem rf_row0 : RF m_row0 := by
  unfold m_row0
  repeat (first | exact rf_0 | apply rf_up)
abbrev rmX8_init : Room := { frames := 1, cells := 7, slots := 14930, locals := 23 }
end
