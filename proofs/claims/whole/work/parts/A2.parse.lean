/-! ===== the text: read by expectations, and read by orders ===== -/
def Rd (b : RW) (n a c : Nat) : Prop := a ≤ c ∧ c ≤ n ∧ ∀ j : Nat, a ≤ j → j < c → t_run b (j + 1) ≠ 0 ∧ b j ≠ 59
def Bd (b : RW) (n c : Nat) : Prop := (c < n → t_run b (c + 1) = 0) ∧ (c = n → t_run b n ≠ 8 ∧ t_run b n ≠ 9)
def Fn (b : RW) (n c : Nat) : Prop := t_run b c = 9 ∨ (t_run b c = 8 ∧ ¬ (c < n ∧ 48 ≤ b c ∧ b c ≤ 57))
theorem Rd.refl {b : RW} {n a : Nat} (h : a ≤ n) : Rd b n a a := ⟨Nat.le_refl _, h, fun j h1 h2 => by omega⟩
theorem Rd.step {b : RW} {n a c : Nat} (h : Rd b n a c) (hc : c < n) (h1 : t_run b (c + 1) ≠ 0) (h2 : b c ≠ 59) : Rd b n a (c + 1) := ⟨by have := h.1; omega, hc, fun j j1 j2 => by
  by_cases e : j = c
  · subst e; exact ⟨h1, h2⟩
  · exact h.2.2 j j1 (by omega)⟩
theorem Rd.trans {b : RW} {n a c d : Nat} (h : Rd b n a c) (k : Rd b n c d) : Rd b n a d := ⟨Nat.le_trans h.1 k.1, k.2.1, fun j j1 j2 => by
  by_cases e : j < c
  · exact h.2.2 j j1 e
  · exact k.2.2 j (by omega) j2⟩
theorem dg_ok {b : RW} {n a : Nat} {N : RW} {p lo hi e : Int} (h : ∀ s, t_after (t_run b a) s = if 48 + lo ≤ s ∧ s ≤ 48 + hi then e else 0) (he : e ≠ 0) (hne : t_run b a ≠ 8 ∧ t_run b a ≠ 9) (ha : a ≤ n) :
    (p_digit b n a N p lo hi = (true, ((a + 1 : Nat) : Int), up N p (b a - 48)) ∧ a < n ∧ t_run b (a + 1) = e ∧ (48 + lo ≤ b a ∧ b a ≤ 48 + hi)) ∨ (p_digit b n a N p lo hi = (false, (a : Int), N) ∧ Bd b n a) := by
  have hs : t_run b (a + 1) = if 48 + lo ≤ b a ∧ b a ≤ 48 + hi then e else 0 := h (b a)
  by_cases q : p_sees b n a (48 + lo) (48 + hi) = true
  · obtain ⟨q1, q2⟩ := p_sees_lt q
    refine Or.inl ⟨?_, by omega, by rw [hs, if_pos q2], q2⟩
    unfold p_digit
    rw [if_pos q]; rfl
  · refine Or.inr ⟨by unfold p_digit; rw [if_neg q], fun hc => ?_, fun hc => by subst hc; exact hne⟩
    rw [hs, if_neg]
    intro q2
    apply q
    unfold p_sees
    simp only [Bool.and_eq_true, decide_eq_true_eq]
    exact ⟨by omega, q2⟩
/-- a number at a that ends at c and says v -/
def NumAt (b : RW) (a c : Nat) (v : Int) : Prop := (48 ≤ b a ∧ b a ≤ 57) ∧ ((c = a + 1 ∧ v = b a - 48) ∨ (c = a + 2 ∧ (48 ≤ b ((a + 1 : Nat) : Int) ∧ b ((a + 1 : Nat) : Int) ≤ 57) ∧ v = 10 * (b a - 48) + (b ((a + 1 : Nat) : Int) - 48)))
theorem nm_ok {b : RW} {n a : Nat} {N : RW} {p lo : Int} (h : (t_run b a = 5 ∧ lo = 0) ∨ (t_run b a = 7 ∧ lo = 1)) (ha : a ≤ n) :
    (∃ (c : Nat) (M : RW), p_number b n a N p lo = (true, (c : Int), M) ∧ Rd b n a c ∧ a < c ∧ Fn b n c ∧ NumAt b a c (M p) ∧ ∀ q, q ≠ p → M q = N q) ∨ (p_number b n a N p lo = (false, (a : Int), N) ∧ Bd b n a) := by
  have hne : t_run b a ≠ 8 ∧ t_run b a ≠ 9 := by omega
  have hs : t_run b (a + 1) = t_after (t_run b a) (b a) := rfl
  have hs2 : t_run b (a + 2) = t_after (t_run b (a + 1)) (b ((a + 1 : Nat) : Int)) := rfl
  by_cases q : p_sees b n a (48 + lo) (48 + 9) = true
  · obtain ⟨q1, q2, q3⟩ := p_sees_lt q
    have e1 : p_digit b n a N p lo 9 = (true, ((a + 1 : Nat) : Int), up N p (b a - 48)) := by unfold p_digit; rw [if_pos q]; rfl
    have v1 : (up N p (b a - 48)) p = b a - 48 := by rw [up_s, wr_id ⟨by omega, by omega⟩]
    have hz : (b a = 48 ∧ t_run b (a + 1) = 9) ∨ (b a ≠ 48 ∧ t_run b (a + 1) = 8) := by
      rw [hs]
      rcases h with ⟨h, hl⟩ | ⟨h, hl⟩
      · rw [h]
        by_cases z : b a = 48
        · left; refine ⟨z, ?_⟩; rw [z]; decide
        · right; refine ⟨z, ?_⟩
          unfold t_after
          rw [if_neg (by decide), if_neg (by decide), if_neg (by decide), if_neg (by decide), if_pos rfl, if_neg z]
          unfold t_fd; rw [if_pos (by omega)]
      · right
        refine ⟨by omega, ?_⟩
        rw [h]
        unfold t_after
        rw [if_neg (by decide), if_neg (by decide), if_neg (by decide), if_neg (by decide), if_neg (by decide), if_neg (by decide), if_pos rfl]
        unfold t_fd; rw [if_pos (by omega)]
    have hR : Rd b n a (a + 1) := (Rd.refl ha).step (by omega) (by omega) (by omega)
    by_cases q4 : 0 < (up N p (b a - 48)) p ∧ p_sees b n ((a + 1 : Nat) : Int) 48 57 = true
    · obtain ⟨s1, s2, s3⟩ := p_sees_lt q4.2
      have q4' : 0 < b a - 48 := by have := q4.1; rw [v1] at this; exact this
      have h8 : t_run b (a + 1) = 8 := by omega
      have h9 : t_run b (a + 2) = 9 := by
        rw [hs2, h8]
        unfold t_after
        rw [if_neg (by decide), if_neg (by decide), if_neg (by decide), if_neg (by decide), if_neg (by decide), if_neg (by decide), if_neg (by decide), if_pos rfl, if_pos ⟨s2, s3⟩]
      refine Or.inl ⟨a + 2, up (up N p (b a - 48)) p (10 * (b a - 48) + b ((a + 1 : Nat) : Int) - 48), ?_, hR.step (by omega) (by show t_run b (a + 2) ≠ 0; omega) (by omega), by omega, Or.inl h9, ⟨⟨by omega, by omega⟩, Or.inr ⟨rfl, ⟨s2, s3⟩, ?_⟩⟩, fun x hx => by rw [up_n _ _ hx, up_n _ _ hx]⟩
      · unfold p_number
        rw [e1, if_pos rfl]
        dsimp only
        rw [if_pos q4, v1]
        rfl
      · rw [up_s, wr_id ⟨by omega, by omega⟩]; omega
    · refine Or.inl ⟨a + 1, up N p (b a - 48), ?_, hR, by omega, ?_, ⟨⟨by omega, by omega⟩, Or.inl ⟨rfl, v1⟩⟩, fun x hx => up_n _ _ hx⟩
      · unfold p_number
        rw [e1, if_pos rfl]
        dsimp only
        rw [if_neg q4]
      · rcases hz with ⟨z1, z2⟩ | ⟨z1, z2⟩
        · exact Or.inl z2
        · refine Or.inr ⟨z2, fun z => q4 ⟨by rw [v1]; omega, ?_⟩⟩
          unfold p_sees
          simp only [Bool.and_eq_true, decide_eq_true_eq]
          exact ⟨by omega, z.2⟩
  · have e1 : p_digit b n a N p lo 9 = (false, (a : Int), N) := by unfold p_digit; rw [if_neg q]
    refine Or.inr ⟨by unfold p_number; rw [e1, if_neg Bool.false_ne_true], fun hc => ?_, fun hc => by subst hc; exact hne⟩
    have q2 : ¬ (48 + lo ≤ b a ∧ b a ≤ 57) := by
      intro q2
      apply q
      unfold p_sees
      simp only [Bool.and_eq_true, decide_eq_true_eq]
      exact ⟨by omega, q2.1, by omega⟩
    rw [hs]
    rcases h with ⟨h, hl⟩ | ⟨h, hl⟩
    · rw [h]
      unfold t_after
      rw [if_neg (by decide), if_neg (by decide), if_neg (by decide), if_neg (by decide), if_pos rfl, if_neg (by omega)]
      unfold t_fd; rw [if_neg (by omega)]
    · rw [h]
      unfold t_after
      rw [if_neg (by decide), if_neg (by decide), if_neg (by decide), if_neg (by decide), if_neg (by decide), if_neg (by decide), if_pos rfl]
      unfold t_fd; rw [if_neg (by omega)]
theorem ta_2 (s : Int) : t_after 2 s = if 48 + 0 ≤ s ∧ s ≤ 48 + 3 then 3 else 0 := by
  unfold t_after; rw [if_neg (by decide), if_pos rfl]; rfl
theorem ta_3 (s : Int) : t_after 3 s = if 48 + 0 ≤ s ∧ s ≤ 48 + 3 then 4 else 0 := by
  unfold t_after; rw [if_neg (by decide), if_neg (by decide), if_pos rfl]; rfl
theorem ta_6 (s : Int) : t_after 6 s = if 48 + 0 ≤ s ∧ s ≤ 48 + 3 then 9 else 0 := by
  unfold t_after; rw [if_neg (by decide), if_neg (by decide), if_neg (by decide), if_neg (by decide), if_neg (by decide), if_pos rfl]; rfl
/-- what the numbers of an order say -/
def OrdV (b : RW) (a c : Nat) (M : RW) : Prop := (b a = 98 ∨ b a = 115) ∨ ((b a = 99 ∨ b a = 100) ∧ M 0 = b ((a + 1 : Nat) : Int) - 48 ∧ c = a + 2 ∧ (48 ≤ b ((a + 1 : Nat) : Int) ∧ b ((a + 1 : Nat) : Int) ≤ 51)) ∨ (b a = 116 ∧ NumAt b (a + 1) c (M 0)) ∨
  (b a = 119 ∧ M 0 = b ((a + 1 : Nat) : Int) - 48 ∧ M 1 = b ((a + 2 : Nat) : Int) - 48 ∧ (48 ≤ b ((a + 1 : Nat) : Int) ∧ b ((a + 1 : Nat) : Int) ≤ 51) ∧ (48 ≤ b ((a + 2 : Nat) : Int) ∧ b ((a + 2 : Nat) : Int) ≤ 51) ∧ a + 4 < c ∧ NumAt b (a + 4) c (M 2))
theorem ord_ok {b : RW} {n a : Nat} {N : RW} (h : t_run b a = 1) (ha : a ≤ n) :
    (∃ (c : Nat) (M : RW), p_order b n a N = (b a, (c : Int), M) ∧ b a ≠ 0 ∧ Rd b n a c ∧ a < c ∧ Fn b n c ∧ OrdV b a c M) ∨ (∃ (c : Nat) (M : RW), p_order b n a N = (0, (c : Int), M) ∧ Rd b n a c ∧ Bd b n c) := by
  have hs : t_run b (a + 1) = t_part (b a) := by show t_after (t_run b a) (b a) = _; rw [h]; rfl
  by_cases ql : a < n
  · have hk : p_kind b n a = b a := by unfold p_kind; rw [if_pos (by omega)]
    by_cases qk : p_isKind (b a) = true
    · have hR : t_run b (a + 1) ≠ 0 → b a ≠ 59 → Rd b n a (a + 1) := fun h1 h2 => (Rd.refl ha).step ql h1 h2
      have hp : p_order b n a N = (if (p_reads b n ((a + 1 : Nat) : Int) N (b a)).1 = true then b a else 0, (p_reads b n ((a + 1 : Nat) : Int) N (b a)).2) := by
        unfold p_order
        rw [hk, if_pos qk]; rfl
      have hk6 : b a = 98 ∨ b a = 119 ∨ b a = 99 ∨ b a = 100 ∨ b a = 116 ∨ b a = 115 := by unfold p_isKind at qk; simpa using qk
      have one : (b a = 98 ∨ b a = 115) → ∃ (c : Nat) (M : RW), p_order b n a N = (b a, (c : Int), M) ∧ b a ≠ 0 ∧ Rd b n a c ∧ a < c ∧ Fn b n c ∧ OrdV b a c M := fun hb => by
        have e : p_reads b n ((a + 1 : Nat) : Int) N (b a) = (true, ((a + 1 : Nat) : Int), N) := by unfold p_reads; rw [if_neg (by omega), if_neg (by omega), if_neg (by omega)]
        have h9 : t_run b (a + 1) = 9 := by rw [hs]; unfold t_part; rcases hb with hb | hb <;> rw [hb] <;> decide
        exact ⟨a + 1, N, by rw [hp, e]; rfl, by omega, hR (by omega) (by omega), by omega, Or.inl h9, Or.inl hb⟩
      rcases hk6 with hb | hb | hb | hb | hb | hb
      · exact Or.inl (one (Or.inl hb))
      · -- w
        have h2 : t_run b (a + 1) = 2 := by rw [hs, hb]; decide
        have hR1 := hR (by omega) (by omega)
        rcases dg_ok (b := b) (n := n) (a := a + 1) (N := N) (p := 0) (lo := 0) (hi := 3) (e := 3) (by rw [h2]; exact ta_2) (by decide) (by omega) ql with ⟨e1, l1, r1, d1⟩ | ⟨e1, b1⟩
        · have hR2 : Rd b n a (a + 2) := hR1.step l1 (by omega) (by omega)
          rcases dg_ok (b := b) (n := n) (a := a + 2) (N := up N 0 (b ((a + 1 : Nat) : Int) - 48)) (p := 1) (lo := 0) (hi := 3) (e := 4) (by rw [r1]; exact ta_3) (by decide) (by have : t_run b (a + 2) = 3 := r1; omega) l1 with ⟨e2, l2, r2, d2⟩ | ⟨e2, b2⟩
          · have hR3 : Rd b n a (a + 3) := hR2.step l2 (by omega) (by omega)
            have hs4 : t_run b (a + 4) = if b ((a + 3 : Nat) : Int) = 61 then 5 else 0 := by
              show t_after (t_run b (a + 3)) (b ((a + 3 : Nat) : Int)) = _
              rw [r2]; rfl
            by_cases q3 : p_sees b n ((a + 3 : Nat) : Int) 61 61 = true
            · obtain ⟨l3, d3⟩ := p_sees_lt q3
              have h5 : t_run b (a + 4) = 5 := by rw [hs4, if_pos (by omega)]
              have hR4 : Rd b n a (a + 4) := hR3.step (by omega) (by show t_run b (a + 4) ≠ 0; omega) (by omega)
              have et : p_tk b n ((a + 3 : Nat) : Int) 61 = ((a + 4 : Nat) : Int) := by unfold p_tk bI; rw [if_pos q3]; rfl
              have er : p_reads b n ((a + 1 : Nat) : Int) N (b a) = p_number b n ((a + 4 : Nat) : Int) (up (up N 0 (b ((a + 1 : Nat) : Int) - 48)) 1 (b ((a + 2 : Nat) : Int) - 48)) 2 0 := by
                unfold p_reads
                rw [if_pos hb]
                simp only [e1, e2, if_pos, q3, et]
              rcases nm_ok (b := b) (n := n) (a := a + 4) (N := up (up N 0 (b ((a + 1 : Nat) : Int) - 48)) 1 (b ((a + 2 : Nat) : Int) - 48)) (p := 2) (lo := 0) (Or.inl ⟨h5, rfl⟩) hR4.2.1 with ⟨c, M, e4, r4, l4, f4, v4, o4⟩ | ⟨e4, b4⟩
              · refine Or.inl ⟨c, M, by rw [hp, er, e4]; rfl, by omega, hR4.trans r4, by omega, f4, Or.inr (Or.inr (Or.inr ⟨hb, ?_, ?_, ⟨by omega, by omega⟩, ⟨by omega, by omega⟩, l4, v4⟩))⟩
                · rw [o4 0 (by decide), up_n _ _ (by decide), up_s, wr_id ⟨by omega, by omega⟩]
                · rw [o4 1 (by decide), up_s, wr_id ⟨by omega, by omega⟩]
              · exact Or.inr ⟨a + 4, _, by rw [hp, er, e4]; rfl, hR4, b4⟩
            · have et : p_tk b n ((a + 3 : Nat) : Int) 61 = ((a + 3 : Nat) : Int) := by unfold p_tk bI; rw [if_neg q3]; omega
              have er : p_reads b n ((a + 1 : Nat) : Int) N (b a) = (false, ((a + 3 : Nat) : Int), up (up N 0 (b ((a + 1 : Nat) : Int) - 48)) 1 (b ((a + 2 : Nat) : Int) - 48)) := by
                unfold p_reads
                rw [if_pos hb]
                simp only [e1, e2, if_pos, q3, et]
                simp
              refine Or.inr ⟨a + 3, _, by rw [hp, er]; rfl, hR3, fun hc => ?_, fun hc => by rw [← hc, r2]; decide⟩
              rw [hs4, if_neg]
              intro z
              apply q3
              unfold p_sees
              simp only [Bool.and_eq_true, decide_eq_true_eq]
              exact ⟨by omega, by omega, by omega⟩
          · have er : p_reads b n ((a + 1 : Nat) : Int) N (b a) = (false, ((a + 2 : Nat) : Int), up N 0 (b ((a + 1 : Nat) : Int) - 48)) := by
              unfold p_reads
              rw [if_pos hb]
              simp only [e1, e2, if_pos]
              simp
            exact Or.inr ⟨a + 2, _, by rw [hp, er]; rfl, hR2, b2⟩
        · have er : p_reads b n ((a + 1 : Nat) : Int) N (b a) = (false, ((a + 1 : Nat) : Int), N) := by
            unfold p_reads
            rw [if_pos hb]
            simp only [e1]
            simp
          exact Or.inr ⟨a + 1, _, by rw [hp, er]; rfl, hR1, b1⟩
      all_goals skip
      · -- c
        have h2 : t_run b (a + 1) = 6 := by rw [hs, hb]; decide
        have hR1 := hR (by omega) (by omega)
        have er : p_reads b n ((a + 1 : Nat) : Int) N (b a) = p_digit b n ((a + 1 : Nat) : Int) N 0 0 3 := by unfold p_reads; rw [if_neg (by omega), if_pos (by omega)]
        rcases dg_ok (b := b) (n := n) (a := a + 1) (N := N) (p := 0) (lo := 0) (hi := 3) (e := 9) (by rw [h2]; exact ta_6) (by decide) (by omega) ql with ⟨e1, l1, r1, d1⟩ | ⟨e1, b1⟩
        · exact Or.inl ⟨a + 2, _, by rw [hp, er, e1]; rfl, by omega, hR1.step l1 (by omega) (by omega), by omega, Or.inl r1, Or.inr (Or.inl ⟨Or.inl hb, by rw [up_s, wr_id ⟨by omega, by omega⟩], rfl, ⟨by omega, by omega⟩⟩)⟩
        · exact Or.inr ⟨a + 1, _, by rw [hp, er, e1]; rfl, hR1, b1⟩
      · -- d
        have h2 : t_run b (a + 1) = 6 := by rw [hs, hb]; decide
        have hR1 := hR (by omega) (by omega)
        have er : p_reads b n ((a + 1 : Nat) : Int) N (b a) = p_digit b n ((a + 1 : Nat) : Int) N 0 0 3 := by unfold p_reads; rw [if_neg (by omega), if_pos (by omega)]
        rcases dg_ok (b := b) (n := n) (a := a + 1) (N := N) (p := 0) (lo := 0) (hi := 3) (e := 9) (by rw [h2]; exact ta_6) (by decide) (by omega) ql with ⟨e1, l1, r1, d1⟩ | ⟨e1, b1⟩
        · exact Or.inl ⟨a + 2, _, by rw [hp, er, e1]; rfl, by omega, hR1.step l1 (by omega) (by omega), by omega, Or.inl r1, Or.inr (Or.inl ⟨Or.inr hb, by rw [up_s, wr_id ⟨by omega, by omega⟩], rfl, ⟨by omega, by omega⟩⟩)⟩
        · exact Or.inr ⟨a + 1, _, by rw [hp, er, e1]; rfl, hR1, b1⟩
      · -- t
        have h2 : t_run b (a + 1) = 7 := by rw [hs, hb]; decide
        have hR1 := hR (by omega) (by omega)
        have er : p_reads b n ((a + 1 : Nat) : Int) N (b a) = p_number b n ((a + 1 : Nat) : Int) N 0 1 := by unfold p_reads; rw [if_neg (by omega), if_neg (by omega), if_pos hb]
        rcases nm_ok (b := b) (n := n) (a := a + 1) (N := N) (p := 0) (lo := 1) (Or.inr ⟨h2, rfl⟩) ql with ⟨c, M, e4, r4, l4, f4, v4, o4⟩ | ⟨e4, b4⟩
        · exact Or.inl ⟨c, M, by rw [hp, er, e4]; rfl, by omega, hR1.trans r4, by omega, f4, Or.inr (Or.inr (Or.inl ⟨hb, v4⟩))⟩
        · exact Or.inr ⟨a + 1, _, by rw [hp, er, e4]; rfl, hR1, b4⟩
      · exact Or.inl (one (Or.inr hb))
    · have hk6 : ¬ (b a = 98 ∨ b a = 119 ∨ b a = 99 ∨ b a = 100 ∨ b a = 116 ∨ b a = 115) := by unfold p_isKind at qk; simpa using qk
      refine Or.inr ⟨a, N, ?_, Rd.refl ha, fun _ => ?_, fun hc => by omega⟩
      · unfold p_order; rw [hk, if_neg qk]
      · rw [hs]; unfold t_part
        rw [if_neg (by omega), if_neg (by omega), if_neg (by omega), if_neg (by omega), if_neg (by omega), if_neg (by omega)]
  · have hk : p_kind b n a = 0 := by unfold p_kind; rw [if_neg (by omega)]
    refine Or.inr ⟨a, N, ?_, Rd.refl ha, fun hc => absurd hc ql, fun hc => by rw [← hc, h]; decide⟩
    unfold p_order; rw [hk, if_neg (by decide)]
/-- so far nothing was wrong -/
def Al (b : RW) (a : Nat) : Prop := ∀ j : Nat, j < a → t_run b (j + 1) ≠ 0
theorem Al.rd {b : RW} {n a c : Nat} (h : Al b a) (k : Rd b n a c) : Al b c := fun j hj => by
  by_cases e : j < a
  · exact h j e
  · exact (k.2.2 j (by omega) hj).1
theorem t_zero {b : RW} {a : Nat} (h : t_run b a = 0) : ∀ k : Nat, t_run b (a + k) = 0 := by
  intro k
  induction k with
  | zero => exact h
  | succ k ih =>
    show t_after (t_run b (a + k)) (b ((a + k : Nat) : Int)) = 0
    rw [ih]; rfl
theorem fn_next {b : RW} {n a : Nat} (h : Fn b n a) (ha : a < n) : t_run b (a + 1) = if b a = 59 then 1 else 0 := by
  show t_after (t_run b a) (b a) = _
  rcases h with h | ⟨h, h8⟩
  · rw [h]; rfl
  · rw [h]
    unfold t_after
    rw [if_neg (by decide), if_neg (by decide), if_neg (by decide), if_neg (by decide), if_neg (by decide), if_neg (by decide), if_neg (by decide), if_pos rfl, if_neg (fun z => h8 ⟨ha, z⟩)]
    rfl
def WellQ (b : RW) (n : Nat) (s : Bool × Int × RW) : Prop := ∃ a : Nat, s.2.1 = a ∧ a ≤ n ∧ Al b a ∧ ((s.1 = true ∧ a = n ∧ Fn b n a) ∨ (s.1 = false ∧ Bd b n a))
theorem wellL_ok {b : RW} {n : Nat} : ∀ (k : Nat) (s : Bool × Int × RW) (a : Nat), s.2.1 = a → a ≤ n → Al b a → ((s.1 = true ∧ Fn b n a ∧ n - a ≤ k) ∨ (s.1 = false ∧ Bd b n a)) → WellQ b n (p_wellL b n k s) := by
  intro k
  induction k with
  | zero =>
    intro s a h1 h2 h3 h4
    refine ⟨a, h1, h2, h3, ?_⟩
    rcases h4 with ⟨h4, h5, h6⟩ | h4
    · exact Or.inl ⟨h4, by omega, h5⟩
    · exact Or.inr h4
  | succ k ih =>
    intro s a h1 h2 h3 h4
    rcases h4 with ⟨h4, h5, h6⟩ | ⟨h4, h5⟩
    · by_cases ha : a < n
      · have hn := fn_next h5 ha
        simp only [p_wellL]
        rw [if_pos ⟨h4, by rw [h1]; omega⟩, h1]
        by_cases q : p_sees b n a 59 59 = true
        · obtain ⟨q1, q2⟩ := p_sees_lt q
          rw [if_pos (by omega)] at hn
          have et : p_tk b n (a : Int) 59 = ((a + 1 : Nat) : Int) := by unfold p_tk bI; rw [if_pos q]; rfl
          have hA1 : Al b (a + 1) := fun j hj => by
            by_cases e : j = a
            · subst e; omega
            · exact h3 j (by omega)
          rw [if_pos q, et]
          rcases ord_ok (b := b) (n := n) (a := a + 1) (N := s.2.2) hn ha with ⟨c, M, e1, e2, r, l, f, -⟩ | ⟨c, M, e1, r, bd⟩
          · rw [e1]
            exact ih _ c rfl r.2.1 (hA1.rd r) (Or.inl ⟨decide_eq_true e2, f, by omega⟩)
          · rw [e1]
            exact ih _ c rfl r.2.1 (hA1.rd r) (Or.inr ⟨by simp, bd⟩)
        · rw [if_neg q]
          have q2 : b a ≠ 59 := fun z => q (by
            unfold p_sees
            simp only [Bool.and_eq_true, decide_eq_true_eq]
            exact ⟨by omega, by omega, by omega⟩)
          rw [if_neg q2] at hn
          have et : p_tk b n (a : Int) 59 = (a : Int) := by unfold p_tk bI; rw [if_neg q]; omega
          rw [et]
          exact ih _ a rfl h2 h3 (Or.inr ⟨rfl, fun _ => hn, fun z => by omega⟩)
      · have e : p_wellL b n (k + 1) s = s := by
          simp only [p_wellL]
          rw [if_neg (fun z => by have := z.2; omega)]
        rw [e]
        exact ⟨a, h1, h2, h3, Or.inl ⟨h4, by omega, h5⟩⟩
    · have e : p_wellL b n (k + 1) s = s := by
        simp only [p_wellL]
        rw [if_neg (fun z => by rw [h4] at z; exact absurd z.1 (by decide))]
      rw [e]
      exact ⟨a, h1, h2, h3, Or.inr ⟨h4, h5⟩⟩
theorem well_ok {b : RW} {n : Nat} (hn : n ≤ 60) (N : RW) : WellQ b n (p_well b n N) := by
  unfold p_well
  have h0 : Al b 0 := fun j hj => by omega
  rcases ord_ok (b := b) (n := n) (a := 0) (N := N) rfl (Nat.zero_le n) with ⟨c, M, e1, e2, r, l, f, -⟩ | ⟨c, M, e1, r, bd⟩
  · have e1' : p_order b n 0 N = (b ((0 : Nat) : Int), (c : Int), M) := e1
    rw [e1']
    exact wellL_ok 60 _ c rfl r.2.1 (h0.rd r) (Or.inl ⟨decide_eq_true e2, f, by omega⟩)
  · have e1' : p_order b n 0 N = (0, (c : Int), M) := e1
    rw [e1']
    exact wellL_ok 60 _ c rfl r.2.1 (h0.rd r) (Or.inr ⟨by simp, bd⟩)
/-- the first error, told by expectations, is the reference's -/
theorem err_same {b : RW} {n : Nat} (hn : n ≤ 60) (N : RW) {k : Nat} (h1 : k ≤ n) (h2 : ∀ j : Nat, j < k → t_run b (j + 1) ≠ 0) (h3 : k < n → t_run b (k + 1) = 0) : (k : Int) = if (p_well b n N).1 = true then (n : Int) else (p_well b n N).2.1 := by
  obtain ⟨a, a1, a2, a3, a4⟩ := well_ok (b := b) hn N
  rcases a4 with ⟨w, e, -⟩ | ⟨w, bd⟩
  · rw [if_pos w]
    by_cases z : k < n
    · exact absurd (h3 z) (a3 k (by omega))
    · omega
  · rw [if_neg (by rw [w]; decide), a1]
    rcases Nat.lt_trichotomy k a with z | z | z
    · exact absurd (h3 (by omega)) (a3 k z)
    · omega
    · exact absurd (bd.1 (by omega)) (h2 a z)
/-- .. and so is whether all is complete -/
theorem well_same {b : RW} {n : Nat} (hn : n ≤ 60) (N : RW) : (p_well b n N).1 = true ↔ (t_run b n = 9 ∨ t_run b n = 8) := by
  obtain ⟨a, a1, a2, a3, a4⟩ := well_ok (b := b) hn N
  rcases a4 with ⟨w, e, f⟩ | ⟨w, bd⟩
  · subst e
    exact ⟨fun _ => f.elim Or.inl (fun z => Or.inr z.1), fun _ => w⟩
  · rw [w]
    constructor
    · intro z; cases z
    · intro z
      exfalso
      by_cases e : a = n
      · have := bd.2 e; omega
      · have h0 := t_zero (bd.1 (by omega)) (n - (a + 1))
        rw [show a + 1 + (n - (a + 1)) = n by omega] at h0
        omega
/-- in a whole text, an order stands where one is expected -/
theorem ord_at {b : RW} {n a : Nat} {N : RW} (hA : Al b n) (he : t_run b n = 9 ∨ t_run b n = 8) (h : t_run b a = 1) (ha : a < n) : ∃ (c : Nat) (M : RW), p_order b n a N = (b a, (c : Int), M) ∧ Rd b n a c ∧ a < c ∧ Fn b n c ∧ OrdV b a c M ∧ (c = n ∨ (c + 1 < n ∧ b c = 59 ∧ t_run b (c + 1) = 1)) := by
  rcases ord_ok (b := b) (n := n) (a := a) (N := N) h (Nat.le_of_lt ha) with ⟨c, M, e1, e2, r, l, f, v⟩ | ⟨c, M, e1, r, bd⟩
  · refine ⟨c, M, e1, r, l, f, v, ?_⟩
    by_cases z : c = n
    · exact Or.inl z
    · have hc : c < n := by have := r.2.1; omega
      have hn := fn_next f hc
      have h0 := hA c hc
      by_cases q : b c = 59
      · rw [if_pos q] at hn
        refine Or.inr ⟨?_, q, hn⟩
        by_cases z2 : c + 1 = n
        · rw [z2] at hn; omega
        · omega
      · rw [if_neg q] at hn; exact absurd hn h0
  · exfalso
    by_cases z : c = n
    · have := bd.2 z; omega
    · have hc : c < n := by have := r.2.1; omega
      exact absurd (bd.1 hc) (hA c hc)
