/-! a row comes -/
theorem works4_at {f : RW} {c k : Nat} (hc : c < 3) (hk : k < 200) (j : Int) : m_works4 f c k j = if j = 697 + 38 * (c : Int) + 7 then wr (m_of f c 7 + (if m_of f c 1 ≤ m_num f k then 0 else 1)) else if j = 697 + 38 * (c : Int) + 6 then wr (m_of f c 6 + (if m_mark f k (1 + c) = true then 1 else 0)) else if j = 697 + 38 * (c : Int) + 4 then wr (m_of f c 4 + m_value f k) else if j = 697 + 38 * (c : Int) + 3 then wr (m_of f c 3 + 1) else f j := by
  unfold m_works4
  have a1 : ∀ X, m_of (up f (697 + 38 * (c : Int) + 3) X) c 4 = m_of f c 4 := fun X => by unfold m_of; exact up_n _ _ (by omega)
  have a2 : ∀ X, m_value (up f (697 + 38 * (c : Int) + 3) X) k = m_value f k := fun X => by unfold m_value; rw [up_n _ _ (by omega)]
  have a3 : ∀ X Y, m_of (up (up f (697 + 38 * (c : Int) + 3) X) (697 + 38 * (c : Int) + 4) Y) c 6 = m_of f c 6 := fun X Y => by unfold m_of; rw [up_n _ _ (by omega), up_n _ _ (by omega)]
  have a4 : ∀ X Y b, m_mark (up (up f (697 + 38 * (c : Int) + 3) X) (697 + 38 * (c : Int) + 4) Y) k b = m_mark f k b := fun X Y b => by unfold m_mark; rw [up_n _ _ (by omega), up_n _ _ (by omega)]
  have a5 : ∀ X Y Z, m_of (up (up (up f (697 + 38 * (c : Int) + 3) X) (697 + 38 * (c : Int) + 4) Y) (697 + 38 * (c : Int) + 6) Z) c 7 = m_of f c 7 := fun X Y Z => by unfold m_of; rw [up_n _ _ (by omega), up_n _ _ (by omega), up_n _ _ (by omega)]
  have a6 : ∀ X Y Z, m_of (up (up (up f (697 + 38 * (c : Int) + 3) X) (697 + 38 * (c : Int) + 4) Y) (697 + 38 * (c : Int) + 6) Z) c 1 = m_of f c 1 := fun X Y Z => by unfold m_of; rw [up_n _ _ (by omega), up_n _ _ (by omega), up_n _ _ (by omega)]
  simp only [a1, a2, a3, a4, a5, a6]
  rfl
theorem works7_at {f : RW} (rf : RF f) (hRo : IRo f) {c k n : Nat} (hc : c < 3) (hk : k < 200) (hk2 : (k : Int) < f 2) (hn : m_of f c 2 = n) (hn2 : n ≤ 20) (j : Int) : m_works7 f c k j = if j = 697 + 38 * (c : Int) + 2 then (n : Int) + 1 else if j = 697 + 38 * (c : Int) + (13 + n) then m_num f k else if j = 697 + 38 * (c : Int) + 1 then (if m_num f k ≤ m_of f c 1 then m_of f c 1 else m_num f k) else m_works4 f c k j := by
  unfold m_works7
  simp only [hn]
  have hnr := num_rg rf hRo hk2
  have e1 : m_of (m_works4 f c k) c 1 = m_of f c 1 := by unfold m_of; rw [works4_at hc hk, if_neg (by omega), if_neg (by omega), if_neg (by omega), if_neg (by omega)]
  rw [e1]
  unfold up
  by_cases h1 : j = 697 + 38 * (c : Int) + 2
  · rw [if_pos h1, if_pos h1, wr_id ⟨by omega, by omega⟩]
  · rw [if_neg h1, if_neg h1]
    by_cases h2 : j = 697 + 38 * (c : Int) + (13 + n)
    · rw [if_pos h2, if_pos h2, wr_id hnr]
    · rw [if_neg h2, if_neg h2]
      by_cases h3 : j = 697 + 38 * (c : Int) + 1
      · rw [if_pos h3, if_pos h3]
        split
        · exact wr_id (rg_of rf _ _)
        · exact wr_id hnr
      · rw [if_neg h3, if_neg h3]
/-- what the effect of a row leaves -/
theorem works_at {f : RW} (rf : RF f) (hRo : IRo f) (h16 : f 16 ≤ 20) {c k n : Nat} (hc : c < 3) (hk : k < 200) (hk2 : (k : Int) < f 2) (hn : m_of f c 2 = n) (hn2 : n ≤ 20) : (∀ j, j ≠ 97 + 3 * (k : Int) + 2 → (j < 697 + 38 * (c : Int) ∨ 697 + 38 * (c : Int) + 38 ≤ j) → m_works f c k j = f j) ∧ m_works f c k (97 + 3 * k + 2) = b_or (f (97 + 3 * k + 2)) (b_shl 1 (1 + c)) ∧ (∀ x : Int, (x = 0 ∨ x = 5 ∨ (8 ≤ x ∧ x ≤ 12)) → m_of (m_works f c k) c x = m_of f c x) ∧ m_of (m_works f c k) c 1 = (if m_num f k ≤ m_of f c 1 then m_of f c 1 else m_num f k) ∧ m_of (m_works f c k) c 2 = (if (n : Int) + 1 ≤ f 16 then (n : Int) + 1 else n) ∧ m_of (m_works f c k) c 3 = wr (m_of f c 3 + 1) ∧ m_of (m_works f c k) c 4 = wr (m_of f c 4 + m_value f k) ∧ m_of (m_works f c k) c 6 = wr (m_of f c 6 + (if m_mark f k (1 + c) = true then 1 else 0)) ∧ m_of (m_works f c k) c 7 = wr (m_of f c 7 + (if m_of f c 1 ≤ m_num f k then 0 else 1)) ∧ ∀ j : Nat, (j : Int) < (if (n : Int) + 1 ≤ f 16 then (n : Int) + 1 else n) → m_of (m_works f c k) c (13 + j) = (if (n : Int) + 1 ≤ f 16 then (if j = n then m_num f k else m_of f c (13 + j)) else if j + 1 = n then m_num f k else m_of f c (13 + (j + 1 : Nat))) := by
  have h7 := fun j => works7_at rf hRo hc hk hk2 hn hn2 j
  have h4 := fun j => works4_at (f := f) hc hk j
  have e16 : m_works7 f c k 16 = f 16 := by rw [h7, if_neg (by omega), if_neg (by omega), if_neg (by omega), h4, if_neg (by omega), if_neg (by omega), if_neg (by omega), if_neg (by omega)]
  obtain ⟨G, hG⟩ : ∃ G, G = (if (n : Int) + 1 ≤ f 16 then m_works7 f c k else up (up (m_shift (m_works7 f c k) (697 + 38 * (c : Int) + 13) n) (697 + 38 * (c : Int) + (13 + n)) 0) (697 + 38 * (c : Int) + 2) n) := ⟨_, rfl⟩
  have hw : m_works f c k = m_setm G k (1 + c) := by unfold m_works; rw [hn, e16, ← hG]
  have hGlo : ∀ j, (j < 697 + 38 * (c : Int) ∨ 697 + 38 * (c : Int) + 38 ≤ j) → G j = f j := fun j hj => by
    have hb : m_works7 f c k j = f j := by rw [h7, if_neg (by omega), if_neg (by omega), if_neg (by omega), h4, if_neg (by omega), if_neg (by omega), if_neg (by omega), if_neg (by omega)]
    rw [hG]; split
    · exact hb
    · rw [up_n _ _ (by omega), up_n _ _ (by omega)]; unfold m_shift; rw [if_neg (by omega)]; exact hb
  have hwj : ∀ j, j ≠ 97 + 3 * (k : Int) + 2 → m_works f c k j = G j := fun j hj => by rw [hw]; unfold m_setm; exact up_n _ _ hj
  have hGm : ∀ x : Int, 0 ≤ x → x ≤ 12 → x ≠ 2 → G (697 + 38 * (c : Int) + x) = m_works7 f c k (697 + 38 * (c : Int) + x) := fun x h0 h1 h2 => by
    rw [hG]; split
    · rfl
    · rw [up_n _ _ (by omega), up_n _ _ (by omega)]; unfold m_shift; rw [if_neg (by omega)]
  have hof : ∀ x : Int, 0 ≤ x → x ≤ 12 → x ≠ 2 → m_of (m_works f c k) c x = m_works7 f c k (697 + 38 * (c : Int) + x) := fun x h0 h1 h2 => by unfold m_of; rw [hwj _ (by omega)]; exact hGm x h0 h1 h2
  have h74 : ∀ x : Int, 0 ≤ x → x ≤ 12 → x ≠ 2 → x ≠ 1 → m_works7 f c k (697 + 38 * (c : Int) + x) = m_works4 f c k (697 + 38 * (c : Int) + x) := fun x h0 h1 h2 h3 => by rw [h7, if_neg (by omega), if_neg (by omega), if_neg (by omega)]
  refine ⟨fun j h1 h2 => by rw [hwj j h1]; exact hGlo j h2, ?_, fun x hx => ?_, ?_, ?_, ?_, ?_, ?_, ?_, fun j hj => ?_⟩
  · rw [hw]; unfold m_setm; rw [up_s, hGlo _ (by omega)]; exact wr_id (rg_or _ _)
  · rw [hof x (by omega) (by omega) (by omega), h74 x (by omega) (by omega) (by omega) (by omega), h4, if_neg (by omega), if_neg (by omega), if_neg (by omega), if_neg (by omega)]; rfl
  · rw [hof 1 (by decide) (by decide) (by decide), h7, if_neg (by omega), if_neg (by omega), if_pos rfl]
  · unfold m_of; rw [hwj _ (by omega), hG]; split
    · rw [h7, if_pos rfl]
    · rw [up_s]; exact wr_id ⟨by omega, by omega⟩
  · rw [hof 3 (by decide) (by decide) (by decide), h74 3 (by decide) (by decide) (by decide) (by decide), h4, if_neg (by omega), if_neg (by omega), if_neg (by omega), if_pos rfl]
  · rw [hof 4 (by decide) (by decide) (by decide), h74 4 (by decide) (by decide) (by decide) (by decide), h4, if_neg (by omega), if_neg (by omega), if_pos rfl]
  · rw [hof 6 (by decide) (by decide) (by decide), h74 6 (by decide) (by decide) (by decide) (by decide), h4, if_neg (by omega), if_pos rfl]
  · rw [hof 7 (by decide) (by decide) (by decide), h74 7 (by decide) (by decide) (by decide) (by decide), h4, if_pos rfl]
  · have hm : ∀ i : Nat, i ≤ n → m_works7 f c k (697 + 38 * (c : Int) + (13 + i)) = if i = n then m_num f k else m_of f c (13 + i) := fun i hi => by
      rw [h7, if_neg (by omega)]
      by_cases e : i = n
      · rw [if_pos (by omega), if_pos e]
      · rw [if_neg (by omega), if_neg (by omega), if_neg e, h4, if_neg (by omega), if_neg (by omega), if_neg (by omega), if_neg (by omega)]; rfl
    unfold m_of
    rw [hwj _ (by omega), hG]
    by_cases q : (n : Int) + 1 ≤ f 16
    · rw [if_pos q] at hj
      rw [if_pos q, if_pos q, hm j (by omega)]; rfl
    · rw [if_neg q] at hj
      rw [if_neg q, if_neg q, up_n _ _ (by omega), up_n _ _ (by omega)]
      unfold m_shift
      rw [if_pos (by omega), show 697 + 38 * (c : Int) + (13 + (j : Int)) + 1 = 697 + 38 * (c : Int) + (13 + ((j + 1 : Nat) : Int)) by omega, hm (j + 1) (by omega)]; rfl
set_option maxRecDepth 100000 in
theorem orc_at : ∀ M : Fin 128, ∀ c : Fin 3, b_and (b_shr (b_or (M.val : Int) (b_shl 1 (1 + c.val))) 1) 7 = b_or (b_and (b_shr (M.val : Int) 1) 7) (b_shl 1 c.val) ∧ b_and (b_shr (b_or (M.val : Int) (b_shl 1 (1 + c.val))) 4) 7 = b_and (b_shr (M.val : Int) 4) 7 ∧ (b_and (b_shr (b_or (M.val : Int) (b_shl 1 (1 + c.val))) 0) 1 = b_and (b_shr (M.val : Int) 0) 1) ∧ (0 ≤ b_or (M.val : Int) (b_shl 1 (1 + c.val)) ∧ b_or (M.val : Int) (b_shl 1 (1 + c.val)) < 128) ∧ (b_and (b_and (b_shr (M.val : Int) 1) 7) (b_shl 1 c.val) ≠ 0 ↔ b_and (b_shr (M.val : Int) (1 + c.val)) 1 = 1) := by decide +kernel
theorem orc_of {x : Int} (h : 0 ≤ x ∧ x < 128) {c : Nat} (hc : c < 3) : b_and (b_shr (b_or x (b_shl 1 (1 + c))) 1) 7 = b_or (b_and (b_shr x 1) 7) (b_shl 1 c) ∧ b_and (b_shr (b_or x (b_shl 1 (1 + c))) 4) 7 = b_and (b_shr x 4) 7 ∧ (b_and (b_shr (b_or x (b_shl 1 (1 + c))) 0) 1 = b_and (b_shr x 0) 1) ∧ (0 ≤ b_or x (b_shl 1 (1 + c)) ∧ b_or x (b_shl 1 (1 + c)) < 128) ∧ (b_and (b_and (b_shr x 1) 7) (b_shl 1 c) ≠ 0 ↔ b_and (b_shr x (1 + c)) 1 = 1) := by
  have := orc_at ⟨x.toNat, by omega⟩ ⟨c, hc⟩
  dsimp only at this
  rw [show ((x.toNat : Nat) : Int) = x by omega] at this
  exact this
def m_row1 (r : RW) (c k : Int) : RW := if m_rep r c k = true then up r (697 + 38 * c + 5) (m_of r c 5 + 1) else m_works r c k
theorem rep_at {u : Mem} {b : Nat} {r : RW} {c : Nat} (h : RSc u b r c) (h2 : 0 ≤ m_of r c 2) {x m : Int} (hm : m = if r 15 = 1 then 1 else 0) {k : Int} (hx : x = m_num r k) : c_rep u b x m = m_rep r c k := by
  unfold c_rep m_rep
  by_cases q : r 15 = 1
  · rw [if_pos q] at hm
    rw [if_pos hm, if_pos q, hx, h.2.2.1]
  · rw [if_neg q] at hm
    rw [if_neg (by omega), if_neg q, h.1]
    have hmem := h.2.2.2.2.2.2.2.2.2.2.2.2.2
    have : ∀ n : Nat, (n : Int) ≤ m_of r c 2 → c_memL u b x n = m_mem r c (m_num r k) n := by
      intro n
      induction n with
      | zero => intro _; rfl
      | succ n ih =>
        intro hn
        simp only [c_memL, m_mem]
        rw [ih (by omega), hmem n (by omega), hx]
    exact this _ (by omega)
/-- memory behind an effect -/
theorem rs_effect {u w : Mem} {a : Nat} {r : RW} {c k : Nat} (hS : RS u a r) (hB : IB r) (hc : c < 3) (hk : (k : Int) < r 2) (hf : Fr u w (fun q => q = a + 24 ∨ q = a + 28 + 2 * c ∨ q = a + 28 + 2 * c + 1) (fun _ => False)) (he : mI w (a + 24) = up (mI u (a + 24)) k (b_or (mI u (a + 24) k) (b_shl 1 c))) (hFm : mI w (a + 28 + 2 * c) = c_teF (up (mI u (a + 28 + 2 * c)) 7 (m_of r c 6 + (if m_mark r k (1 + c) = true then 1 else 0))) (m_num r k) (m_value r k) (r 16)) (hMm : mI w (a + 28 + 2 * c + 1) = c_teM (mI u (a + 28 + 2 * c)) (mI u (a + 28 + 2 * c + 1)) (m_num r k) (r 16)) : RS w a (m_works r c k) := by
  have rf := hB.rf
  have b2 := hB.co.1
  obtain ⟨n, hn⟩ : ∃ n : Nat, m_of r c 2 = n := ⟨(m_of r c 2).toNat, by have := (hB.re c hc).2.2.1.1; omega⟩
  have hn2 : n ≤ 20 := by have := (hB.re c hc).2.2.1.2; omega
  have h16 := hB.se.2.2.2.2.2.2.2
  obtain ⟨w1, w2, w3, w4, w5, w6, w7, w8, w9, w10⟩ := works_at rf hB.ro h16 hc (by omega) hk hn hn2
  have hor := orc_of (hB.ro k hk).2.2 hc
  have hnr := num_rg rf hB.ro hk
  have hcc := hS.c hc
  refine ⟨hf.stO hS.o, ⟨?_, ?_⟩, fun i hi => ?_, fun p hp => ?_, ⟨?_, ?_, ?_, fun j hj => ?_, ?_⟩, fun d hd => ?_, ?_⟩
  · rw [hf.mI (by omega), w1 _ (by omega) (by omega)]; exact hS.tick
  · rw [hf.mI (by omega), w1 _ (by omega) (by omega)]; exact hS.writ
  · rw [hf.mI (by omega), w1 _ (by omega) (by omega)]; exact hS.set hi
  · exact (hS.t hp).keep (fun q h1 h2 => hf.mI (by omega)) (fun j h1 h2 => w1 j (by omega) (by omega)) (hB.pl p hp).2.1.2
  · rw [hf.mI (by omega), w1 _ (by omega) (by omega)]; exact hS.r.1
  · rw [hf.mI (by omega)]; unfold m_kept; rw [w1 _ (by omega) (by omega), w1 _ (by omega) (by omega)]; exact hS.r.2.1
  · rw [hf.mI (by omega), w1 _ (by omega) (by omega)]; exact hS.r.2.2.1
  · rw [w1 2 (by omega) (by omega)] at hj
    obtain ⟨a1, a2, a3, a4, a5, a6⟩ := hS.r.2.2.2.1 j hj
    rw [hf.mI (show ¬ (a + 19 + 1 = a + 24 ∨ a + 19 + 1 = a + 28 + 2 * c ∨ a + 19 + 1 = a + 28 + 2 * c + 1) by omega), hf.mI (show ¬ (a + 19 + 2 = a + 24 ∨ a + 19 + 2 = a + 28 + 2 * c ∨ a + 19 + 2 = a + 28 + 2 * c + 1) by omega), hf.mI (show ¬ (a + 19 + 3 = a + 24 ∨ a + 19 + 3 = a + 28 + 2 * c ∨ a + 19 + 3 = a + 28 + 2 * c + 1) by omega), hf.mI (show ¬ (a + 19 + 4 = a + 24 ∨ a + 19 + 4 = a + 28 + 2 * c ∨ a + 19 + 4 = a + 28 + 2 * c + 1) by omega), hf.mI (show ¬ (a + 19 + 6 = a + 24 ∨ a + 19 + 6 = a + 28 + 2 * c ∨ a + 19 + 6 = a + 28 + 2 * c + 1) by omega)]
    rw [num_keep (r := r) (w1 10 (by omega) (by omega)) (w1 _ (by omega) (by omega))]
    unfold m_write m_topic m_value
    rw [w1 (97 + 3 * j + 1) (by omega) (by omega), w1 (97 + 3 * j) (by omega) (by omega)]
    refine ⟨a1, a2, a3, a4, ?_, ?_⟩
    · rw [show a + 19 + 5 = a + 24 by omega, he]
      by_cases e : j = k
      · subst e
        rw [up_s, w2, hor.1]
        rw [show a + 24 = a + 19 + 5 by omega, a5]; exact wr_id (rg_or _ _)
      · rw [up_n _ _ (by omega), w1 (97 + 3 * j + 2) (by omega) (by omega)]; exact a5
    · by_cases e : j = k
      · subst e; rw [w2, hor.2.1]; exact a6
      · rw [w1 (97 + 3 * j + 2) (by omega) (by omega)]; exact a6
  · obtain ⟨o, hO, ho⟩ := hS.r.2.2.2.2
    have ek : m_kept (m_works r c k) = m_kept r := by unfold m_kept; rw [w1 _ (by omega) (by omega), w1 _ (by omega) (by omega)]
    refine ⟨o, ?_, fun j hj => ?_⟩
    · rw [ek]
      refine hO.keep (w1 2 (by omega) (by omega)) (fun j hj => ?_) (fun j hj => num_keep (w1 10 (by omega) (by omega)) (w1 _ (by omega) (by omega)))
      by_cases e : j = k
      · subst e; unfold m_mark; rw [w2, hor.2.2.1]
      · exact mark_keep (w1 _ (by omega) (by omega))
    · rw [ek] at hj
      rw [hf.mI (by omega)]; exact ho j hj
  · by_cases e : d = c
    · subst e
      obtain ⟨c1, c2, c3, c4, c5, c6, c7, c8, c9, c10, c11, c12, c13, c14⟩ := hcc
      have q : ∀ (A : RW) (j : Int), j ≠ 7 → (up (mI u (a + 28 + 2 * d)) 7 (m_of r d 6 + (if m_mark r k (1 + d) = true then 1 else 0))) j = mI u (a + 28 + 2 * d) j := fun _ j hj => up_n _ _ hj
      have q := q (fun _ => 0)
      unfold RSc
      rw [hFm, hMm]
      unfold c_teF c_teM
      rw [q 1 (by decide), q 2 (by decide), q 3 (by decide), q 4 (by decide), q 5 (by decide), q 6 (by decide), q 8 (by decide), q 9 (by decide), q 10 (by decide), q 11 (by decide), q 12 (by decide), q 13 (by decide), up_s]
      rw [c1, c2, c3, c4, c5, c6, c8, c9, c10, c11, c12]
      rw [w3 0 (by omega), w3 5 (by omega), w3 8 (by omega), w3 9 (by omega), w3 10 (by omega), w3 11 (by omega), w3 12 (by omega), w4, w5, w6, w7, w8, w9, hn]
      refine ⟨?_, rfl, ?_, rfl, rfl, rfl, rfl, ?_, rfl, rfl, rfl, rfl, c13, fun j hj => ?_⟩
      · simp only [show ((1 : Int) = 4) = False from eq_false (by decide), show ((1 : Int) = 5) = False from eq_false (by decide), show ((1 : Int) = 8) = False from eq_false (by decide), show ((1 : Int) = 3) = False from eq_false (by decide), if_false, if_true]
        split <;> split <;> omega
      · simp only [show ((3 : Int) = 4) = False from eq_false (by decide), show ((3 : Int) = 5) = False from eq_false (by decide), show ((3 : Int) = 8) = False from eq_false (by decide), if_false, if_true]
        split <;> split <;> omega
      · simp only [show ((8 : Int) = 4) = False from eq_false (by decide), show ((8 : Int) = 5) = False from eq_false (by decide), if_false, if_true]
        by_cases z : m_num r k < m_of r d 1
        · rw [if_pos z, if_neg (by omega)]
        · rw [if_neg z, if_pos (by omega), Int.add_zero, wr_id (rg_of rf _ _)]
      · rw [w10 j hj]
        by_cases z : (n : Int) + 1 ≤ r 16
        · rw [if_pos z] at hj
          rw [if_neg (by omega), if_pos z]
          unfold up
          by_cases y : j = n
          · rw [if_pos (by omega), if_pos y, wr_id hnr]
          · rw [if_neg (by omega), if_neg y]; exact c14 j (by omega)
        · rw [if_neg z] at hj
          rw [if_pos (by omega), if_neg z]
          unfold m_shift up
          rw [if_pos (by omega)]
          by_cases y : j + 1 = n
          · rw [if_pos (by omega), if_pos y, wr_id hnr]
          · rw [if_neg (by omega), if_neg y, show (j : Int) + 1 = ((j + 1 : Nat) : Int) by omega]; exact c14 (j + 1) (by omega)
    · exact (hS.c hd).keep (hf.mI (by omega)) (hf.mI (by omega)) (fun j h1 h2 => w1 j (by omega) (by omega)) (by have := (hB.re d hd).2.2.1; omega)
  · exact hS.l.keep hS.o.l (fun q h1 h2 => hf.mI (by omega)) (hf.mP id) (fun j hj => w1 j (by omega) (by omega)) hB.ni
theorem rs_repeat {u : Mem} {a : Nat} {r : RW} {c : Nat} (hS : RS u a r) (hB : IB r) (hc : c < 3) : RS (sI u (a + 28 + 2 * c) 6 (m_of r c 5 + 1)) a (up r (697 + 38 * (c : Int) + 5) (m_of r c 5 + 1)) := by
  have hf : Fr u (sI u (a + 28 + 2 * c) 6 (m_of r c 5 + 1)) (fun q => q = a + 28 + 2 * c) (fun _ => False) := (Fr.refl _ _ _).sI _ _ rfl
  have w1 : ∀ j, j ≠ 697 + 38 * (c : Int) + 5 → (up r (697 + 38 * (c : Int) + 5) (m_of r c 5 + 1)) j = r j := fun j hj => up_n _ _ hj
  refine ⟨hf.stO hS.o, ⟨?_, ?_⟩, fun i hi => ?_, fun p hp => ?_, ?_, fun d hd => ?_, ?_⟩
  · rw [hf.mI (by omega), w1 _ (by omega)]; exact hS.tick
  · rw [hf.mI (by omega), w1 _ (by omega)]; exact hS.writ
  · rw [hf.mI (by omega), w1 _ (by omega)]; exact hS.set hi
  · exact (hS.t hp).keep (fun q h1 h2 => hf.mI (by omega)) (fun j h1 h2 => w1 j (by omega)) (hB.pl p hp).2.1.2
  · exact hS.r.keep (fun q h1 h2 => hf.mI (by omega)) (fun j hj => w1 j (by omega)) hB.co.1.2
  · by_cases e : d = c
    · subst e
      obtain ⟨c1, c2, c3, c4, c5, c6, c7, c8, c9, c10, c11, c12, c13, c14⟩ := hS.c hd
      have q : ∀ x : Int, x ≠ 5 → m_of (up r (697 + 38 * (d : Int) + 5) (m_of r d 5 + 1)) d x = m_of r d x := fun x hx => by unfold m_of; exact up_n _ _ (by omega)
      have q5 : m_of (up r (697 + 38 * (d : Int) + 5) (m_of r d 5 + 1)) d 5 = wr (m_of r d 5 + 1) := by unfold m_of; exact up_s _ _ _
      unfold RSc
      rw [up_mI, up_mI_n _ _ _ (by omega), q5, q 0 (by decide), q 1 (by decide), q 2 (by decide), q 3 (by decide), q 4 (by decide), q 6 (by decide), q 7 (by decide), q 8 (by decide), q 9 (by decide), q 10 (by decide), q 11 (by decide), q 12 (by decide)]
      rw [up_n _ _ (by decide), up_n _ _ (by decide), up_n _ _ (by decide), up_n _ _ (by decide), up_n _ _ (by decide), up_s, up_n _ _ (by decide), up_n _ _ (by decide), up_n _ _ (by decide), up_n _ _ (by decide), up_n _ _ (by decide), up_n _ _ (by decide), up_n _ _ (by decide)]
      exact ⟨c1, c2, c3, c4, c5, rfl, c7, c8, c9, c10, c11, c12, c13, fun j hj => by rw [q _ (by omega)]; exact c14 j hj⟩
    · exact (hS.c hd).keep (hf.mI (by omega)) (hf.mI (by omega)) (fun j h1 h2 => w1 j (by omega)) (by have := (hB.re d hd).2.2.1; omega)
  · exact hS.l.keep hS.o.l (fun q h1 h2 => hf.mI (by omega)) (hf.mP id) (fun j hj => w1 j (by omega)) hB.ni
