/-! ===== what the reference's methods ask of a row: from what always holds ===== -/
theorem pack_cg {g b b' : RW} {a : Int} : ∀ n : Nat, (∀ k : Nat, k < n → b k = b' k) → m_pack g b a n = m_pack g b' a n := by
  intro n
  induction n with
  | zero => intro _; rfl
  | succ n ih =>
    intro h
    simp only [m_pack]
    rw [ih (fun k hk => h k (by omega)), h n (by omega)]
theorem sends_cg {r b b' : RW} {kd c mn gr : Int} (h : ∀ k : Nat, k < mn.toNat → b k = b' k) : m_sends r b kd c mn gr = m_sends r b' kd c mn gr := by
  unfold m_sends
  rw [pack_cg mn.toNat h]
theorem step_cg (f b b' : RW) : m_step f b = m_step f b' := by
  unfold m_step m_batchComes
  rw [sends_cg (b := b) (b' := b') (fun k hk => by simp at hk)]
theorem steps_cg (b b' : RW) : ∀ (s : Nat) (f : RW), m_steps b s f = m_steps b' s f := by
  intro s
  induction s with
  | zero => intro f; rfl
  | succ s ih =>
    intro f
    simp only [m_steps]
    rw [step_cg f b b', ih]
theorem gat_cg {f : RW} {c : Int} : ∀ (s : Nat) (a : Int) (n : Nat) (b b' : RW), (∀ k : Nat, k < n → b k = b' k) → (m_gat f c s a n b).1 = (m_gat f c s a n b').1 ∧ ∃ N : Nat, (m_gat f c s a n b).1 = N ∧ ∀ k : Nat, k < N → (m_gat f c s a n b).2 k = (m_gat f c s a n b').2 k := by
  intro s
  induction s with
  | zero => intro a n b b' h; exact ⟨rfl, n, rfl, h⟩
  | succ s ih =>
    intro a n b b' h
    simp only [m_gat]
    by_cases z : m_next f a = -1 ∨ f 12 ≤ n
    · rw [if_pos z, if_pos z]; exact ⟨rfl, n, rfl, h⟩
    · rw [if_neg z, if_neg z]
      by_cases y : m_wants f c (m_topic f (m_next f a)) = true
      · rw [if_pos y, if_pos y]
        exact ih _ (n + 1) _ _ (fun k hk => by
          by_cases e : k = n
          · subst e
            have e1 := up_s b (k : Int) (m_next f a)
            have e2 := up_s b' (k : Int) (m_next f a)
            rw [e1, e2]
          · rw [up_n _ _ (by omega), up_n _ _ (by omega)]; exact h k (by omega))
      · rw [if_neg y, if_neg y]; exact ih _ n _ _ h
theorem markL_cg {f b b' : RW} {c : Int} : ∀ n : Nat, (∀ k : Nat, k < n → b k = b' k) → m_markL f b c n = m_markL f b' c n := by
  intro n
  induction n with
  | zero => intro _; rfl
  | succ n ih =>
    intro h
    simp only [m_markL]
    rw [ih (fun k hk => h k (by omega)), h n (by omega)]
theorem relays_cg (f b b' : RW) (c : Int) : m_relays f b c = m_relays f b' c := by
  unfold m_relays m_relN m_relB
  by_cases y : m_may f c = true
  · rw [if_pos y, if_pos y, if_pos y, if_pos y]
    obtain ⟨g1, N, g2, g3⟩ := gat_cg (f := f) (c := c) 201 (m_of f c 8) 0 b b' (fun k hk => by omega)
    have h1 : (m_gather f c b).1 = (m_gather f c b').1 := g1
    have h2 : (m_gather f c b).1 = N := g2
    have h3 : ∀ k : Nat, k < N → (m_gather f c b).2 k = (m_gather f c b').2 k := g3
    rw [← h1]
    by_cases z : 0 < (m_gather f c b).1
    · rw [if_pos z, if_pos z]
      generalize (m_gather f c b).2 = B at h3 ⊢
      generalize (m_gather f c b').2 = B' at h3 ⊢
      generalize (m_gather f c b).1 = x at h2 z ⊢
      subst h2
      have hl : B ((N : Int) - 1) = B' ((N : Int) - 1) := by
        have := h3 (N - 1) (by omega)
        rw [show ((N - 1 : Nat) : Int) = (N : Int) - 1 by omega] at this
        exact this
      have h0 : m_rel0 f B c N = m_rel0 f B' c N := by
        unfold m_rel0
        rw [Int.toNat_natCast, markL_cg N h3, hl]
      unfold m_rel1
      rw [h0, hl, sends_cg (b := B) (b' := B') (fun k hk => h3 k (by omega))]
    · rw [if_neg z, if_neg z]
  · rw [if_neg y, if_neg y, if_neg y, if_neg y, if_neg (by decide), if_neg (by decide)]
theorem tick_cg (f b b' : RW) : (m_tick f b).1 = (m_tick f b').1 := by
  unfold m_tick
  rw [steps_cg b b']
  generalize m_steps b' 200 (up f 0 (f 0 + 1)) = g
  unfold m_rel3
  dsimp only
  rw [relays_cg g b b' 0, relays_cg (m_relays g b' 0) (m_relB g b 0) (m_relB g b' 0) 1, relays_cg (m_relays (m_relays g b' 0) (m_relB g b' 0) 1) (m_relB (m_relays g b' 0) (m_relB g b 0) 1) (m_relB (m_relays g b' 0) (m_relB g b' 0) 1) 2]
theorem pass_cg (f b b' : RW) : ∀ k : Nat, (m_pass f b k).1 = (m_pass f b' k).1 := by
  intro k
  induction k with
  | zero => rfl
  | succ k ih =>
    simp only [m_pass]
    rw [ih]
    exact tick_cg _ _ _
theorem try_ok {f : RW} {T : Int} (h : Inv f T) (hT : T + 300 ≤ 2000000) : TryOK f := fun B hB =>
  ⟨pass_ok h hB (by omega), fun k hk => (pass_inv h hB k (by omega)).1.co.1, fun k _ => pass_cg f B _ k⟩
theorem rank_ok {u : Mem} {a : Nat} {f : RW} {T : Int} (hS : RS u a f) (h : Inv f T) : ∀ i : Int, 0 ≤ i → i < f 9 → 0 ≤ m_ranked f i ∧ m_ranked f i < f 9 := fun i h0 h1 => by
  obtain ⟨sg, hsg, -⟩ := hS.l.2.2.2.2.2.2
  obtain ⟨k, rfl⟩ : ∃ k : Nat, i = k := ⟨i.toNat, by omega⟩
  rw [ranked_at rfl hsg k (by omega)]
  have := hsg.1 k (by omega)
  omega
