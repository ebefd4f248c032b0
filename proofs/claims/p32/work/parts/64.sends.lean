/-! ===== bytes in a word ===== -/
def qb (x : Int32) (i : Nat) : Bool := x.toBitVec.getLsbD i
theorem qb_ext {x y : Int32} (h : ∀ i, i < 32 → qb x i = qb y i) : x = y := Int32.toBitVec_inj.mp (BitVec.eq_of_getLsbD_eq (fun i hi => h i hi))
theorem qb_or (x y : Int32) (i : Nat) : qb (x ||| y) i = (qb x i || qb y i) := by unfold qb; rw [Int32.toBitVec_or, BitVec.getLsbD_or]
theorem qb_and (x y : Int32) (i : Nat) : qb (x &&& y) i = (qb x i && qb y i) := by unfold qb; rw [Int32.toBitVec_and, BitVec.getLsbD_and]
theorem qb_255 : ∀ i, i < 32 → qb (Int32.ofInt 255) i = decide (i < 8) := by decide +kernel
theorem qb_cnt : ∀ m : Nat, m < 4 → ((Int32.ofInt (8 * (m : Int)) &&& 31).toBitVec.smod 32).toNat = 8 * m := by decide +kernel
theorem qb_shl {m : Nat} (hm : m < 4) (x : Int32) {i : Nat} (hi : i < 32) : qb (x <<< (Int32.ofInt (8 * (m : Int)) &&& 31)) i = (decide (8 * m ≤ i) && qb x (i - 8 * m)) := by
  unfold qb
  rw [Int32.toBitVec_shiftLeft]
  show (x.toBitVec <<< ((Int32.ofInt (8 * (m : Int)) &&& 31).toBitVec.smod 32).toNat).getLsbD i = _
  rw [qb_cnt m hm, BitVec.getLsbD_shiftLeft]
  rcases Nat.lt_or_ge i (8 * m) with h | h
  · simp [h, Nat.not_le.mpr h]
  · simp [hi, h, Nat.not_lt.mpr h]
theorem qb_shr {m : Nat} (hm : m < 4) (x : Int32) {i : Nat} (hi : i < 32) : qb (x >>> (Int32.ofInt (8 * (m : Int)) &&& 31)) i = if 8 * m + i < 32 then qb x (8 * m + i) else qb x 31 := by
  unfold qb
  rw [Int32.toBitVec_shiftRight]
  show (x.toBitVec.sshiftRight ((Int32.ofInt (8 * (m : Int)) &&& 31).toBitVec.smod 32).toNat).getLsbD i = _
  rw [qb_cnt m hm, BitVec.getLsbD_sshiftRight, BitVec.msb_eq_getLsbD_last]
  simp [hi]
theorem qb_hi : ∀ x, x < 256 → ∀ i, i < 32 → 8 ≤ i → qb (Int32.ofNat x) i = false := by decide +kernel
theorem qb_hi' {x : Int} (h : 0 ≤ x ∧ x < 256) {i : Nat} (hi : i < 32) (h8 : 8 ≤ i) : qb (Int32.ofInt x) i = false := by
  obtain ⟨n, hn⟩ : ∃ n : Nat, x = n := ⟨x.toNat, by omega⟩
  have := qb_hi n (by omega) i hi h8
  rw [hn]; exact this
/-- the first m bytes of a word -/
def wdI (b : RW) (s : Int) : Nat → Int
  | 0 => 0
  | m + 1 => b_or (wdI b s m) (b_shl (b (4 * s + m)) (8 * (m : Int)))
theorem wdI_rg (b : RW) (s : Int) (m : Nat) : rg (wdI b s m) := by
  cases m with
  | zero => exact rg_0
  | succ m => exact rg_or _ _
theorem wdI_bit {b : RW} {s : Int} : ∀ m : Nat, m ≤ 4 → (∀ k : Nat, k < m → 0 ≤ b (4 * s + k) ∧ b (4 * s + k) < 256) → ∀ i, i < 32 → qb (Int32.ofInt (wdI b s m)) i = (decide (i / 8 < m) && qb (Int32.ofInt (b (4 * s + (i / 8 : Nat)))) (i % 8)) := by
  intro m
  induction m with
  | zero =>
    intro _ _ i hi
    have : ∀ i, i < 32 → qb (Int32.ofInt 0) i = false := by decide +kernel
    rw [show wdI b s 0 = 0 from rfl, this i hi]; simp
  | succ m ih =>
    intro hm hb i hi
    have e : Int32.ofInt (wdI b s (m + 1)) = Int32.ofInt (wdI b s m) ||| (Int32.ofInt (b (4 * s + m)) <<< (Int32.ofInt (8 * (m : Int)) &&& 31)) := by
      simp only [wdI]; unfold b_or b_shl; rw [Int32.ofInt_toInt, Int32.ofInt_toInt]
    rw [e, qb_or, qb_shl (by omega) _ hi, ih (by omega) (fun k hk => hb k (by omega)) i hi]
    rcases Nat.lt_trichotomy (i / 8) m with q | q | q
    · have h1 : ¬ 8 * m ≤ i := by omega
      simp [q, h1, show i / 8 < m + 1 by omega]
    · have h1 : 8 * m ≤ i := by omega
      have h2 : i - 8 * m = i % 8 := by omega
      rw [h2]
      simp [q, h1]
    · have h1 : 8 * m ≤ i := by omega
      have := qb_hi' (hb m (by omega)) (i := i - 8 * m) (by omega) (by omega)
      rw [this]
      simp [show ¬ i / 8 < m by omega, show ¬ i / 8 < m + 1 by omega]
theorem wdI_get {b : RW} {s : Int} {m k : Nat} (hm : m ≤ 4) (hk : k < m) (hb : ∀ k : Nat, k < m → 0 ≤ b (4 * s + k) ∧ b (4 * s + k) < 256) : b_and (b_shr (wdI b s m) (8 * (k : Int))) 255 = b (4 * s + k) := by
  have hbk := hb k hk
  have e : Int32.ofInt (wdI b s m) >>> (Int32.ofInt (8 * (k : Int)) &&& 31) &&& Int32.ofInt 255 = Int32.ofInt (b (4 * s + k)) := by
    apply qb_ext
    intro i hi
    rw [qb_and, qb_255 i hi, qb_shr (by omega) _ hi]
    by_cases h8 : i < 8
    · rw [if_pos (by omega), wdI_bit m hm hb _ (by omega)]
      have e1 : (8 * k + i) / 8 = k := by omega
      have e2 : (8 * k + i) % 8 = i := by omega
      rw [e1, e2]
      simp [hk, h8]
    · rw [qb_hi' hbk hi (by omega)]; simp [h8]
  unfold b_and b_shr
  rw [Int32.ofInt_toInt, e]
  exact wr_id ⟨by omega, by omega⟩
/-- the rows of a batch, packed -/
theorem pack_at {g b : RW} {A : Int} (h0 : g (A + 5) = 0) (h1 : g (A + 5 + 1) = 0) : ∀ n : Nat, n ≤ 8 → (∀ j, j ≠ A + 5 → j ≠ A + 5 + 1 → m_pack g b A n j = g j) ∧ m_pack g b A n (A + 5) = wdI b 0 (if n ≤ 4 then n else 4) ∧ m_pack g b A n (A + 5 + 1) = wdI b 1 (n - 4) := by
  intro n
  induction n with
  | zero => intro _; exact ⟨fun _ _ _ => rfl, h0, h1⟩
  | succ n ih =>
    intro hn
    obtain ⟨i1, i2, i3⟩ := ih (by omega)
    simp only [m_pack]
    rcases Nat.lt_or_ge n 4 with q | q
    · have d0 : (n : Int).tdiv 4 = 0 := by rw [Int.tdiv_eq_ediv_of_nonneg (by omega)]; omega
      have m0 : (n : Int).tmod 4 = n := by rw [Int.tmod_eq_emod_of_nonneg (by omega)]; omega
      rw [d0, m0, Int.add_zero, i2]
      refine ⟨fun j j1 j2 => by rw [up_n _ _ j1]; exact i1 j j1 j2, ?_, ?_⟩
      · rw [up_s, if_pos (by omega), if_pos (by omega), wr_id (rg_or _ _)]
        simp only [wdI, Int.mul_zero, Int.zero_add]
      · rw [up_n _ _ (by omega), i3]; congr 1; omega
    · have d0 : (n : Int).tdiv 4 = 1 := by rw [Int.tdiv_eq_ediv_of_nonneg (by omega)]; omega
      have m0 : (n : Int).tmod 4 = n - 4 := by rw [Int.tmod_eq_emod_of_nonneg (by omega)]; omega
      rw [d0, m0, i3]
      refine ⟨fun j j1 j2 => by rw [up_n _ _ j2]; exact i1 j j1 j2, ?_, ?_⟩
      · rw [up_n _ _ (by omega), i2]; congr 1; split <;> split <;> omega
      · rw [up_s, wr_id (rg_or _ _)]
        rw [show n + 1 - 4 = (n - 4) + 1 by omega]
        simp only [wdI]
        rw [show 4 * (1 : Int) + ((n - 4 : Nat) : Int) = n by omega, show (8 * ((n - 4 : Nat) : Int)) = 8 * ((n : Int) - 4) by omega]
/-- a message is lost -/
def m_isLost (r : RW) : Prop := r 14 ≠ 0 ∧ (wr (r 4 + 1)).tmod (r 14) = 0
/-- what a sent message leaves -/
theorem sends_at {r b : RW} (rf : RF r) {N mn : Nat} {kd c gr : Int} (hN : r 9 = N) (hN2 : N ≤ 60) (hmn : mn ≤ 8) (hkd : rg kd) (hcr : rg c) (hgr : rg gr) (hb : ∀ k : Nat, k < mn → 0 ≤ b k ∧ b k < 256) : (m_isLost r → m_sends r b kd c mn gr = up (up r 4 (r 4 + 1)) 5 (r 5 + 1)) ∧ (¬ m_isLost r → (∀ j, j ≠ 4 → j ≠ 9 → (j < 811 + 7 * (N : Int) ∨ 811 + 7 * (N : Int) + 7 ≤ j) → m_sends r b kd c mn gr j = r j) ∧ m_sends r b kd c mn gr 4 = wr (r 4 + 1) ∧ m_sends r b kd c mn gr 9 = (N : Int) + 1 ∧ m_way (m_sends r b kd c mn gr) N 0 = kd ∧ m_way (m_sends r b kd c mn gr) N 1 = c ∧ m_way (m_sends r b kd c mn gr) N 2 = wr (r 0 + r 11) ∧ m_way (m_sends r b kd c mn gr) N 3 = mn ∧ m_way (m_sends r b kd c mn gr) N 4 = gr ∧ ∀ k : Nat, k < mn → m_rowOf (m_sends r b kd c mn gr) N k = b k) := by
  have e0 : ∀ j, j ≠ 4 → m_sends0 r j = r j := fun j hj => up_n _ _ hj
  have e4 : m_sends0 r 4 = wr (r 4 + 1) := up_s _ _ _
  have hc0 : ((m_sends0 r) 14 ≠ 0 ∧ ((m_sends0 r) 4).tmod ((m_sends0 r) 14) = 0) ↔ m_isLost r := by unfold m_isLost; rw [e0 14 (by decide), e4]
  refine ⟨fun hl => ?_, fun hl => ?_⟩
  · unfold m_sends
    rw [if_pos (hc0.mpr hl), e0 5 (by decide)]; rfl
  · have hs : m_sends r b kd c mn gr = up (m_pack (m_sendsA (m_sends0 r) kd c mn gr) b (811 + 7 * (N : Int)) mn) 9 ((m_pack (m_sendsA (m_sends0 r) kd c mn gr) b (811 + 7 * (N : Int)) mn) 9 + 1) := by
      unfold m_sends
      rw [if_neg (fun z => hl (hc0.mp z)), e0 9 (by decide), hN, Int.toNat_natCast]
    obtain ⟨G, hG⟩ : ∃ G, G = m_sendsA (m_sends0 r) kd c mn gr := ⟨_, rfl⟩
    have hGe : G = up (up (up (up (up (up (up (m_sends0 r) (811 + 7 * (N : Int) + 0) kd) (811 + 7 * (N : Int) + 1) c) (811 + 7 * (N : Int) + 2) (r 0 + r 11)) (811 + 7 * (N : Int) + 3) mn) (811 + 7 * (N : Int) + 4) gr) (811 + 7 * (N : Int) + 5) 0) (811 + 7 * (N : Int) + 5 + 1) 0 := by
      rw [hG]; unfold m_sendsA; simp only [e0 9 (by decide), hN]
      rw [up_n (k := 811 + 7 * (N : Int) + 1) (j := 0) _ _ (by omega), up_n (k := 811 + 7 * (N : Int) + 0) (j := 0) _ _ (by omega), up_n (k := 811 + 7 * (N : Int) + 1) (j := 11) _ _ (by omega), up_n (k := 811 + 7 * (N : Int) + 0) (j := 11) _ _ (by omega), e0 0 (by decide), e0 11 (by decide)]
    have hGo : ∀ j, (j < 811 + 7 * (N : Int) ∨ 811 + 7 * (N : Int) + 7 ≤ j) → G j = m_sends0 r j := fun j hj => by
      rw [hGe, up_n _ _ (by omega), up_n _ _ (by omega), up_n _ _ (by omega), up_n _ _ (by omega), up_n _ _ (by omega), up_n _ _ (by omega), up_n _ _ (by omega)]
    have g5 : G (811 + 7 * (N : Int) + 5) = 0 := by rw [hGe, up_n _ _ (by omega), up_s]; rfl
    have g6 : G (811 + 7 * (N : Int) + 5 + 1) = 0 := by rw [hGe, up_s]; rfl
    obtain ⟨p1, p2, p3⟩ := pack_at (b := b) g5 g6 mn hmn
    rw [← hG] at hs
    have h9 : m_pack G b (811 + 7 * (N : Int)) mn 9 = N := by rw [p1 9 (by omega) (by omega), hGo 9 (by omega), e0 9 (by decide), hN]
    have hj : ∀ j, j ≠ 9 → m_sends r b kd c mn gr j = m_pack G b (811 + 7 * (N : Int)) mn j := fun j hj => by rw [hs]; exact up_n _ _ hj
    have hw : ∀ x : Int, 0 ≤ x → x ≤ 4 → m_way (m_sends r b kd c mn gr) N x = G (811 + 7 * (N : Int) + x) := fun x h0 h1 => by
      unfold m_way; rw [hj _ (by omega), p1 _ (by omega) (by omega)]
    refine ⟨fun j j4 j9 hjr => ?_, ?_, ?_, ?_, ?_, ?_, ?_, ?_, fun k hk => ?_⟩
    · rw [hj j j9, p1 j (by omega) (by omega), hGo j hjr, e0 j j4]
    · rw [hj 4 (by decide), p1 4 (by omega) (by omega), hGo 4 (by omega), e4]
    · rw [hs, up_s, h9, wr_id ⟨by omega, by omega⟩]
    · rw [hw 0 (by decide) (by decide), hGe, up_n _ _ (by omega), up_n _ _ (by omega), up_n _ _ (by omega), up_n _ _ (by omega), up_n _ _ (by omega), up_n _ _ (by omega), up_s, wr_id hkd]
    · rw [hw 1 (by decide) (by decide), hGe, up_n _ _ (by omega), up_n _ _ (by omega), up_n _ _ (by omega), up_n _ _ (by omega), up_n _ _ (by omega), up_s, wr_id hcr]
    · rw [hw 2 (by decide) (by decide), hGe, up_n _ _ (by omega), up_n _ _ (by omega), up_n _ _ (by omega), up_n _ _ (by omega), up_s]
    · rw [hw 3 (by decide) (by decide), hGe, up_n _ _ (by omega), up_n _ _ (by omega), up_n _ _ (by omega), up_s, wr_id ⟨by omega, by omega⟩]
    · rw [hw 4 (by decide) (by decide), hGe, up_n _ _ (by omega), up_n _ _ (by omega), up_s, wr_id hgr]
    · unfold m_rowOf m_way
      rcases Nat.lt_or_ge k 4 with q | q
      · have d0 : (k : Int).tdiv 4 = 0 := by rw [Int.tdiv_eq_ediv_of_nonneg (by omega)]; omega
        have m0 : (k : Int).tmod 4 = k := by rw [Int.tmod_eq_emod_of_nonneg (by omega)]; omega
        rw [d0, m0, hj _ (by omega), Int.add_zero, p2]
        have := wdI_get (b := b) (s := 0) (m := if mn ≤ 4 then mn else 4) (k := k) (by split <;> omega) (by split <;> omega) (fun i hi => by
          rw [Int.mul_zero, Int.zero_add]; exact hb i (by split at hi <;> omega))
        rw [this, Int.mul_zero, Int.zero_add]
      · have d0 : (k : Int).tdiv 4 = 1 := by rw [Int.tdiv_eq_ediv_of_nonneg (by omega)]; omega
        have m0 : (k : Int).tmod 4 = ((k - 4 : Nat) : Int) := by rw [Int.tmod_eq_emod_of_nonneg (by omega)]; omega
        rw [d0, m0, hj _ (by omega), show 811 + 7 * (N : Int) + (5 + 1) = 811 + 7 * (N : Int) + 5 + 1 by omega, p3]
        have := wdI_get (b := b) (s := 1) (m := mn - 4) (k := k - 4) (by omega) (by omega) (fun i hi => by
          rw [show 4 * (1 : Int) + (i : Int) = ((i + 4 : Nat) : Int) by omega]; exact hb (i + 4) (by omega))
        rw [this]; congr 1; omega
