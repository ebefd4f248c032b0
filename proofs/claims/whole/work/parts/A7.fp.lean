/-! ===== floating point: what a quotient of whole numbers looks like ===== -/
theorem near_rg {n d : Nat} (hd : 0 < d) : n / d ≤ FP.Core.nearest n d ∧ FP.Core.nearest n d ≤ n / d + 1 := by
  unfold FP.Core.nearest
  split
  · omega
  · split
    · omega
    · have := Nat.mod_lt (n / d) (show 0 < 2 by decide); omega
theorem near_ex (c : Nat) {d : Nat} (hd : 0 < d) : FP.Core.nearest (c * d) d = c := by
  unfold FP.Core.nearest
  rw [Nat.mul_mod_left, Nat.mul_div_left _ hd, if_pos (by omega)]
theorem near_1 (c : Nat) : FP.Core.nearest c 1 = c := by
  have := near_ex c (d := 1) (by decide)
  rw [Nat.mul_one] at this
  exact this
theorem log2_is {a k : Nat} (h1 : 2 ^ k ≤ a) (h2 : a < 2 ^ (k + 1)) : a.log2 = k := by
  have h0 : a ≠ 0 := by have := Nat.two_pow_pos k; omega
  have q1 := (Nat.log2_lt h0).mpr h2
  have q2 : ¬ a.log2 < k := fun z => by have := (Nat.log2_lt h0).mp z; omega
  omega
theorem lead1 {a k : Nat} (h1 : 2 ^ k ≤ a) (h2 : a < 2 ^ (k + 1)) : FP.Core.leading a 1 = k := by
  unfold FP.Core.leading
  rw [log2_is h1 h2, show Nat.log2 1 = 0 from by decide]
  dsimp only
  rw [show ((k : Int) - ((0 : Nat) : Int)) = (k : Int) by omega, show ((k : Int)).toNat = k by omega, show (-(k : Int)).toNat = 0 by omega, if_pos (by rw [Nat.one_mul, Nat.pow_zero, Nat.mul_one]; exact h1)]
theorem leadN {p A B : Nat} (a1 : 2 ^ p ≤ A) (a2 : A < 2 ^ (p + 1)) (b1 : 2 ^ p ≤ B) (b2 : B < 2 ^ (p + 1)) : FP.Core.leading A B = if B ≤ A then 0 else -1 := by
  unfold FP.Core.leading
  rw [log2_is a1 a2, log2_is b1 b2]
  dsimp only
  rw [Int.sub_self, show ((0 : Int)).toNat = 0 from rfl, show (-(0 : Int)).toNat = 0 from rfl, Nat.pow_zero, Nat.mul_one, Nat.mul_one]
  by_cases h : B ≤ A
  · rw [if_pos h, if_pos h]
  · rw [if_neg h, if_neg h]; rfl
/-- the double / float of exponent E and places T -/
def d64 (E T : Nat) : UInt64 := UInt64.ofNat (E * 4503599627370496 + T)
theorem d64_n {E T : Nat} (hE : E < 2048) (hT : T < 4503599627370496) : (d64 E T).toNat = E * 4503599627370496 + T := by
  unfold d64
  rw [UInt64.toNat_ofNat']
  exact Nat.mod_eq_of_lt (by omega)
theorem fm64 : FP.Core.Fmt.tails FP.Core.b64 = 4503599627370496 ∧ FP.Core.Fmt.exps FP.Core.b64 = 2048 ∧ FP.Core.Fmt.qmin FP.Core.b64 = -1074 ∧ FP.Core.Fmt.qmax FP.Core.b64 = 971 ∧ FP.Core.b64.p = 53 ∧ 2 ^ FP.Core.b64.p = 2 * 4503599627370496 := by decide
theorem dec64 {E T : Nat} (h1 : 1 ≤ E) (h2 : E + 1 < 2048) (hT : T < 4503599627370496) : FP.Core.decode FP.Core.b64 (d64 E T).toNat = .fin false (4503599627370496 + T) ((E : Int) - 1075) := by
  obtain ⟨f1, f2, f3, -, -, -⟩ := fm64
  rw [d64_n (by omega) hT]
  unfold FP.Core.decode FP.Core.fieldE FP.Core.fieldT FP.Core.fieldS
  rw [f1, f2, f3]
  have e1 : (E * 4503599627370496 + T) / 4503599627370496 % 2048 = E := by omega
  have e2 : (E * 4503599627370496 + T) % 4503599627370496 = T := by omega
  have e3 : (E * 4503599627370496 + T) / 4503599627370496 / 2048 % 2 = 0 := by omega
  rw [e1, e2, e3, if_neg (by omega), if_neg (by omega)]
  congr 1
  omega
theorem enc64 {c : Nat} {q : Int} (h1 : 4503599627370496 ≤ c) (h2 : c < 2 * 4503599627370496) (hq : -1074 ≤ q) : FP.Core.encode FP.Core.b64 (.fin false c q) = (q + 1075).toNat * 4503599627370496 + (c - 4503599627370496) := by
  obtain ⟨f1, f2, f3, -, -, -⟩ := fm64
  show (if c < FP.Core.Fmt.tails FP.Core.b64 then FP.Core.assemble FP.Core.b64 false 0 c else FP.Core.assemble FP.Core.b64 false ((q - FP.Core.Fmt.qmin FP.Core.b64).toNat + 1) (c - FP.Core.Fmt.tails FP.Core.b64)) = _
  rw [f1, if_neg (by omega)]
  unfold FP.Core.assemble
  rw [f1, f2, f3]
  have e : (q - -1074).toNat + 1 = (q + 1075).toNat := by omega
  rw [e]
  show (0 * 2048 + (q + 1075).toNat) * 4503599627370496 + (c - 4503599627370496) = _
  rw [Nat.zero_mul, Nat.zero_add]
theorem rr64 {A B : Nat} {e q L : Int} (hA : A ≠ 0) (hL : FP.Core.leading A B = L) (hq : L + e - 52 = q) (h1 : -1074 ≤ q) : FP.Core.roundRatio FP.Core.b64 false A B e = FP.Core.settle FP.Core.b64 false (FP.Core.nearest (A * 2 ^ (e - q).toNat) (B * 2 ^ (q - e).toNat)) q := by
  obtain ⟨f1, f2, f3, f4, f5, f6⟩ := fm64
  have hQ : FP.Core.quantum FP.Core.b64 A B e = q := by
    unfold FP.Core.quantum
    rw [f3, f5, hL]
    show max (-1074) (L + e - ((53 : Int) - 1)) = q
    omega
  unfold FP.Core.roundRatio
  rw [if_neg hA, hQ]
  rfl
theorem se64 {M : Nat} {q : Int} (h1 : 4503599627370496 ≤ M) (h2 : M ≤ 2 * 4503599627370496) (hq : q + 1 ≤ 971) : ∃ (c : Nat) (r : Int), FP.Core.settle FP.Core.b64 false M q = .fin false c r ∧ (4503599627370496 ≤ c ∧ c < 2 * 4503599627370496) ∧ (q ≤ r ∧ r ≤ q + 1) := by
  obtain ⟨f1, f2, f3, f4, f5, f6⟩ := fm64
  unfold FP.Core.settle FP.Core.bound
  rw [f6, f4, f1]
  by_cases h : M < 2 * 4503599627370496
  · rw [if_pos h, if_pos (by omega)]; exact ⟨M, q, rfl, ⟨h1, h⟩, by omega, by omega⟩
  · rw [if_neg h, if_pos (by omega)]; exact ⟨4503599627370496, q + 1, rfl, ⟨by omega, by omega⟩, by omega, by omega⟩
/-- a whole number as a double / float -/
theorem of64 {a : Nat} (h0 : 0 < a) (h1 : a < 2147483648) : ∃ (c : Nat) (r : Int), FP.Core.roundRatio FP.Core.b64 false a 1 0 = .fin false c r ∧ (4503599627370496 ≤ c ∧ c < 2 * 4503599627370496) ∧ (-52 ≤ r ∧ r ≤ 31 - 52) := by
  obtain ⟨k, hk1, hk2, hk3⟩ : ∃ k, 2 ^ k ≤ a ∧ a < 2 ^ (k + 1) ∧ k ≤ 30 := by
    refine ⟨a.log2, Nat.log2_self_le (by omega), Nat.lt_log2_self, ?_⟩
    have := (Nat.log2_lt (n := a) (k := 31) (by omega)).mpr h1
    omega
  rw [rr64 (L := k) (q := (k : Int) - 52) (by omega) (lead1 hk1 hk2) (by omega) (by omega)]
  have hP : 2 ^ 52 = 4503599627370496 := by decide
  suffices h : 4503599627370496 ≤ FP.Core.nearest (a * 2 ^ (0 - ((k : Int) - 52)).toNat) (1 * 2 ^ (((k : Int) - 52) - 0).toNat) ∧ FP.Core.nearest (a * 2 ^ (0 - ((k : Int) - 52)).toNat) (1 * 2 ^ (((k : Int) - 52) - 0).toNat) ≤ 2 * 4503599627370496 by
    obtain ⟨c, r, e1, e2, e3⟩ := se64 (q := (k : Int) - 52) h.1 h.2 (by omega)
    exact ⟨c, r, e1, e2, by omega, by omega⟩
  by_cases hkp : k ≤ 52
  · obtain ⟨j, hj⟩ : ∃ j, j + k = 52 := ⟨52 - k, by omega⟩
    rw [show (0 - ((k : Int) - 52)).toNat = j by omega, show (((k : Int) - 52) - 0).toNat = 0 by omega]
    have e1 : 2 ^ 52 = 2 ^ k * 2 ^ j := by rw [← hj, Nat.add_comm j k, Nat.pow_add]
    have e2 : 2 ^ k * 2 ^ j ≤ a * 2 ^ j := Nat.mul_le_mul_right _ hk1
    have e3 : a * 2 ^ j < 2 ^ (k + 1) * 2 ^ j := Nat.mul_lt_mul_of_pos_right hk2 (Nat.two_pow_pos j)
    have e4 : 2 ^ (k + 1) * 2 ^ j = 2 * (2 ^ k * 2 ^ j) := by rw [Nat.pow_succ, Nat.mul_comm (2 ^ k) 2, Nat.mul_assoc]
    rw [show 1 * 2 ^ 0 = 1 from rfl, near_1]
    omega
  · obtain ⟨j, hj⟩ : ∃ j, 52 + j = k := ⟨k - 52, by omega⟩
    rw [show (0 - ((k : Int) - 52)).toNat = 0 by omega, show (((k : Int) - 52) - 0).toNat = j by omega]
    have hd : 0 < 2 ^ j := Nat.two_pow_pos j
    have e1 : 2 ^ k = 4503599627370496 * 2 ^ j := by rw [← hj, Nat.pow_add, hP]
    have e2 : 2 ^ (k + 1) = 2 * (4503599627370496 * 2 ^ j) := by rw [Nat.pow_succ, e1, Nat.mul_comm]
    have e3 : 4503599627370496 ≤ a / 2 ^ j := (Nat.le_div_iff_mul_le hd).mpr (by omega)
    have e4 : a / 2 ^ j < 2 * 4503599627370496 := (Nat.div_lt_iff_lt_mul hd).mpr (by rw [Nat.mul_assoc]; omega)
    have e5 := near_rg (n := a) hd
    rw [Nat.one_mul, Nat.pow_zero, Nat.mul_one]
    omega
/-- the quotient of two -/
theorem qu64 {A B : Nat} {e : Int} (hA : 4503599627370496 ≤ A ∧ A < 2 * 4503599627370496) (hB : 4503599627370496 ≤ B ∧ B < 2 * 4503599627370496) (he : -60 ≤ e ∧ e ≤ 60) : ∃ (c : Nat) (r : Int), FP.Core.roundRatio FP.Core.b64 false A B e = .fin false c r ∧ (4503599627370496 ≤ c ∧ c < 2 * 4503599627370496) ∧ (e - 52 - 1 ≤ r ∧ r ≤ e - 52 + 1) := by
  have hP : 2 ^ 52 = 4503599627370496 := by decide
  have hP1 : 2 ^ (52 + 1) = 2 * 4503599627370496 := by decide
  have hl := leadN (p := 52) (A := A) (B := B) (by omega) (by omega) (by omega) (by omega)
  have hB0 : 0 < B := by omega
  by_cases h : B ≤ A
  · rw [if_pos h] at hl
    rw [rr64 (L := 0) (q := e - 52) (by omega) hl (by omega) (by omega)]
    rw [show (e - (e - 52)).toNat = 52 by omega, show (e - 52 - e).toNat = 0 by omega, Nat.pow_zero, Nat.mul_one, hP]
    have e3 : 4503599627370496 ≤ A * 4503599627370496 / B := (Nat.le_div_iff_mul_le hB0).mpr (by omega)
    have e4 : A * 4503599627370496 / B < 2 * 4503599627370496 := (Nat.div_lt_iff_lt_mul hB0).mpr (by omega)
    have e5 := near_rg (n := A * 4503599627370496) hB0
    obtain ⟨c, r, q1, q2, q3⟩ := se64 (M := FP.Core.nearest (A * 4503599627370496) B) (q := e - 52) (by omega) (by omega) (by omega)
    exact ⟨c, r, q1, q2, by omega, by omega⟩
  · rw [if_neg h] at hl
    rw [rr64 (L := -1) (q := e - 52 - 1) (by omega) hl (by omega) (by omega)]
    rw [show (e - (e - 52 - 1)).toNat = 52 + 1 by omega, show (e - 52 - 1 - e).toNat = 0 by omega, Nat.pow_zero, Nat.mul_one, hP1]
    have e3 : 4503599627370496 ≤ A * (2 * 4503599627370496) / B := (Nat.le_div_iff_mul_le hB0).mpr (by omega)
    have e4 : A * (2 * 4503599627370496) / B < 2 * 4503599627370496 := (Nat.div_lt_iff_lt_mul hB0).mpr (by omega)
    have e5 := near_rg (n := A * (2 * 4503599627370496)) hB0
    obtain ⟨c, r, q1, q2, q3⟩ := se64 (M := FP.Core.nearest (A * (2 * 4503599627370496)) B) (q := e - 52 - 1) (by omega) (by omega) (by omega)
    exact ⟨c, r, q1, q2, by omega, by omega⟩
/-- what a normal datum is as bits -/
theorem up64 {c : Nat} {q : Int} (h1 : 4503599627370496 ≤ c) (h2 : c < 2 * 4503599627370496) (hq : -1074 ≤ q) : UInt64.ofNat (FP.Core.encode FP.Core.b64 (.fin false c q)) = d64 (q + 1075).toNat (c - 4503599627370496) := by
  rw [enc64 h1 h2 hq]; rfl
theorem val64 {c : Nat} {q : Int} (h1 : 4503599627370496 ≤ c) (h2 : c < 2 * 4503599627370496) (hq : -1074 ≤ q) (hx : q ≤ 971) : FP.Core.decode FP.Core.b64 (UInt64.ofNat (FP.Core.encode FP.Core.b64 (.fin false c q))).toNat = .fin false c q := by
  rw [up64 h1 h2 hq, dec64 (by omega) (by omega) (by omega), show 4503599627370496 + (c - 4503599627370496) = c by omega, show ((q + 1075).toNat : Int) - 1075 = q by omega]
/-- the double / float of exponent E and places T -/
def d32 (E T : Nat) : UInt32 := UInt32.ofNat (E * 8388608 + T)
theorem d32_n {E T : Nat} (hE : E < 256) (hT : T < 8388608) : (d32 E T).toNat = E * 8388608 + T := by
  unfold d32
  rw [UInt32.toNat_ofNat']
  exact Nat.mod_eq_of_lt (by omega)
theorem fm32 : FP.Core.Fmt.tails FP.Core.b32 = 8388608 ∧ FP.Core.Fmt.exps FP.Core.b32 = 256 ∧ FP.Core.Fmt.qmin FP.Core.b32 = -149 ∧ FP.Core.Fmt.qmax FP.Core.b32 = 104 ∧ FP.Core.b32.p = 24 ∧ 2 ^ FP.Core.b32.p = 2 * 8388608 := by decide
theorem dec32 {E T : Nat} (h1 : 1 ≤ E) (h2 : E + 1 < 256) (hT : T < 8388608) : FP.Core.decode FP.Core.b32 (d32 E T).toNat = .fin false (8388608 + T) ((E : Int) - 150) := by
  obtain ⟨f1, f2, f3, -, -, -⟩ := fm32
  rw [d32_n (by omega) hT]
  unfold FP.Core.decode FP.Core.fieldE FP.Core.fieldT FP.Core.fieldS
  rw [f1, f2, f3]
  have e1 : (E * 8388608 + T) / 8388608 % 256 = E := by omega
  have e2 : (E * 8388608 + T) % 8388608 = T := by omega
  have e3 : (E * 8388608 + T) / 8388608 / 256 % 2 = 0 := by omega
  rw [e1, e2, e3, if_neg (by omega), if_neg (by omega)]
  congr 1
  omega
theorem enc32 {c : Nat} {q : Int} (h1 : 8388608 ≤ c) (h2 : c < 2 * 8388608) (hq : -149 ≤ q) : FP.Core.encode FP.Core.b32 (.fin false c q) = (q + 150).toNat * 8388608 + (c - 8388608) := by
  obtain ⟨f1, f2, f3, -, -, -⟩ := fm32
  show (if c < FP.Core.Fmt.tails FP.Core.b32 then FP.Core.assemble FP.Core.b32 false 0 c else FP.Core.assemble FP.Core.b32 false ((q - FP.Core.Fmt.qmin FP.Core.b32).toNat + 1) (c - FP.Core.Fmt.tails FP.Core.b32)) = _
  rw [f1, if_neg (by omega)]
  unfold FP.Core.assemble
  rw [f1, f2, f3]
  have e : (q - -149).toNat + 1 = (q + 150).toNat := by omega
  rw [e]
  show (0 * 256 + (q + 150).toNat) * 8388608 + (c - 8388608) = _
  rw [Nat.zero_mul, Nat.zero_add]
theorem rr32 {A B : Nat} {e q L : Int} (hA : A ≠ 0) (hL : FP.Core.leading A B = L) (hq : L + e - 23 = q) (h1 : -149 ≤ q) : FP.Core.roundRatio FP.Core.b32 false A B e = FP.Core.settle FP.Core.b32 false (FP.Core.nearest (A * 2 ^ (e - q).toNat) (B * 2 ^ (q - e).toNat)) q := by
  obtain ⟨f1, f2, f3, f4, f5, f6⟩ := fm32
  have hQ : FP.Core.quantum FP.Core.b32 A B e = q := by
    unfold FP.Core.quantum
    rw [f3, f5, hL]
    show max (-149) (L + e - ((24 : Int) - 1)) = q
    omega
  unfold FP.Core.roundRatio
  rw [if_neg hA, hQ]
  rfl
theorem se32 {M : Nat} {q : Int} (h1 : 8388608 ≤ M) (h2 : M ≤ 2 * 8388608) (hq : q + 1 ≤ 104) : ∃ (c : Nat) (r : Int), FP.Core.settle FP.Core.b32 false M q = .fin false c r ∧ (8388608 ≤ c ∧ c < 2 * 8388608) ∧ (q ≤ r ∧ r ≤ q + 1) := by
  obtain ⟨f1, f2, f3, f4, f5, f6⟩ := fm32
  unfold FP.Core.settle FP.Core.bound
  rw [f6, f4, f1]
  by_cases h : M < 2 * 8388608
  · rw [if_pos h, if_pos (by omega)]; exact ⟨M, q, rfl, ⟨h1, h⟩, by omega, by omega⟩
  · rw [if_neg h, if_pos (by omega)]; exact ⟨8388608, q + 1, rfl, ⟨by omega, by omega⟩, by omega, by omega⟩
/-- a whole number as a double / float -/
theorem of32 {a : Nat} (h0 : 0 < a) (h1 : a < 2147483648) : ∃ (c : Nat) (r : Int), FP.Core.roundRatio FP.Core.b32 false a 1 0 = .fin false c r ∧ (8388608 ≤ c ∧ c < 2 * 8388608) ∧ (-23 ≤ r ∧ r ≤ 31 - 23) := by
  obtain ⟨k, hk1, hk2, hk3⟩ : ∃ k, 2 ^ k ≤ a ∧ a < 2 ^ (k + 1) ∧ k ≤ 30 := by
    refine ⟨a.log2, Nat.log2_self_le (by omega), Nat.lt_log2_self, ?_⟩
    have := (Nat.log2_lt (n := a) (k := 31) (by omega)).mpr h1
    omega
  rw [rr32 (L := k) (q := (k : Int) - 23) (by omega) (lead1 hk1 hk2) (by omega) (by omega)]
  have hP : 2 ^ 23 = 8388608 := by decide
  suffices h : 8388608 ≤ FP.Core.nearest (a * 2 ^ (0 - ((k : Int) - 23)).toNat) (1 * 2 ^ (((k : Int) - 23) - 0).toNat) ∧ FP.Core.nearest (a * 2 ^ (0 - ((k : Int) - 23)).toNat) (1 * 2 ^ (((k : Int) - 23) - 0).toNat) ≤ 2 * 8388608 by
    obtain ⟨c, r, e1, e2, e3⟩ := se32 (q := (k : Int) - 23) h.1 h.2 (by omega)
    exact ⟨c, r, e1, e2, by omega, by omega⟩
  by_cases hkp : k ≤ 23
  · obtain ⟨j, hj⟩ : ∃ j, j + k = 23 := ⟨23 - k, by omega⟩
    rw [show (0 - ((k : Int) - 23)).toNat = j by omega, show (((k : Int) - 23) - 0).toNat = 0 by omega]
    have e1 : 2 ^ 23 = 2 ^ k * 2 ^ j := by rw [← hj, Nat.add_comm j k, Nat.pow_add]
    have e2 : 2 ^ k * 2 ^ j ≤ a * 2 ^ j := Nat.mul_le_mul_right _ hk1
    have e3 : a * 2 ^ j < 2 ^ (k + 1) * 2 ^ j := Nat.mul_lt_mul_of_pos_right hk2 (Nat.two_pow_pos j)
    have e4 : 2 ^ (k + 1) * 2 ^ j = 2 * (2 ^ k * 2 ^ j) := by rw [Nat.pow_succ, Nat.mul_comm (2 ^ k) 2, Nat.mul_assoc]
    rw [show 1 * 2 ^ 0 = 1 from rfl, near_1]
    omega
  · obtain ⟨j, hj⟩ : ∃ j, 23 + j = k := ⟨k - 23, by omega⟩
    rw [show (0 - ((k : Int) - 23)).toNat = 0 by omega, show (((k : Int) - 23) - 0).toNat = j by omega]
    have hd : 0 < 2 ^ j := Nat.two_pow_pos j
    have e1 : 2 ^ k = 8388608 * 2 ^ j := by rw [← hj, Nat.pow_add, hP]
    have e2 : 2 ^ (k + 1) = 2 * (8388608 * 2 ^ j) := by rw [Nat.pow_succ, e1, Nat.mul_comm]
    have e3 : 8388608 ≤ a / 2 ^ j := (Nat.le_div_iff_mul_le hd).mpr (by omega)
    have e4 : a / 2 ^ j < 2 * 8388608 := (Nat.div_lt_iff_lt_mul hd).mpr (by rw [Nat.mul_assoc]; omega)
    have e5 := near_rg (n := a) hd
    rw [Nat.one_mul, Nat.pow_zero, Nat.mul_one]
    omega
/-- the quotient of two -/
theorem qu32 {A B : Nat} {e : Int} (hA : 8388608 ≤ A ∧ A < 2 * 8388608) (hB : 8388608 ≤ B ∧ B < 2 * 8388608) (he : -60 ≤ e ∧ e ≤ 60) : ∃ (c : Nat) (r : Int), FP.Core.roundRatio FP.Core.b32 false A B e = .fin false c r ∧ (8388608 ≤ c ∧ c < 2 * 8388608) ∧ (e - 23 - 1 ≤ r ∧ r ≤ e - 23 + 1) := by
  have hP : 2 ^ 23 = 8388608 := by decide
  have hP1 : 2 ^ (23 + 1) = 2 * 8388608 := by decide
  have hl := leadN (p := 23) (A := A) (B := B) (by omega) (by omega) (by omega) (by omega)
  have hB0 : 0 < B := by omega
  by_cases h : B ≤ A
  · rw [if_pos h] at hl
    rw [rr32 (L := 0) (q := e - 23) (by omega) hl (by omega) (by omega)]
    rw [show (e - (e - 23)).toNat = 23 by omega, show (e - 23 - e).toNat = 0 by omega, Nat.pow_zero, Nat.mul_one, hP]
    have e3 : 8388608 ≤ A * 8388608 / B := (Nat.le_div_iff_mul_le hB0).mpr (by omega)
    have e4 : A * 8388608 / B < 2 * 8388608 := (Nat.div_lt_iff_lt_mul hB0).mpr (by omega)
    have e5 := near_rg (n := A * 8388608) hB0
    obtain ⟨c, r, q1, q2, q3⟩ := se32 (M := FP.Core.nearest (A * 8388608) B) (q := e - 23) (by omega) (by omega) (by omega)
    exact ⟨c, r, q1, q2, by omega, by omega⟩
  · rw [if_neg h] at hl
    rw [rr32 (L := -1) (q := e - 23 - 1) (by omega) hl (by omega) (by omega)]
    rw [show (e - (e - 23 - 1)).toNat = 23 + 1 by omega, show (e - 23 - 1 - e).toNat = 0 by omega, Nat.pow_zero, Nat.mul_one, hP1]
    have e3 : 8388608 ≤ A * (2 * 8388608) / B := (Nat.le_div_iff_mul_le hB0).mpr (by omega)
    have e4 : A * (2 * 8388608) / B < 2 * 8388608 := (Nat.div_lt_iff_lt_mul hB0).mpr (by omega)
    have e5 := near_rg (n := A * (2 * 8388608)) hB0
    obtain ⟨c, r, q1, q2, q3⟩ := se32 (M := FP.Core.nearest (A * (2 * 8388608)) B) (q := e - 23 - 1) (by omega) (by omega) (by omega)
    exact ⟨c, r, q1, q2, by omega, by omega⟩
/-- what a normal datum is as bits -/
theorem up32 {c : Nat} {q : Int} (h1 : 8388608 ≤ c) (h2 : c < 2 * 8388608) (hq : -149 ≤ q) : UInt32.ofNat (FP.Core.encode FP.Core.b32 (.fin false c q)) = d32 (q + 150).toNat (c - 8388608) := by
  rw [enc32 h1 h2 hq]; rfl
theorem val32 {c : Nat} {q : Int} (h1 : 8388608 ≤ c) (h2 : c < 2 * 8388608) (hq : -149 ≤ q) (hx : q ≤ 104) : FP.Core.decode FP.Core.b32 (UInt32.ofNat (FP.Core.encode FP.Core.b32 (.fin false c q))).toNat = .fin false c q := by
  rw [up32 h1 h2 hq, dec32 (by omega) (by omega) (by omega), show 8388608 + (c - 8388608) = c by omega, show ((q + 150).toNat : Int) - 150 = q by omega]
