/-! ===== the places of a double between 1 and 2 ===== -/
theorem sub_1 {T : Nat} (hT : T < 4503599627370496) : FP.dsub (d64 1023 T) (d64 1023 0) = UInt64.ofNat (FP.Core.encode FP.Core.b64 (FP.Core.roundRatio FP.Core.b64 false T 1 (-52))) := by
  show UInt64.ofNat (FP.Core.encode FP.Core.b64 (FP.Core.round FP.Core.b64 (FP.Core.exactSum (FP.Core.decode FP.Core.b64 (d64 1023 T).toNat) (FP.Core.negate (FP.Core.decode FP.Core.b64 (d64 1023 0).toNat))))) = _
  rw [dec64 (by decide) (by decide) hT, dec64 (by decide) (by decide) (by decide)]
  unfold FP.Core.negate FP.Core.exactSum
  dsimp only
  have h1 : ((1023 : Nat) : Int) - 1075 = -52 := by decide
  rw [h1, Int.min_self]
  have hs : FP.Core.sumUnits false (4503599627370496 + T) (-52) (!false) (4503599627370496 + 0) (-52) (-52) = (T : Int) := by
    unfold FP.Core.sumUnits FP.Core.signed FP.Core.inUnits
    rw [if_neg (by decide), if_pos (by decide), show ((-52 : Int) - -52).toNat = 0 from rfl, Nat.pow_zero, Nat.mul_one, Nat.mul_one]
    omega
  rw [hs]
  have hg : FP.Core.sumSign false (!false) (T : Int) = false := by
    unfold FP.Core.sumSign
    by_cases z : (T : Int) = 0
    · rw [if_pos z]; rfl
    · rw [if_neg z]; exact decide_eq_false (by omega)
  rw [hg, show ((T : Int)).natAbs = T from rfl]
  rfl
/-- T's leading digit, and T as a double of it -/
theorem norm_T {T : Nat} (h0 : 0 < T) (hT : T < 4503599627370496) : ∃ k : Nat, k ≤ 51 ∧ (4503599627370496 ≤ T * 2 ^ (52 - k) ∧ T * 2 ^ (52 - k) < 9007199254740992) := by
  have q1 := Nat.log2_self_le (n := T) (by omega)
  have q2 := Nat.lt_log2_self (n := T)
  have q3 : T.log2 ≤ 51 := by
    have := (Nat.log2_lt (n := T) (k := 52) (by omega)).mpr (by omega)
    omega
  refine ⟨T.log2, q3, ?_⟩
  obtain ⟨j, hj⟩ : ∃ j, T.log2 + j = 52 := ⟨52 - T.log2, by omega⟩
  rw [show 52 - T.log2 = j by omega]
  have e1 : (4503599627370496 : Nat) = 2 ^ T.log2 * 2 ^ j := by rw [← Nat.pow_add, hj]
  have e2 : (9007199254740992 : Nat) = 2 ^ (T.log2 + 1) * 2 ^ j := by rw [← Nat.pow_add, show T.log2 + 1 + j = 53 by omega]
  exact ⟨by rw [e1]; exact Nat.mul_le_mul_right _ q1, by rw [e2]; exact Nat.mul_lt_mul_of_pos_right q2 (Nat.two_pow_pos j)⟩
theorem sub_0 : FP.dsub (d64 1023 0) (d64 1023 0) = 0 := by
  rw [sub_1 (by decide)]
  unfold FP.Core.roundRatio
  rw [if_pos rfl, fm64.2.2.1]
  exact enc64_0
theorem sub_T {T : Nat} (h0 : 0 < T) (hT : T < 4503599627370496) : ∃ k : Nat, k ≤ 51 ∧ (4503599627370496 ≤ T * 2 ^ (52 - k) ∧ T * 2 ^ (52 - k) < 9007199254740992) ∧ FP.dsub (d64 1023 T) (d64 1023 0) = d64 (k + 971) (T * 2 ^ (52 - k) - 4503599627370496) := by
  obtain ⟨k, k1, k2, k3⟩ := norm_T h0 hT
  refine ⟨k, k1, ⟨k2, k3⟩, ?_⟩
  rw [sub_1 hT, rr_up (j := 52 - k) (q := (k : Int) - 104) k2 k3 (by omega) (by omega) (by omega), up64 k2 (by omega) (by omega)]
  rw [show ((k : Int) - 104 + 1075).toNat = k + 971 by omega]
/-- times a power of two, and back to a whole number -/
theorem mul_T {T k K : Nat} (hk : k ≤ 51) (h1 : 4503599627370496 ≤ T * 2 ^ (52 - k)) (h2 : T * 2 ^ (52 - k) < 9007199254740992) (hK : 1000 ≤ K ∧ K ≤ 1075) : FP.dmul (d64 (k + 971) (T * 2 ^ (52 - k) - 4503599627370496)) (d64 K 0) = UInt64.ofNat (FP.Core.encode FP.Core.b64 (.fin false (T * 2 ^ (52 - k)) ((k : Int) + K - 1127))) := by
  show UInt64.ofNat (FP.Core.encode FP.Core.b64 (FP.Core.round FP.Core.b64 (FP.Core.exactProduct (FP.Core.decode FP.Core.b64 (d64 (k + 971) (T * 2 ^ (52 - k) - 4503599627370496)).toNat) (FP.Core.decode FP.Core.b64 (d64 K 0).toNat)))) = _
  rw [dec64 (by omega) (by omega) (by omega), dec64 (by omega) (by omega) (by decide)]
  unfold FP.Core.exactProduct
  dsimp only
  rw [show ((false : Bool) != false) = false from rfl]
  show UInt64.ofNat (FP.Core.encode FP.Core.b64 (FP.Core.roundRatio FP.Core.b64 false ((4503599627370496 + (T * 2 ^ (52 - k) - 4503599627370496)) * (4503599627370496 + 0)) 1 _)) = _
  rw [show 4503599627370496 + (T * 2 ^ (52 - k) - 4503599627370496) = T * 2 ^ (52 - k) by omega, show (4503599627370496 + 0 : Nat) = 2 ^ 52 from by decide, rr_ex (q := (k : Int) + K - 1127) h1 h2 (by omega) (by omega)]
theorem d2l_T {T k K : Nat} (hT : T < 4503599627370496) (hk : k ≤ 51) (h1 : 4503599627370496 ≤ T * 2 ^ (52 - k)) (h2 : T * 2 ^ (52 - k) < 9007199254740992) (hK : 1000 ≤ K ∧ K ≤ 1075) : FP.d2l (UInt64.ofNat (FP.Core.encode FP.Core.b64 (.fin false (T * 2 ^ (52 - k)) ((k : Int) + K - 1127)))) = Int64.ofInt ((T / 2 ^ (1075 - K) : Nat) : Int) := by
  show Int64.ofInt (FP.Core.toInt (-2 ^ 63) (2 ^ 63 - 1) (FP.Core.decode FP.Core.b64 (UInt64.ofNat (FP.Core.encode FP.Core.b64 (.fin false (T * 2 ^ (52 - k)) ((k : Int) + K - 1127)))).toNat)) = _
  rw [val64 h1 (by omega) (by omega) (by omega)]
  unfold FP.Core.toInt FP.Core.truncate FP.Core.signed
  dsimp only
  rw [if_neg (by decide), show ((k : Int) + K - 1127).toNat = 0 by omega, Nat.pow_zero, Nat.mul_one, show (-((k : Int) + K - 1127)).toNat = (52 - k) + (1075 - K) by omega, Nat.pow_add, ← Nat.div_div_eq_div_mul, Nat.mul_div_left _ (Nat.two_pow_pos _)]
  congr 1
  have h3 : T / 2 ^ (1075 - K) ≤ T := Nat.div_le_self _ _
  generalize T / 2 ^ (1075 - K) = z at h3
  have e1 : (2 : Int) ^ 63 = 9223372036854775808 := by decide
  rw [e1]
  omega
/-- the places, as a long -/
theorem frac_T {T K : Nat} (hT : T < 4503599627370496) (hK : 1000 ≤ K ∧ K ≤ 1075) : vf_n64 (FP.dsub (d64 1023 T) (d64 1023 0)) ∧ vf_n64 (FP.dmul (FP.dsub (d64 1023 T) (d64 1023 0)) (d64 K 0)) ∧ FP.d2l (FP.dmul (FP.dsub (d64 1023 T) (d64 1023 0)) (d64 K 0)) = Int64.ofInt ((T / 2 ^ (1075 - K) : Nat) : Int) := by
  by_cases z : T = 0
  · subst z
    rw [sub_0]
    have hm : FP.dmul 0 (d64 K 0) = 0 := by
      show UInt64.ofNat (FP.Core.encode FP.Core.b64 (FP.Core.round FP.Core.b64 (FP.Core.exactProduct (FP.Core.decode FP.Core.b64 ((0 : UInt64)).toNat) (FP.Core.decode FP.Core.b64 (d64 K 0).toNat)))) = _
      rw [dec64_0, dec64 (by omega) (by omega) (by decide)]
      unfold FP.Core.exactProduct
      dsimp only
      rw [show ((false : Bool) != false) = false from rfl, Nat.zero_mul]
      show UInt64.ofNat (FP.Core.encode FP.Core.b64 (FP.Core.roundRatio FP.Core.b64 false 0 1 _)) = _
      unfold FP.Core.roundRatio
      rw [if_pos rfl, fm64.2.2.1]
      exact enc64_0
    rw [hm]
    refine ⟨nn64_0, nn64_0, ?_⟩
    rw [Nat.zero_div]
    decide +kernel
  · obtain ⟨k, k1, ⟨k2, k3⟩, k4⟩ := sub_T (T := T) (by omega) hT
    rw [k4, mul_T k1 k2 k3 hK]
    refine ⟨nn64 (by omega) (by omega), ?_, d2l_T hT k1 k2 k3 hK⟩
    rw [up64 k2 (by omega) (by omega)]
    exact nn64 (by omega) (by omega)
/-- a float as a double -/
theorem f2d_0 : FP.f2d 0 = 0 := by decide +kernel
theorem f2d_T {E T : Nat} (hE : 1 ≤ E ∧ E ≤ 254) (hT : T < 8388608) : FP.f2d (d32 E T) = d64 (E + 896) (T * 536870912) := by
  have hd := dec32 hE.1 (by omega) hT
  unfold FP.f2d
  have hn : FP.Core.fIsNaN (d32 E T) = false := by
    unfold FP.Core.fIsNaN FP.Core.isNaN
    rw [hd]; rfl
  rw [hn, if_neg (by decide)]
  show UInt64.ofNat (FP.Core.encode FP.Core.b64 (FP.Core.round FP.Core.b64 (FP.Core.decode FP.Core.b32 (d32 E T).toNat))) = _
  rw [hd]
  show UInt64.ofNat (FP.Core.encode FP.Core.b64 (FP.Core.roundRatio FP.Core.b64 false (8388608 + T) 1 _)) = _
  have h29 : 2 ^ 29 = 536870912 := by decide
  rw [rr_up (j := 29) (q := (E : Int) - 179) (by omega) (by omega) (by decide) (by omega) (by omega), up64 (by omega) (by omega) (by omega), h29]
  rw [show ((E : Int) - 179 + 1075).toNat = E + 896 by omega, show (8388608 + T) * 536870912 - 4503599627370496 = T * 536870912 by omega]
theorem one_d : (0x3ff0000000000000 : UInt64) = d64 1023 0 := by decide +kernel
theorem two_d : (0x4000000000000000 : UInt64) = d64 1024 0 := by decide +kernel
theorem sh_52 : (1 : Int64) <<< ((Int32.ofInt 52).toInt64 &&& 63) = 4503599627370496 := by decide +kernel
theorem sh_23 : (1 : Int64) <<< ((Int32.ofInt 23).toInt64 &&& 63) = 8388608 := by decide +kernel
theorem l2d_52 : FP.l2d ((1 : Int64) <<< ((Int32.ofInt 52).toInt64 &&& 63)) = d64 1075 0 := by rw [sh_52]; decide +kernel
theorem l2d_23 : FP.l2d ((1 : Int64) <<< ((Int32.ofInt 23).toInt64 &&& 63)) = d64 1046 0 := by rw [sh_23]; decide +kernel
set_option maxRecDepth 100000 in
theorem shl_52 : (List.range 1100).all (fun E => decide (Int64.ofInt (E : Int) <<< ((Int32.ofInt 52).toInt64 &&& 63) = Int64.ofInt ((E * 4503599627370496 : Nat) : Int))) = true := by decide +kernel
set_option maxRecDepth 100000 in
theorem shl_23 : (List.range 256).all (fun E => decide (Int64.ofInt (E : Int) <<< ((Int32.ofInt 23).toInt64 &&& 63) = Int64.ofInt ((E * 8388608 : Nat) : Int))) = true := by decide +kernel
theorem j_add (a b : Int) : Int64.ofInt a + Int64.ofInt b = Int64.ofInt (a + b) := (Int64.ofInt_add a b).symm
theorem j_sub (a b : Int) : Int64.ofInt a - Int64.ofInt b = Int64.ofInt (a - b) := (Int64.ofInt_sub a b).symm
theorem j_nat (n : Nat) : Int64.ofInt (n : Int) = (UInt64.ofNat n).toInt64 := by
  show Int64.ofBitVec (BitVec.ofInt 64 (n : Int)) = Int64.ofBitVec (BitVec.ofNat 64 n)
  rw [BitVec.ofInt_natCast]
theorem i_nat (n : Nat) : Int32.ofInt (n : Int) = (UInt32.ofNat n).toInt32 := by
  show Int32.ofBitVec (BitVec.ofInt 32 (n : Int)) = Int32.ofBitVec (BitVec.ofNat 32 n)
  rw [BitVec.ofInt_natCast]
theorem i2j_eq {i : Int} (h : rg i) : i2j i = Int64.ofInt i := by
  apply Int64.toInt_inj.mp
  unfold i2j
  rw [Int32.toInt_toInt64, Int64.toInt_ofInt_of_le (by omega) (by omega)]
  exact wr_id h
theorem bits_d {E T : Nat} (hE : E < 1100) : Int64.ofInt (E : Int) <<< ((Int32.ofInt 52).toInt64 &&& 63) + Int64.ofInt (T : Int) = (d64 E T).toInt64 := by
  have h := List.all_eq_true.mp shl_52 E (List.mem_range.mpr hE)
  rw [of_decide_eq_true h, j_add]
  unfold d64
  rw [← j_nat, Int.natCast_add]
theorem bits_f {E T : Nat} (hE : E < 255) (hT : T < 8388608) : Int64.ofInt (E : Int) <<< ((Int32.ofInt 23).toInt64 &&& 63) + Int64.ofInt (T : Int) = i2j ((d32 E T).toInt32.toInt) := by
  have h := List.all_eq_true.mp shl_23 E (List.mem_range.mpr (by omega))
  rw [of_decide_eq_true h, j_add]
  have e : (d32 E T).toInt32.toInt = ((E * 8388608 + T : Nat) : Int) := by
    unfold d32
    rw [← i_nat]
    exact wr_id ⟨by omega, by omega⟩
  rw [e, i2j_eq ⟨by omega, by omega⟩, Int.natCast_add]
