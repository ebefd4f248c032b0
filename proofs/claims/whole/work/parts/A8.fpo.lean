/-! ===== the operations on such doubles ===== -/
theorem rr_ex {c j : Nat} {e q : Int} (h1 : 4503599627370496 ≤ c) (h2 : c < 9007199254740992) (he : e + j = q) (hq : -1074 ≤ q ∧ q + 1 ≤ 971) : FP.Core.roundRatio FP.Core.b64 false (c * 2 ^ j) 1 e = .fin false c q := by
  obtain ⟨f1, f2, f3, f4, f5, f6⟩ := fm64
  have hj := Nat.two_pow_pos j
  have hp : 2 ^ (52 + j) = 4503599627370496 * 2 ^ j := by rw [Nat.pow_add]
  have hp1 : 2 ^ (52 + j + 1) = 9007199254740992 * 2 ^ j := by rw [Nat.pow_succ, hp]; omega
  have k1 : 4503599627370496 * 2 ^ j ≤ c * 2 ^ j := Nat.mul_le_mul_right _ h1
  have k2 : c * 2 ^ j < 9007199254740992 * 2 ^ j := Nat.mul_lt_mul_of_pos_right h2 hj
  rw [rr64 (L := ((52 + j : Nat) : Int)) (q := q) (by omega) (lead1 (by rw [hp]; exact k1) (by rw [hp1]; exact k2)) (by omega) hq.1]
  rw [show (e - q).toNat = 0 by omega, show (q - e).toNat = j by omega, Nat.pow_zero, Nat.mul_one, Nat.one_mul, near_ex c hj]
  unfold FP.Core.settle FP.Core.bound
  rw [f6, f4, if_pos (by omega), if_pos (by omega)]
theorem rr_up {c j : Nat} {e q : Int} (h1 : 4503599627370496 ≤ c * 2 ^ j) (h2 : c * 2 ^ j < 9007199254740992) (hj : j ≤ 52) (he : e - j = q) (hq : -1074 ≤ q ∧ q + 1 ≤ 971) : FP.Core.roundRatio FP.Core.b64 false c 1 e = .fin false (c * 2 ^ j) q := by
  obtain ⟨f1, f2, f3, f4, f5, f6⟩ := fm64
  have hjp := Nat.two_pow_pos j
  obtain ⟨k, hk⟩ : ∃ k, k + j = 52 := ⟨52 - j, by omega⟩
  have e1 : (4503599627370496 : Nat) = 2 ^ k * 2 ^ j := by rw [← Nat.pow_add, hk]
  have e2 : (9007199254740992 : Nat) = 2 ^ (k + 1) * 2 ^ j := by rw [← Nat.pow_add, show k + 1 + j = 53 by omega]
  have k1 : 2 ^ k ≤ c := Nat.le_of_mul_le_mul_right (by rw [← e1]; exact h1) hjp
  have k2 : c < 2 ^ (k + 1) := Nat.lt_of_mul_lt_mul_right (a := 2 ^ j) (by rw [← e2]; exact h2)
  have hc0 : c ≠ 0 := by have := Nat.two_pow_pos k; omega
  rw [rr64 (L := (k : Int)) (q := q) hc0 (lead1 k1 k2) (by omega) hq.1]
  rw [show (e - q).toNat = j by omega, show (q - e).toNat = 0 by omega, Nat.pow_zero, Nat.mul_one, near_1]
  unfold FP.Core.settle FP.Core.bound
  rw [f6, f4, if_pos (by omega), if_pos (by omega)]
theorem i2d_v {n : Int} (h0 : 0 < n) (h1 : n < 2147483648) : ∃ (c : Nat) (r : Int), FP.Core.decode FP.Core.b64 (FP.i2d (Int32.ofInt n)).toNat = .fin false c r ∧ (4503599627370496 ≤ c ∧ c < 2 * 4503599627370496) ∧ (-52 ≤ r ∧ r ≤ -21) := by
  obtain ⟨c, r, e1, e2, e3⟩ := of64 (a := n.natAbs) (by omega) (by omega)
  refine ⟨c, r, ?_, e2, by omega, by omega⟩
  have hw : (Int32.ofInt n).toInt = n := wr_id ⟨by omega, by omega⟩
  show FP.Core.decode FP.Core.b64 (UInt64.ofNat (FP.Core.encode FP.Core.b64 (FP.Core.round FP.Core.b64 (FP.Core.ofInt (Int32.ofInt n).toInt)))).toNat = _
  rw [hw]
  have hr : FP.Core.round FP.Core.b64 (FP.Core.ofInt n) = .fin false c r := by
    unfold FP.Core.ofInt
    rw [show decide (n < 0) = false from decide_eq_false (by omega)]
    exact e1
  rw [hr]
  exact val64 e2.1 e2.2 (by omega) (by omega)
theorem i2f_v {n : Int} (h0 : 0 < n) (h1 : n < 2147483648) : ∃ (c : Nat) (r : Int), FP.Core.decode FP.Core.b32 (FP.i2f (Int32.ofInt n)).toNat = .fin false c r ∧ (8388608 ≤ c ∧ c < 2 * 8388608) ∧ (-23 ≤ r ∧ r ≤ 8) := by
  obtain ⟨c, r, e1, e2, e3⟩ := of32 (a := n.natAbs) (by omega) (by omega)
  refine ⟨c, r, ?_, e2, by omega, by omega⟩
  have hw : (Int32.ofInt n).toInt = n := wr_id ⟨by omega, by omega⟩
  show FP.Core.decode FP.Core.b32 (UInt32.ofNat (FP.Core.encode FP.Core.b32 (FP.Core.round FP.Core.b32 (FP.Core.ofInt (Int32.ofInt n).toInt)))).toNat = _
  rw [hw]
  have hr : FP.Core.round FP.Core.b32 (FP.Core.ofInt n) = .fin false c r := by
    unfold FP.Core.ofInt
    rw [show decide (n < 0) = false from decide_eq_false (by omega)]
    exact e1
  rw [hr]
  exact val32 e2.1 e2.2 (by omega) (by omega)
/-- what a share is -/
def Dn (x : UInt64) : Prop := x = 0 ∨ ∃ E T : Nat, x = d64 E T ∧ (960 ≤ E ∧ E ≤ 1086) ∧ T < 4503599627370496
def Fn32 (x : UInt32) : Prop := x = 0 ∨ ∃ E T : Nat, x = d32 E T ∧ (64 ≤ E ∧ E ≤ 190) ∧ T < 8388608
theorem dec64_0 : FP.Core.decode FP.Core.b64 ((0 : UInt64)).toNat = .fin false 0 (-1074) := by decide +kernel
theorem dec32_0 : FP.Core.decode FP.Core.b32 ((0 : UInt32)).toNat = .fin false 0 (-149) := by decide +kernel
theorem enc64_0 : UInt64.ofNat (FP.Core.encode FP.Core.b64 (.fin false 0 (-1074))) = 0 := by decide +kernel
theorem enc32_0 : UInt32.ofNat (FP.Core.encode FP.Core.b32 (.fin false 0 (-149))) = 0 := by decide +kernel
theorem i2d_0 : FP.i2d (Int32.ofInt 0) = 0 := by decide +kernel
theorem i2f_0 : FP.i2f (Int32.ofInt 0) = 0 := by decide +kernel
theorem good_sh {a b : Int} (ha : 0 ≤ a ∧ a < 2147483648) (hb : 0 < b ∧ b < 2147483648) : Dn (FP.ddiv (FP.i2d (Int32.ofInt a)) (FP.i2d (Int32.ofInt b))) := by
  obtain ⟨d, r, k1, k2, k3⟩ := i2d_v hb.1 hb.2
  by_cases z : a = 0
  · left
    subst z
    show UInt64.ofNat (FP.Core.encode FP.Core.b64 (FP.Core.quotient FP.Core.b64 (FP.Core.decode FP.Core.b64 _) (FP.Core.decode FP.Core.b64 _))) = 0
    rw [k1, i2d_0, dec64_0]
    unfold FP.Core.quotient
    dsimp only
    rw [if_neg (by omega)]
    unfold FP.Core.roundRatio
    rw [if_pos rfl, fm64.2.2.1]
    exact enc64_0
  · obtain ⟨c, q, e1, e2, e3⟩ := i2d_v (n := a) (by omega) ha.2
    obtain ⟨m, s, q1, q2, q3⟩ := qu64 e2 k2 (e := q - r) (by omega)
    right
    refine ⟨(s + 1075).toNat, m - 4503599627370496, ?_, by omega, by omega⟩
    show UInt64.ofNat (FP.Core.encode FP.Core.b64 (FP.Core.quotient FP.Core.b64 (FP.Core.decode FP.Core.b64 _) (FP.Core.decode FP.Core.b64 _))) = _
    rw [k1, e1]
    unfold FP.Core.quotient
    dsimp only
    rw [if_neg (by omega), show ((false : Bool) != false) = false from rfl, q1]
    exact up64 q2.1 q2.2 (by omega)
theorem mean_sh {a b : Int} (ha : 0 ≤ a ∧ a < 2147483648) (hb : 0 < b ∧ b < 2147483648) : Fn32 (FP.fdiv (FP.i2f (Int32.ofInt a)) (FP.i2f (Int32.ofInt b))) := by
  obtain ⟨d, r, k1, k2, k3⟩ := i2f_v hb.1 hb.2
  by_cases z : a = 0
  · left
    subst z
    show UInt32.ofNat (FP.Core.encode FP.Core.b32 (FP.Core.quotient FP.Core.b32 (FP.Core.decode FP.Core.b32 _) (FP.Core.decode FP.Core.b32 _))) = 0
    rw [k1, i2f_0, dec32_0]
    unfold FP.Core.quotient
    dsimp only
    rw [if_neg (by omega)]
    unfold FP.Core.roundRatio
    rw [if_pos rfl, fm32.2.2.1]
    exact enc32_0
  · obtain ⟨c, q, e1, e2, e3⟩ := i2f_v (n := a) (by omega) ha.2
    obtain ⟨m, s, q1, q2, q3⟩ := qu32 e2 k2 (e := q - r) (by omega)
    right
    refine ⟨(s + 150).toNat, m - 8388608, ?_, by omega, by omega⟩
    show UInt32.ofNat (FP.Core.encode FP.Core.b32 (FP.Core.quotient FP.Core.b32 (FP.Core.decode FP.Core.b32 _) (FP.Core.decode FP.Core.b32 _))) = _
    rw [k1, e1]
    unfold FP.Core.quotient
    dsimp only
    rw [if_neg (by omega), show ((false : Bool) != false) = false from rfl, q1]
    exact up32 q2.1 q2.2 (by omega)
/-! none of them is a NaN -/
theorem nn64 {E T : Nat} (hE : E ≤ 2046) (hT : T < 4503599627370496) : vf_n64 (d64 E T) := by
  unfold vf_n64
  rw [UInt64.le_iff_toNat_le, UInt64.toNat_and, d64_n (by omega) hT]
  refine Nat.le_trans Nat.and_le_left ?_
  show E * 4503599627370496 + T ≤ 9218868437227405312
  omega
theorem nn32 {E T : Nat} (hE : E ≤ 254) (hT : T < 8388608) : vf_n32 (d32 E T) := by
  unfold vf_n32
  rw [UInt32.le_iff_toNat_le, UInt32.toNat_and, d32_n (by omega) hT]
  refine Nat.le_trans Nat.and_le_left ?_
  show E * 8388608 + T ≤ 2139095040
  omega
theorem nn64_0 : vf_n64 0 := by unfold vf_n64; decide
theorem nn32_0 : vf_n32 0 := by unfold vf_n32; decide
theorem Dn.nn {x : UInt64} (h : Dn x) : vf_n64 x := by
  rcases h with rfl | ⟨E, T, rfl, h1, h2⟩
  · exact nn64_0
  · exact nn64 (by omega) h2
theorem Fn32.nn {x : UInt32} (h : Fn32 x) : vf_n32 x := by
  rcases h with rfl | ⟨E, T, rfl, h1, h2⟩
  · exact nn32_0
  · exact nn32 (by omega) h2
theorem cmp_lt {a b : Int} (h : a < b) : compare a b = .lt := by
  show compareOfLessAndEq a b = .lt
  unfold compareOfLessAndEq; rw [if_pos h]
theorem cmp_eq (a : Int) : compare a a = .eq := by
  show compareOfLessAndEq a a = .eq
  unfold compareOfLessAndEq; rw [if_neg (by omega), if_pos rfl]
theorem cmp_gt {a b : Int} (h : b < a) : compare a b = .gt := by
  show compareOfLessAndEq a b = .gt
  unfold compareOfLessAndEq; rw [if_neg (by omega), if_neg (by omega)]
theorem Dn.same {x : UInt64} (h : Dn x) : FP.dcmp x x = some .eq := by
  show FP.Core.order (FP.Core.decode FP.Core.b64 x.toNat) (FP.Core.decode FP.Core.b64 x.toNat) = some .eq
  rcases h with rfl | ⟨E, T, rfl, h1, h2⟩
  · rw [dec64_0]; unfold FP.Core.order; dsimp only; rw [cmp_eq]
  · rw [dec64 (by omega) (by omega) h2]; unfold FP.Core.order; dsimp only; rw [cmp_eq]
theorem Fn32.same {x : UInt32} (h : Fn32 x) : FP.fcmp x x = some .eq := by
  show FP.Core.order (FP.Core.decode FP.Core.b32 x.toNat) (FP.Core.decode FP.Core.b32 x.toNat) = some .eq
  rcases h with rfl | ⟨E, T, rfl, h1, h2⟩
  · rw [dec32_0]; unfold FP.Core.order; dsimp only; rw [cmp_eq]
  · rw [dec32 (by omega) (by omega) h2]; unfold FP.Core.order; dsimp only; rw [cmp_eq]
theorem cm_0 {E T : Nat} (hE : 1 ≤ E ∧ E ≤ 2046) (hT : T < 4503599627370496) : FP.dcmp (d64 E T) 0 = some .gt := by
  show FP.Core.order (FP.Core.decode FP.Core.b64 (d64 E T).toNat) (FP.Core.decode FP.Core.b64 ((0 : UInt64)).toNat) = some .gt
  rw [dec64 hE.1 (by omega) hT, dec64_0]
  unfold FP.Core.order
  dsimp only
  rw [cmp_gt]
  unfold FP.Core.signed FP.Core.inUnits
  have := Nat.mul_pos (show 0 < 4503599627370496 + T by omega) (Nat.two_pow_pos ((E : Int) - 1075 - min ((E : Int) - 1075) (-1074)).toNat)
  rw [Nat.zero_mul, if_neg (by decide), if_neg (by decide)]
  omega
theorem cm_k {E T K : Nat} (hE : 1 ≤ E ∧ E ≤ 2046) (hT : T < 4503599627370496) (hK : 1 ≤ K ∧ K ≤ 2046) : (E < K → FP.dcmp (d64 E T) (d64 K 0) = some .lt) ∧ (K ≤ E → FP.dcmp (d64 E T) (d64 K 0) = some .gt ∨ FP.dcmp (d64 E T) (d64 K 0) = some .eq) := by
  have h0 : FP.dcmp (d64 E T) (d64 K 0) = FP.Core.order (FP.Core.decode FP.Core.b64 (d64 E T).toNat) (FP.Core.decode FP.Core.b64 (d64 K 0).toNat) := rfl
  rw [h0, dec64 hE.1 (by omega) hT, dec64 hK.1 (by omega) (by decide)]
  unfold FP.Core.order
  dsimp only
  unfold FP.Core.signed FP.Core.inUnits
  rw [if_neg (by decide), if_neg (by decide)]
  constructor
  · intro h
    rw [show min ((E : Int) - 1075) ((K : Int) - 1075) = (E : Int) - 1075 by omega, Int.sub_self, show ((0 : Int)).toNat = 0 from rfl, Nat.pow_zero, Nat.mul_one]
    obtain ⟨j, hj⟩ : ∃ j, ((K : Int) - 1075 - ((E : Int) - 1075)).toNat = j + 1 := ⟨K - E - 1, by omega⟩
    rw [hj, cmp_lt]
    have := Nat.two_pow_pos j
    have h2 : (4503599627370496 + 0) * 2 ^ (j + 1) = 9007199254740992 * 2 ^ j := by rw [Nat.pow_succ]; omega
    rw [h2]
    omega
  · intro h
    rw [show min ((E : Int) - 1075) ((K : Int) - 1075) = (K : Int) - 1075 by omega, Int.sub_self, show ((0 : Int)).toNat = 0 from rfl, Nat.pow_zero, Nat.mul_one]
    have h1 := Nat.two_pow_pos ((E : Int) - 1075 - ((K : Int) - 1075)).toNat
    generalize 2 ^ ((E : Int) - 1075 - ((K : Int) - 1075)).toNat = z at h1
    have h2 : 4503599627370496 + T ≤ (4503599627370496 + T) * z := Nat.le_mul_of_pos_right _ h1
    by_cases e : (4503599627370496 + T) * z = 4503599627370496 + 0
    · right; rw [e, cmp_eq]
    · left; rw [cmp_gt]; omega
theorem mul_2 {E T : Nat} (hE : 1 ≤ E ∧ E ≤ 2000) (hT : T < 4503599627370496) : FP.dmul (d64 E T) (d64 1024 0) = d64 (E + 1) T := by
  show UInt64.ofNat (FP.Core.encode FP.Core.b64 (FP.Core.round FP.Core.b64 (FP.Core.exactProduct (FP.Core.decode FP.Core.b64 (d64 E T).toNat) (FP.Core.decode FP.Core.b64 (d64 1024 0).toNat)))) = _
  rw [dec64 hE.1 (by omega) hT, dec64 (by decide) (by decide) (by decide)]
  unfold FP.Core.exactProduct
  dsimp only
  rw [show ((false : Bool) != false) = false from rfl]
  show UInt64.ofNat (FP.Core.encode FP.Core.b64 (FP.Core.roundRatio FP.Core.b64 false ((4503599627370496 + T) * (4503599627370496 + 0)) 1 _)) = _
  rw [show (4503599627370496 + 0 : Nat) = 2 ^ 52 from by decide, rr_ex (q := (E : Int) - 1074) (by omega) (by omega) (by omega) (by omega), up64 (by omega) (by omega) (by omega)]
  rw [show ((E : Int) - 1074 + 1075).toNat = E + 1 by omega, show 4503599627370496 + T - 4503599627370496 = T by omega]
theorem div_2 {E T : Nat} (hE : 2 ≤ E ∧ E ≤ 2000) (hT : T < 4503599627370496) : FP.ddiv (d64 E T) (d64 1024 0) = d64 (E - 1) T := by
  obtain ⟨f1, f2, f3, f4, f5, f6⟩ := fm64
  show UInt64.ofNat (FP.Core.encode FP.Core.b64 (FP.Core.quotient FP.Core.b64 (FP.Core.decode FP.Core.b64 (d64 E T).toNat) (FP.Core.decode FP.Core.b64 (d64 1024 0).toNat))) = _
  rw [dec64 (by omega) (by omega) hT, dec64 (by decide) (by decide) (by decide)]
  unfold FP.Core.quotient
  dsimp only
  rw [if_neg (by decide), show ((false : Bool) != false) = false from rfl]
  have hl := leadN (p := 52) (A := 4503599627370496 + T) (B := 4503599627370496 + 0) (by omega) (by omega) (by omega) (by omega)
  rw [if_pos (by omega)] at hl
  rw [rr64 (q := (E : Int) - 1076) (by omega) hl (by omega) (by omega)]
  rw [show ((E : Int) - 1075 - (((1024 : Nat) : Int) - 1075) - ((E : Int) - 1076)).toNat = 52 by omega, show ((E : Int) - 1076 - ((E : Int) - 1075 - (((1024 : Nat) : Int) - 1075))).toNat = 0 by omega, Nat.pow_zero, Nat.mul_one, show (4503599627370496 + 0 : Nat) = 2 ^ 52 from by decide, near_ex _ (by decide)]
  unfold FP.Core.settle FP.Core.bound
  rw [f6, f4, if_pos (by omega), if_pos (by omega), up64 (by omega) (by omega) (by omega)]
  rw [show ((E : Int) - 1076 + 1075).toNat = E - 1 by omega, show 4503599627370496 + T - 4503599627370496 = T by omega]
