/-! Longs as sets of bits -/
theorem j_bv {x : Nat} (hx : x < 18446744073709551616) : (Int64.ofNat x).toBitVec.toNat = x := by
  show (BitVec.ofNat 64 x).toNat = x
  rw [BitVec.toNat_ofNat]
  exact Nat.mod_eq_of_lt hx
theorem j_or {x y : Nat} (hx : x < 18446744073709551616) (hy : y < 18446744073709551616) : rx_j_or x y = x ||| y := by
  show (Int64.ofNat x ||| Int64.ofNat y).toBitVec.toNat = x ||| y
  rw [Int64.toBitVec_or, BitVec.toNat_or, j_bv hx, j_bv hy]
theorem j_and {x y : Nat} (hx : x < 18446744073709551616) (hy : y < 18446744073709551616) : rx_j_and x y = x &&& y := by
  show (Int64.ofNat x &&& Int64.ofNat y).toBitVec.toNat = x &&& y
  rw [Int64.toBitVec_and, BitVec.toNat_and, j_bv hx, j_bv hy]
theorem j_xor {x y : Nat} (hx : x < 18446744073709551616) (hy : y < 18446744073709551616) : rx_j_xor x y = x ^^^ y := by
  show (Int64.ofNat x ^^^ Int64.ofNat y).toBitVec.toNat = x ^^^ y
  rw [Int64.toBitVec_xor, BitVec.toNat_xor, j_bv hx, j_bv hy]
theorem j_shl1 {k : Nat} (hk : k < 64) : rx_j_shl 1 k = 2 ^ k := by
  have h : ∀ k, k < 64 → rx_j_shl 1 k = 2 ^ k := by decide +kernel
  exact h k hk
theorem j_msk {k : Nat} (hk : k < 64) : (Int32.ofNat k).toInt64 &&& 63 = Int64.ofNat k := by
  have h : ∀ k, k < 64 → (Int32.ofNat k).toInt64 &&& 63 = Int64.ofNat k := by decide +kernel
  exact h k hk
theorem j_shr {x k : Nat} (hx : x < 9223372036854775808) (hk : k < 64) : rx_j_shr x k = x / 2 ^ k := by
  show (Int64.ofNat x >>> ((Int32.ofNat k).toInt64 &&& 63)).toBitVec.toNat = x / 2 ^ k
  rw [j_msk hk, Int64.toBitVec_shiftRight]
  have e : (Int64.ofNat k).toBitVec.smod 64 = BitVec.ofNat 64 k := by
    have h : ∀ k, k < 64 → (Int64.ofNat k).toBitVec.smod 64 = BitVec.ofNat 64 k := by decide +kernel
    exact h k hk
  rw [e]
  show ((Int64.ofNat x).toBitVec.sshiftRight (BitVec.ofNat 64 k).toNat).toNat = x / 2 ^ k
  rw [BitVec.toNat_ofNat, Nat.mod_eq_of_lt (show k < 2 ^ 64 by omega)]
  have hm : (Int64.ofNat x).toBitVec.msb = false := by
    show (BitVec.ofNat 64 x).msb = false
    rw [BitVec.msb_eq_decide, BitVec.toNat_ofNat, Nat.mod_eq_of_lt (show x < 2 ^ 64 by omega)]
    exact decide_eq_false (by show ¬ (2 ^ (64 - 1) ≤ x); omega)
  rw [BitVec.sshiftRight_eq_of_msb_false hm, BitVec.toNat_ushiftRight, j_bv (by omega), Nat.shiftRight_eq_div_pow]
theorem j_cmp {x y : Nat} (hx : x < 18446744073709551616) (hy : y < 18446744073709551616) : rx_f_lcmp x y = 0 ↔ x = y := by
  show rx_i32 (lg_cmp (Int64.ofNat x) (Int64.ofNat y)) = 0 ↔ x = y
  have key : Int64.ofNat x = Int64.ofNat y ↔ x = y := ⟨fun h => by rw [← j_bv hx, ← j_bv hy, h], fun h => by rw [h]⟩
  unfold lg_cmp
  by_cases h1 : Int64.ofNat x > Int64.ofNat y
  · rw [if_pos h1]
    refine ⟨fun z => absurd z (by decide), fun z => ?_⟩
    rw [z] at h1
    exact (Int64.lt_irrefl h1).elim
  · rw [if_neg h1]
    by_cases h2 : Int64.ofNat x = Int64.ofNat y
    · rw [if_pos h2]
      exact ⟨fun _ => key.mp h2, fun _ => by decide⟩
    · rw [if_neg h2]
      exact ⟨fun z => absurd z (by decide), fun z => absurd (key.mpr z) h2⟩
/-- a bit of a long -/
theorem j_bit {x k : Nat} (hx : x < 9223372036854775808) (hk : k < 64) : rx_f_lcmp (rx_j_and (rx_j_shr x k) 1) 1 = 0 ↔ x.testBit k = true := by
  have h1 : x / 2 ^ k < 18446744073709551616 := Nat.lt_of_le_of_lt (Nat.div_le_self _ _) (by omega)
  rw [j_shr hx hk, j_and h1 (by decide), Nat.and_one_is_mod, j_cmp (by omega) (by decide), Nat.testBit_eq_decide_div_mod_eq, decide_eq_true_iff]
theorem j_zero {x : Nat} (hx : x < 18446744073709551616) : rx_f_lcmp x 0 = 0 ↔ x = 0 := j_cmp hx (by decide)
/-- less a set -/
theorem j_less {x y : Nat} (hx : x < 18446744073709551616) (hy : y < 18446744073709551616) : rx_j_and x (rx_j_xor y 18446744073709551615) ≤ x ∧ ∀ i, (rx_j_and x (rx_j_xor y 18446744073709551615)).testBit i = (x.testBit i && !(y.testBit i)) := by
  have hz : y ^^^ 18446744073709551615 < 18446744073709551616 := Nat.xor_lt_two_pow (n := 64) hy (by decide)
  rw [j_xor hy (by decide), j_and hx hz]
  refine ⟨Nat.and_le_left, fun i => ?_⟩
  rw [Nat.testBit_and, Nat.testBit_xor, show (18446744073709551615 : Nat) = 2 ^ 64 - 1 from rfl, Nat.testBit_two_pow_sub_one]
  by_cases hi : i < 64
  · rw [decide_eq_true hi]
    cases x.testBit i <;> cases y.testBit i <;> rfl
  · have : x.testBit i = false := Nat.testBit_lt_two_pow (Nat.lt_of_lt_of_le hx (show 2 ^ 64 ≤ 2 ^ i from Nat.pow_le_pow_right (by decide) (by omega)))
    rw [this]
    rfl
theorem j_add1 {x k : Nat} (hx : x < 18446744073709551616) (hk : k < 64) : rx_j_or x (rx_j_shl 1 k) = x ||| 2 ^ k := by
  rw [j_shl1 hk, j_or hx (show 2 ^ k < 2 ^ 64 from Nat.pow_lt_pow_right (by decide) hk)]
theorem j_full {k : Nat} (hk : k < 63) : rx_j_sub (rx_j_shl 1 k) 1 = 2 ^ k - 1 := by
  have h : ∀ k, k < 63 → rx_j_sub (rx_j_shl 1 k) 1 = 2 ^ k - 1 := by decide +kernel
  exact h k hk
theorem tb_ext {x y : Nat} (h : ∀ i, x.testBit i = y.testBit i) : x = y := Nat.eq_of_testBit_eq h
theorem tb_lt {x k : Nat} (h : ∀ i, x.testBit i = true → i < k) : x < 2 ^ k := by
  refine Nat.lt_pow_two_of_testBit x (fun i hi => ?_)
  cases hz : x.testBit i with
  | false => rfl
  | true => exact absurd (h i hz) (by omega)
theorem tb_out {x k i : Nat} (hx : x < 2 ^ k) (hi : k ≤ i) : x.testBit i = false := Nat.testBit_lt_two_pow (Nat.lt_of_lt_of_le hx (Nat.pow_le_pow_right (by decide) hi))
