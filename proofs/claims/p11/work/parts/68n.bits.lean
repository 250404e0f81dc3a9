/-! How many bits -/
theorem b_ushr {x k : Nat} (hx : x < 4294967296) (hk : k < 32) : i_ushr x k = x / 2 ^ k := by
  rw [i_ushr_eq]
  show x % 4294967296 / 2 ^ (k % 32) = _
  rw [Nat.mod_eq_of_lt hx, Nat.mod_eq_of_lt hk]
theorem land_split (X M : Nat) : X &&& M = ((X / 256) &&& (M / 256)) * 256 + ((X % 256) &&& (M % 256)) := by
  have h1 : (X &&& M) / 2 ^ 8 = (X / 2 ^ 8) &&& (M / 2 ^ 8) := by
    refine tb_ext (fun i => ?_)
    rw [Nat.testBit_div_two_pow, Nat.testBit_and, Nat.testBit_and, Nat.testBit_div_two_pow, Nat.testBit_div_two_pow]
  have h2 : (X &&& M) % 2 ^ 8 = (X % 2 ^ 8) &&& (M % 2 ^ 8) := by
    refine tb_ext (fun i => ?_)
    rw [Nat.testBit_mod_two_pow, Nat.testBit_and, Nat.testBit_and, Nat.testBit_mod_two_pow, Nat.testBit_mod_two_pow]
    cases decide (i < 8) <;> cases X.testBit i <;> cases M.testBit i <;> rfl
  have h3 : (X &&& M) = (X &&& M) / 2 ^ 8 * 256 + (X &&& M) % 2 ^ 8 := by omega
  rw [h3, h1, h2]
def bs1 (M x : Nat) : Nat := x - ((x / 2) &&& M)
def bs2 (M x : Nat) : Nat := (x &&& M) + ((x / 4) &&& M)
def bs3 (M x : Nat) : Nat := (x + x / 16) &&& M
theorem bs1_d : ∀ b, b < 256 → ∀ p, p < 2 → ((b + 256 * p) / 2) &&& 85 = (b / 2) &&& 85 := by decide +kernel
theorem bs2_d : ∀ b, b < 256 → ∀ p, p < 4 → ((b + 256 * p) / 4) &&& 51 = (b / 4) &&& 51 := by decide +kernel
theorem bs1_split {M a b : Nat} (hb : b < 256) (hM : M % 256 = 85) : bs1 M (a * 256 + b) = bs1 (M / 256) a * 256 + bs1 85 b := by
  unfold bs1
  rw [land_split, hM]
  rw [show (a * 256 + b) / 2 / 256 = a / 2 by omega, show (a * 256 + b) / 2 % 256 = (b + 256 * (a % 2)) / 2 by omega, bs1_d b hb (a % 2) (by omega)]
  have h1 : (a / 2) &&& (M / 256) ≤ a / 2 := Nat.and_le_left
  have h2 : (b / 2) &&& 85 ≤ b / 2 := Nat.and_le_left
  omega
theorem bs2_split {M a b : Nat} (hb : b < 256) (hM : M % 256 = 51) : bs2 M (a * 256 + b) = bs2 (M / 256) a * 256 + bs2 51 b := by
  unfold bs2
  rw [land_split (a * 256 + b), land_split ((a * 256 + b) / 4), hM]
  rw [show (a * 256 + b) / 4 / 256 = a / 4 by omega, show (a * 256 + b) / 4 % 256 = (b + 256 * (a % 4)) / 4 by omega, bs2_d b hb (a % 4) (by omega), show (a * 256 + b) / 256 = a by omega, show (a * 256 + b) % 256 = b by omega]
  omega
theorem bs3_split {M a b : Nat} (hb : b ≤ 68) (ha : a % 16 ≤ 4) (hM : M % 256 = 15) : bs3 M (a * 256 + b) = bs3 (M / 256) a * 256 + bs3 15 b := by
  unfold bs3
  rw [land_split, hM]
  have e1 : (a * 256 + b + (a * 256 + b) / 16) / 256 = a + a / 16 := by omega
  have e2 : (a * 256 + b + (a * 256 + b) / 16) % 256 = b + b / 16 + 16 * (a % 16) := by omega
  rw [e1, e2]
  have e3 : ∀ x, x &&& 15 = x % 16 := fun x => Nat.and_two_pow_sub_one_eq_mod x 4
  rw [e3, e3]
  omega
theorem bs_lo : ∀ b, b < 256 → bs1 85 b < 256 ∧ bs2 51 (bs1 85 b) ≤ 68 ∧ bs2 51 (bs1 85 b) % 16 ≤ 4 ∧ bs3 15 (bs2 51 (bs1 85 b)) = cnt (bts b) 8 := by decide +kernel
theorem bs_hi : ∀ b, b < 256 → bs2 13107 (bs1 21845 b) ≤ 68 ∧ bs2 13107 (bs1 21845 b) % 16 ≤ 4 ∧ bs3 3855 (bs2 13107 (bs1 21845 b)) = cnt (bts b) 8 := by decide +kernel
theorem cnt_add (p : Nat → Bool) (a : Nat) : ∀ b, cnt p (a + b) = cnt p a + cnt (fun i => p (a + i)) b
  | 0 => rfl
  | b + 1 => by
    show cnt p (a + b) + (if p (a + b) then 1 else 0) = cnt p a + (cnt (fun i => p (a + i)) b + if p (a + b) then 1 else 0)
    rw [cnt_add p a b]
    omega
theorem cnt_zero {p : Nat → Bool} : ∀ {n : Nat}, (∀ i, i < n → p i = false) → cnt p n = 0
  | 0, _ => rfl
  | n + 1, h => by
    show cnt p n + (if p n then 1 else 0) = 0
    rw [cnt_zero (fun i hi => h i (by omega)), h n (by omega)]
    rfl
theorem bts_split (x : Nat) (n : Nat) : cnt (bts x) (8 + n) = cnt (bts (x % 256)) 8 + cnt (bts (x / 256)) n := by
  rw [cnt_add]
  congr 1
  · refine cnt_congr (fun i hi => ?_)
    show x.testBit i = (x % 2 ^ 8).testBit i
    rw [Nat.testBit_mod_two_pow, decide_eq_true hi]; rfl
  · refine cnt_congr (fun i hi => ?_)
    show x.testBit (8 + i) = (x / 2 ^ 8).testBit i
    rw [Nat.testBit_div_two_pow]
    rw [Nat.add_comm]
theorem bts_sum (x : Nat) (hx : x < 1048576) : cnt (bts x) 20 = cnt (bts (x % 256)) 8 + cnt (bts (x / 256 % 256)) 8 + cnt (bts (x / 65536)) 8 := by
  have h1 : cnt (bts x) (8 + 12) = _ := bts_split x 12
  have h2 : cnt (bts (x / 256)) (8 + 4) = _ := bts_split (x / 256) 4
  rw [show (20 : Nat) = 8 + 12 from rfl, h1, show (12 : Nat) = 8 + 4 from rfl, h2, show x / 256 / 256 = x / 65536 by omega]
  have : cnt (bts (x / 65536)) (4 + 4) = cnt (bts (x / 65536)) 4 := by
    have z : cnt (fun i => bts (x / 65536) (4 + i)) 4 = 0 := cnt_zero (fun i hi => tb_out (show x / 65536 < 2 ^ 4 by omega) (by omega))
    rw [cnt_add, z, Nat.add_zero]
  rw [show (8 : Nat) = 4 + 4 from rfl] at *
  rw [this]
  omega
theorem bits_ok (x : Nat) (hx : x < 1048576) : bs3 252645135 (bs2 858993459 (bs1 1431655765 x)) = (cnt (bts (x / 65536)) 8 * 256 + cnt (bts (x / 256 % 256)) 8) * 256 + cnt (bts (x % 256)) 8 := by
  obtain ⟨a1, a2, a3, a4⟩ := bs_lo (x % 256) (by omega)
  obtain ⟨b1, b2, b3, b4⟩ := bs_lo (x / 256 % 256) (by omega)
  obtain ⟨c2, c3, c4⟩ := bs_hi (x / 65536) (by omega)
  have e : x = (x / 65536 * 256 + x / 256 % 256) * 256 + x % 256 := by omega
  have hy1 : x / 256 % 256 < 256 := by omega
  have hy0 : x % 256 < 256 := by omega
  generalize x / 65536 = y2 at *
  generalize x / 256 % 256 = y1 at *
  generalize x % 256 = y0 at *
  rw [e, bs1_split hy0 (by decide), bs1_split hy1 (by decide), bs2_split a1 (by decide), bs2_split b1 (by decide)]
  have hk : ∀ z, (z * 256 + bs2 51 (bs1 85 y1)) % 16 ≤ 4 := by intro z; omega
  rw [bs3_split a2 (hk _) (by decide), bs3_split b2 c3 (by decide)]
  rw [a4, b4]
  show (bs3 3855 (bs2 13107 (bs1 21845 y2)) * 256 + _) * 256 + _ = _
  rw [c4]
theorem s_bitCount {v : fx_V} {F F' : fx_F} {x : Nat} (hx : x < 1048576) (h : Cl k_I_bitCount [(0, x)] F v F') : v = (0, cnt (bts x) 20) ∧ F' = F := by
  obtain ⟨n, h⟩ := c_I_bitCount h
  obtain ⟨e1, e2⟩ := q_I_bitCount_0 h
  refine ⟨e1.trans (congrArg (Prod.mk 0) ?_), e2⟩
  have h1 : (x / 2) &&& 1431655765 ≤ x / 2 := Nat.and_le_left
  have t1 : i_sub x (i_and (i_ushr x 1) 1431655765) = bs1 1431655765 x := by
    rw [show i_ushr x 1 = x / 2 from b_ushr (by omega) (by decide), b_and (by omega), b_sub (by omega) (by omega)]; rfl
  have l1 : bs1 1431655765 x < 1048576 := by unfold bs1; omega
  rw [t1]
  have h2 : bs1 1431655765 x &&& 858993459 ≤ 858993459 := Nat.and_le_right
  have h3 : (bs1 1431655765 x / 4) &&& 858993459 ≤ 858993459 := Nat.and_le_right
  have h2' : bs1 1431655765 x &&& 858993459 ≤ bs1 1431655765 x := Nat.and_le_left
  have h3' : (bs1 1431655765 x / 4) &&& 858993459 ≤ bs1 1431655765 x / 4 := Nat.and_le_left
  have t2 : i_add (i_and (bs1 1431655765 x) 858993459) (i_and (i_ushr (bs1 1431655765 x) 2) 858993459) = bs2 858993459 (bs1 1431655765 x) := by
    rw [show i_ushr (bs1 1431655765 x) 2 = bs1 1431655765 x / 4 from b_ushr (by omega) (by decide), b_and (by omega), b_and (by omega), b_add (by omega)]; rfl
  rw [t2]
  have l2 : bs2 858993459 (bs1 1431655765 x) < 2097152 := by unfold bs2; omega
  have t3 : i_and (i_add (bs2 858993459 (bs1 1431655765 x)) (i_ushr (bs2 858993459 (bs1 1431655765 x)) 4)) 252645135 = bs3 252645135 (bs2 858993459 (bs1 1431655765 x)) := by
    rw [show i_ushr (bs2 858993459 (bs1 1431655765 x)) 4 = bs2 858993459 (bs1 1431655765 x) / 16 from b_ushr (by omega) (by decide), b_add (by omega), b_and (by omega)]; rfl
  rw [t3, bits_ok x hx, bts_sum x hx]
  have k2 := cnt_le (bts (x / 65536)) 8
  have k1 := cnt_le (bts (x / 256 % 256)) 8
  have k0 := cnt_le (bts (x % 256)) 8
  generalize cnt (bts (x / 65536)) 8 = y2 at *
  generalize cnt (bts (x / 256 % 256)) 8 = y1 at *
  generalize cnt (bts (x % 256)) 8 = y0 at *
  have e3 : ∀ z, z &&& 63 = z % 64 := fun z => Nat.and_two_pow_sub_one_eq_mod z 6
  have u8 : i_ushr ((y2 * 256 + y1) * 256 + y0) 8 = y2 * 256 + y1 := by
    rw [b_ushr (by omega) (by decide)]
    show ((y2 * 256 + y1) * 256 + y0) / 256 = _
    omega
  rw [u8, b_add (show (y2 * 256 + y1) * 256 + y0 + (y2 * 256 + y1) < 4294967296 by omega)]
  have u16 : i_ushr ((y2 * 256 + y1) * 256 + y0 + (y2 * 256 + y1)) 16 = y2 := by
    rw [b_ushr (by omega) (by decide)]
    show ((y2 * 256 + y1) * 256 + y0 + (y2 * 256 + y1)) / 65536 = _
    omega
  rw [u16, b_add (by omega), b_and (by omega), e3]
  omega
theorem cnt_20 {L x : Nat} (hL : L ≤ 20) (hx : x < 2 ^ L) : cnt (bts x) 20 = cnt (bts x) L := by
  have h := cnt_add (bts x) L (20 - L)
  rw [show L + (20 - L) = 20 by omega, cnt_zero (p := fun i => bts x (L + i)) (fun i hi => tb_out hx (by omega))] at h
  exact h
