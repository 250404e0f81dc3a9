/-! Small numbers -/
theorem b_lt {x y : Nat} (hx : x < 2147483648) (hy : y < 2147483648) : s_lt x y = (x < y) := by
  rw [s_lt_eq, ax_bi_def, ax_bi_def]
  exact propext (by omega)
theorem b_le {x y : Nat} (hx : x < 2147483648) (hy : y < 2147483648) : s_le x y = (x ≤ y) := by
  rw [s_le_eq, ax_bi_def, ax_bi_def]
  exact propext (by omega)
theorem b_lt_m {y : Nat} (hy : y < 2147483648) : s_lt 4294967295 y = True := by
  rw [s_lt_eq, ax_bi_def, ax_bi_def]
  exact eq_true (by omega)
theorem b_le_m {y : Nat} (hy : y < 2147483648) : s_le y 4294967295 = False := by
  rw [s_le_eq, ax_bi_def, ax_bi_def]
  exact eq_false (by omega)
theorem b_lt_m2 {y : Nat} (hy : y < 2147483648) : s_lt y 4294967295 = False := by
  rw [s_lt_eq, ax_bi_def, ax_bi_def]
  exact eq_false (by omega)
theorem b_le_m2 {y : Nat} (hy : y < 2147483648) : s_le 4294967295 y = True := by
  rw [s_le_eq, ax_bi_def, ax_bi_def]
  exact eq_true (by omega)
/-- an int that is not below 0, or is -/
theorem b_neg {x : Nat} (hx : x < 4294967296) : s_lt x 0 = (2147483648 ≤ x) := by
  rw [s_lt_eq, ax_bi_def, ax_bi_def]
  exact propext (by omega)
theorem b_pos {x : Nat} (hx : x < 4294967296) : s_le 0 x = (x < 2147483648) := by
  rw [s_le_eq, ax_bi_def, ax_bi_def]
  exact propext (by omega)
/-- against a small number -/
theorem b_ltc {x k : Nat} (hx : x < 4294967296) (hk : k < 2147483648) : s_lt x k = (x < k ∨ 2147483648 ≤ x) := by
  rw [s_lt_eq, ax_bi_def, ax_bi_def]
  exact propext (by omega)
theorem b_lec {x k : Nat} (hx : x < 4294967296) (hk : k < 2147483648) : s_le k x = (k ≤ x ∧ x < 2147483648) := by
  rw [s_le_eq, ax_bi_def, ax_bi_def]
  exact propext (by omega)
theorem b_ltc2 {x k : Nat} (hx : x < 4294967296) (hk : k < 2147483648) : s_lt k x = (k < x ∧ x < 2147483648) := by
  rw [s_lt_eq, ax_bi_def, ax_bi_def]
  exact propext (by omega)
theorem b_lec2 {x k : Nat} (hx : x < 4294967296) (hk : k < 2147483648) : s_le x k = (x ≤ k ∨ 2147483648 ≤ x) := by
  rw [s_le_eq, ax_bi_def, ax_bi_def]
  exact propext (by omega)
theorem b_add {x y : Nat} (h : x + y < 4294967296) : i_add x y = x + y := by
  rw [i_add_eq]
  exact Nat.mod_eq_of_lt h
theorem b_dec {x : Nat} (h : 1 ≤ x) (h2 : x < 4294967296) : i_add x 4294967295 = x - 1 := by
  rw [i_add_eq]
  show (x + 4294967295) % 4294967296 = x - 1
  omega
theorem b_sub {x y : Nat} (h : y ≤ x) (hx : x < 4294967296) : i_sub x y = x - y := by
  rw [i_sub_eq]
  show (x + (4294967296 - y % 4294967296)) % 4294967296 = x - y
  omega
theorem b_sub01 : i_sub 0 1 = 4294967295 := by
  rw [i_sub_eq]
theorem b_mul {x y : Nat} (h : x * y < 4294967296) : i_mul x y = x * y := by
  rw [i_mul_eq]
  exact Nat.mod_eq_of_lt h
theorem b_shr {x k : Nat} (hx : x < 2147483648) (hk : k < 32) : i_shr x k = x / 2 ^ k := by
  rw [i_shr_eq, show Int32.ofNat k &&& 31 = nI (k % 32) from rx_m31 k, Nat.mod_eq_of_lt hk, show Int32.ofNat x >>> nI k = nI (x / 2 ^ k) from pk_shrN hx (nI k) k (rx_s_l0 k hk), ax_i32_nI (Nat.lt_of_le_of_lt (Nat.div_le_self _ _) (by omega))]
theorem b_and1 (x : Nat) : i_and x 1 = x % 2 := by
  rw [i_and_eq]
  show (x &&& 1) % 4294967296 = x % 2
  rw [Nat.and_one_is_mod]
  exact Nat.mod_eq_of_lt (by omega)
theorem b_shl1 {k : Nat} (hk : k < 32) : i_shl 1 k = 2 ^ k := by
  rw [i_shl_eq]
  show (1 * 2 ^ (k % 32)) % 4294967296 = 2 ^ k
  rw [Nat.mod_eq_of_lt hk, Nat.one_mul]
  exact Nat.mod_eq_of_lt (show 2 ^ k < 2 ^ 32 from Nat.pow_lt_pow_right (by decide) hk)
theorem b_div {x y : Nat} (hx : x < 2147483648) (hy : 0 < y) (hy2 : y < 2147483648) : i_div x y = x / y := by
  rw [i_div_eq, show Int32.ofNat x / Int32.ofNat y = nI (x / y) from pk_div hx hy hy2, ax_i32_nI (Nat.lt_of_le_of_lt (Nat.div_le_self _ _) (by omega))]
theorem b_rem {x y : Nat} (hx : x < 2147483648) (hy : 0 < y) (hy2 : y < 2147483648) : i_rem x y = x % y := by
  rw [i_rem_eq, show Int32.ofNat x - Int32.ofNat x / Int32.ofNat y * Int32.ofNat y = nI (x % y) from pk_rem hx hy hy2, ax_i32_nI (Nat.lt_of_le_of_lt (Nat.mod_le _ _) (by omega))]
/-- a bit of an int -/
theorem b_bit {s c : Nat} (hs : s < 2147483648) (hc : c < 64) : i_and (i_shr s (i_shr c 1)) 1 = if s.testBit (c / 2) then 1 else 0 := by
  rw [b_shr (x := c) (by omega) (by decide), b_shr hs (by show c / 2 ^ 1 < 32; omega), b_and1, Nat.testBit_eq_decide_div_mod_eq]
  show s / 2 ^ (c / 2) % 2 = _
  by_cases h : s / 2 ^ (c / 2) % 2 = 1
  · rw [h]; rfl
  · have : s / 2 ^ (c / 2) % 2 = 0 := by omega
    rw [this]; rfl
theorem b_bitl {s l : Nat} (hs : s < 2147483648) (hl : l < 32) : i_and (i_shr s l) 1 = if s.testBit l then 1 else 0 := by
  rw [b_shr hs hl, b_and1, Nat.testBit_eq_decide_div_mod_eq]
  by_cases h : s / 2 ^ l % 2 = 1
  · rw [h]; rfl
  · have : s / 2 ^ l % 2 = 0 := by omega
    rw [this]; rfl
theorem b_or {x y k : Nat} (hk : k ≤ 32) (hx : x < 2 ^ k) (hy : y < 2 ^ k) : i_or x y = x ||| y := by
  rw [i_or_eq]
  show (x ||| y) % 4294967296 = x ||| y
  exact Nat.mod_eq_of_lt (Nat.lt_of_lt_of_le (Nat.or_lt_two_pow hx hy) (show 2 ^ k ≤ 2 ^ 32 from Nat.pow_le_pow_right (by decide) hk))
theorem b_xor {x y k : Nat} (hk : k ≤ 32) (hx : x < 2 ^ k) (hy : y < 2 ^ k) : i_xor x y = x ^^^ y := by
  rw [i_xor_eq]
  show (x ^^^ y) % 4294967296 = x ^^^ y
  exact Nat.mod_eq_of_lt (Nat.lt_of_lt_of_le (Nat.xor_lt_two_pow hx hy) (show 2 ^ k ≤ 2 ^ 32 from Nat.pow_le_pow_right (by decide) hk))
theorem b_and {x y : Nat} (hx : x < 4294967296) : i_and x y = x &&& y := by
  rw [i_and_eq]
  show (x &&& y) % 4294967296 = x &&& y
  exact Nat.mod_eq_of_lt (Nat.lt_of_le_of_lt Nat.and_le_left hx)
/-- a bit is taken away -/
theorem b_clr {x l : Nat} (hx : x < 4294967296) (hl : l < 32) : i_and x (i_xor (i_shl 1 l) 4294967295) < 4294967296 ∧ ∀ j, (i_and x (i_xor (i_shl 1 l) 4294967295)).testBit j = (x.testBit j && decide (j ≠ l)) := by
  have hp : 2 ^ l < 2 ^ 32 := Nat.pow_lt_pow_right (by decide) hl
  rw [b_shl1 hl, b_xor (k := 32) (Nat.le_refl _) hp (by decide), b_and hx]
  refine ⟨Nat.lt_of_le_of_lt Nat.and_le_left hx, fun j => ?_⟩
  rw [Nat.testBit_and, Nat.testBit_xor, Nat.testBit_two_pow, show (4294967295 : Nat) = 2 ^ 32 - 1 from rfl, Nat.testBit_two_pow_sub_one]
  by_cases hj : j < 32
  · rw [decide_eq_true hj]
    by_cases h : l = j
    · rw [decide_eq_true h, h]; simp
    · rw [decide_eq_false h]
      have : j ≠ l := fun z => h z.symm
      simp [this]
  · have h2 : x.testBit j = false := Nat.testBit_lt_two_pow (Nat.lt_of_lt_of_le hx (show 2 ^ 32 ≤ 2 ^ j from Nat.pow_le_pow_right (by decide) (by omega)))
    rw [h2]; rfl
/-- reading behind a write -/
theorem fu_same {F : fx_F} {p i v : Nat} : fu F p i v p i = v := by
  unfold fu
  rw [Nat.beq_refl, Nat.beq_refl]
  rfl
theorem fu_p {F : fx_F} {p q i j v : Nat} (h : q ≠ p) : fu F p i v q j = F q j := by
  unfold fu
  rw [show Nat.beq q p = false from Bool.eq_false_iff.mpr (fun z => h (rx_beq.mp z))]
  rfl
theorem fu_i {F : fx_F} {p i j v : Nat} (h : j ≠ i) : fu F p i v p j = F p j := by
  unfold fu
  rw [Nat.beq_refl, show Nat.beq j i = false from Bool.eq_false_iff.mpr (fun z => h (rx_beq.mp z))]
  rfl
theorem fu_if {F : fx_F} {p i v : Nat} (q j : Nat) : fu F p i v q j = if q = p ∧ j = i then v else F q j := by
  by_cases h : q = p
  · subst h
    by_cases h2 : j = i
    · subst h2; rw [fu_same, if_pos ⟨rfl, rfl⟩]
    · rw [fu_i h2, if_neg (fun z => h2 z.2)]
  · rw [fu_p h, if_neg (fun z => h z.1)]
theorem fcp_d {F : fx_F} {s d i : Nat} : fcp F s d d i = F s i := by
  unfold fcp
  rw [Nat.beq_refl]
  rfl
theorem fcp_o {F : fx_F} {s d q i : Nat} (h : q ≠ d) : fcp F s d q i = F q i := by
  unfold fcp
  rw [show Nat.beq q d = false from Bool.eq_false_iff.mpr (fun z => h (rx_beq.mp z))]
  rfl
/-- nothing but some cells has changed -/
def fxo (S : List Nat) (F F' : fx_F) : Prop := ∀ q i, q ∉ S → F' q i = F q i
theorem fxo.rf {S : List Nat} {F : fx_F} : fxo S F F := fun _ _ _ => rfl
theorem fxo.tr {S : List Nat} {F F1 F2 : fx_F} (h : fxo S F F1) (h2 : fxo S F1 F2) : fxo S F F2 := fun q i hq => (h2 q i hq).trans (h q i hq)
theorem fxo.mono {S T : List Nat} {F F1 : fx_F} (h : fxo S F F1) (hT : ∀ q ∈ S, q ∈ T) : fxo T F F1 := fun q i hq => h q i (fun z => hq (hT q z))
theorem fxo.wr {S : List Nat} {F F1 : fx_F} {p i v : Nat} (h : fxo S F F1) (hp : p ∈ S) : fxo S F (fu F1 p i v) := fun q j hq => by
  rw [fu_p (fun z => hq (by rw [z]; exact hp))]
  exact h q j hq
theorem fxo.cp {S : List Nat} {F F1 : fx_F} {s d : Nat} (h : fxo S F F1) (hd : d ∈ S) : fxo S F (fcp F1 s d) := fun q j hq => by
  rw [fcp_o (fun z => hq (by rw [z]; exact hd))]
  exact h q j hq
