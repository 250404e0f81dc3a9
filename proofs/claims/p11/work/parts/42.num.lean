theorem ax_bi_def (x : Nat) : rx_bi x = (x + 2147483648) % 4294967296 := rfl
theorem ax_i32_lt (z : Int32) : rx_i32 z < 4294967296 := z.toBitVec.isLt
theorem ax_full_ok (c : Nat) : ax_full.1 ≤ rx_bi c ∧ rx_bi c ≤ ax_full.2 := by
  rw [ax_bi_def]
  exact ⟨Nat.zero_le _, by show _ ≤ 4294967295; omega⟩
theorem ax_i32_nI {n : Nat} (h : n < 4294967296) : rx_i32 (nI n) = n := by
  show (BitVec.ofNat 32 n).toNat = n
  rw [BitVec.toNat_ofNat]
  exact Nat.mod_eq_of_lt h
theorem ax_condY {α : Type} {b : Bool} {x y z : α} (h : (bif b then x else y) = z) : (b = true ∧ x = z) ∨ (b = false ∧ y = z) := by
  cases b with
  | true => exact Or.inl ⟨rfl, h⟩
  | false => exact Or.inr ⟨rfl, h⟩
theorem ax_geN {a x : Nat} (hx : ax_ge x = true) (ha : a < 4294967296) (h : x ≤ rx_bi a) : a < 2147483648 ∧ rx_bi a = a + 2147483648 := by
  have hx : 2147483648 ≤ x := rx_ble.mp hx
  rw [ax_bi_def] at h ⊢
  omega
theorem ax_h1 {u v z : Nat} (l1 : u ≤ z) (l2 : z ≤ v) (hz : z < 2147483648) : u + 2147483648 ≤ rx_bi z ∧ rx_bi z ≤ v + 2147483648 := by
  rw [ax_bi_def]
  omega
theorem ax_h2 {u v z : Nat} (l1 : u ≤ z) (l2 : z ≤ v) (hz : v < 2147483648) : u + 2147483648 ≤ rx_bi (z % 4294967296) ∧ rx_bi (z % 4294967296) ≤ v + 2147483648 := by
  rw [ax_bi_def]
  omega
section AXN
variable {a b : Nat} {x y r : Nat × Nat}
theorem ax_add_ok (ha : a < 4294967296) (hb : b < 4294967296) (hx : x.1 ≤ rx_bi a ∧ rx_bi a ≤ x.2) (hy : y.1 ≤ rx_bi b ∧ rx_bi b ≤ y.2) (h : ax_b_add x y = r) : ∃ c, rx_f_add a b = some c ∧ c < 4294967296 ∧ r.1 ≤ rx_bi c ∧ rx_bi c ≤ r.2 := by
  refine ⟨(a + b) % 4294967296, rfl, Nat.mod_lt _ (by decide), ?_⟩
  rcases ax_condY h with ⟨hc, rfl⟩ | ⟨-, rfl⟩
  · obtain ⟨c1, c2⟩ := rx_and2.mp hc
    have c1 : 2147483648 ≤ x.1 + y.1 := rx_ble.mp c1
    have c2 : x.2 + y.2 < 6442450944 := rx_blt.mp c2
    show x.1 + y.1 - 2147483648 ≤ _ ∧ _ ≤ x.2 + y.2 - 2147483648
    rw [ax_bi_def] at hx hy ⊢
    omega
  · exact ax_full_ok _
theorem ax_sub_ok (ha : a < 4294967296) (hb : b < 4294967296) (hx : x.1 ≤ rx_bi a ∧ rx_bi a ≤ x.2) (hy : y.1 ≤ rx_bi b ∧ rx_bi b ≤ y.2) (h : ax_b_sub x y = r) : ∃ c, rx_f_sub a b = some c ∧ c < 4294967296 ∧ r.1 ≤ rx_bi c ∧ rx_bi c ≤ r.2 := by
  refine ⟨(a + (4294967296 - b % 4294967296)) % 4294967296, rfl, Nat.mod_lt _ (by decide), ?_⟩
  rcases ax_condY h with ⟨hc, rfl⟩ | ⟨-, rfl⟩
  · obtain ⟨c1, c2⟩ := rx_and2.mp hc
    have c1 : y.2 ≤ x.1 + 2147483648 := rx_ble.mp c1
    have c2 : x.2 + 2147483648 < y.1 + 4294967296 := rx_blt.mp c2
    show x.1 + 2147483648 - y.2 ≤ _ ∧ _ ≤ x.2 + 2147483648 - y.1
    rw [ax_bi_def] at hx hy ⊢
    omega
  · exact ax_full_ok _
theorem ax_mul_ok (ha : a < 4294967296) (hb : b < 4294967296) (hx : x.1 ≤ rx_bi a ∧ rx_bi a ≤ x.2) (hy : y.1 ≤ rx_bi b ∧ rx_bi b ≤ y.2) (h : ax_b_mul x y = r) : ∃ c, rx_f_mul a b = some c ∧ c < 4294967296 ∧ r.1 ≤ rx_bi c ∧ rx_bi c ≤ r.2 := by
  refine ⟨(a * b) % 4294967296, rfl, Nat.mod_lt _ (by decide), ?_⟩
  rcases ax_condY h with ⟨hc, rfl⟩ | ⟨-, rfl⟩
  · obtain ⟨c1, hc⟩ := rx_and2.mp hc
    obtain ⟨c2, c3⟩ := rx_and2.mp hc
    have c3 : (x.2 - 2147483648) * (y.2 - 2147483648) < 2147483648 := rx_blt.mp c3
    obtain ⟨p1, p2⟩ := ax_geN c1 ha hx.1
    obtain ⟨q1, q2⟩ := ax_geN c2 hb hy.1
    have l1 : a * b ≤ (x.2 - 2147483648) * (y.2 - 2147483648) := Nat.mul_le_mul (by omega) (by omega)
    have l2 : (x.1 - 2147483648) * (y.1 - 2147483648) ≤ a * b := Nat.mul_le_mul (by omega) (by omega)
    exact ax_h2 l2 l1 c3
  · exact ax_full_ok _
theorem ax_and_ok (ha : a < 4294967296) (hb : b < 4294967296) (hx : x.1 ≤ rx_bi a ∧ rx_bi a ≤ x.2) (hy : y.1 ≤ rx_bi b ∧ rx_bi b ≤ y.2) (h : ax_b_and x y = r) : ∃ c, rx_f_and a b = some c ∧ c < 4294967296 ∧ r.1 ≤ rx_bi c ∧ rx_bi c ≤ r.2 := by
  refine ⟨(a &&& b) % 4294967296, rfl, Nat.mod_lt _ (by decide), ?_⟩
  have l1 : a &&& b ≤ a := Nat.and_le_left
  have l2 : a &&& b ≤ b := Nat.and_le_right
  generalize a &&& b = z at l1 l2 ⊢
  rcases ax_condY h with ⟨hc, rfl⟩ | ⟨-, h⟩
  · obtain ⟨q1, q2⟩ := ax_geN hc hb hy.1
    show 2147483648 ≤ _ ∧ _ ≤ y.2
    rw [ax_bi_def]
    omega
  · rcases ax_condY h with ⟨hc, rfl⟩ | ⟨-, rfl⟩
    · obtain ⟨q1, q2⟩ := ax_geN hc ha hx.1
      show 2147483648 ≤ _ ∧ _ ≤ x.2
      rw [ax_bi_def]
      omega
    · exact ax_full_ok _
theorem ax_shr_ok (ha : a < 4294967296) (hb : b < 4294967296) (hx : x.1 ≤ rx_bi a ∧ rx_bi a ≤ x.2) (hy : y.1 ≤ rx_bi b ∧ rx_bi b ≤ y.2) (h : ax_b_shr x y = r) : ∃ c, rx_f_shr a b = some c ∧ c < 4294967296 ∧ r.1 ≤ rx_bi c ∧ rx_bi c ≤ r.2 := by
  refine ⟨_, rfl, ax_i32_lt _, ?_⟩
  rcases ax_condY h with ⟨hc, rfl⟩ | ⟨-, rfl⟩
  · obtain ⟨c1, hc⟩ := rx_and2.mp hc
    obtain ⟨c2, hc⟩ := rx_and2.mp hc
    obtain ⟨c3, c4⟩ := rx_and2.mp hc
    have c2 : y.1 = y.2 := rx_beq.mp c2
    have c4 : y.1 < 2147483680 := rx_blt.mp c4
    obtain ⟨p1, p2⟩ := ax_geN c1 ha hx.1
    obtain ⟨q1, q2⟩ := ax_geN c3 hb hy.1
    have hk : y.1 - 2147483648 = b := by omega
    have hb32 : b < 32 := by omega
    have e : Int32.ofNat a >>> (Int32.ofNat b &&& 31) = nI (a / 2 ^ b) := by
      rw [show Int32.ofNat b &&& 31 = nI (b % 32) from rx_m31 b, Nat.mod_eq_of_lt hb32]
      exact pk_shrN p1 (nI b) b (rx_s_l0 b hb32)
    have l0 : a / 2 ^ b ≤ a := Nat.div_le_self _ _
    rw [e, ax_i32_nI (by omega)]
    have l1 : (x.1 - 2147483648) / 2 ^ b ≤ a / 2 ^ b := Nat.div_le_div_right (by omega)
    have l2 : a / 2 ^ b ≤ (x.2 - 2147483648) / 2 ^ b := Nat.div_le_div_right (by omega)
    show (x.1 - 2147483648) / 2 ^ (y.1 - 2147483648) + 2147483648 ≤ _ ∧ _ ≤ (x.2 - 2147483648) / 2 ^ (y.1 - 2147483648) + 2147483648
    rw [hk]
    exact ax_h1 l1 l2 (by omega)
  · exact ax_full_ok _
theorem ax_n0_ok (hb : b < 4294967296) (hy : y.1 ≤ rx_bi b ∧ rx_bi b ≤ y.2) (h : ax_n0 y = true) : Nat.beq (Nat.mod b 4294967296) 0 = false := by
  refine Bool.eq_false_iff.mpr (fun z => ?_)
  have z : b % 4294967296 = 0 := rx_beq.mp z
  rw [ax_bi_def] at hy
  rcases rx_or2.mp h with h | h
  · have h := rx_blt.mp h; omega
  · have h := rx_blt.mp h; omega
theorem ax_div_ok (ha : a < 4294967296) (hb : b < 4294967296) (hx : x.1 ≤ rx_bi a ∧ rx_bi a ≤ x.2) (hy : y.1 ≤ rx_bi b ∧ rx_bi b ≤ y.2) (h : ax_b_div x y = some r) : ∃ c, rx_f_div a b = some c ∧ c < 4294967296 ∧ r.1 ≤ rx_bi c ∧ rx_bi c ≤ r.2 := by
  have key : ∀ hn : Nat.beq (Nat.mod b 4294967296) 0 = false, rx_f_div a b = some (rx_i32 (Int32.ofNat a / Int32.ofNat b)) := fun hn => by unfold rx_f_div; rw [hn]; rfl
  rcases ax_condY h with ⟨hc, hr⟩ | ⟨-, h⟩
  · obtain ⟨c1, c2⟩ := rx_and2.mp hc
    have c2' : 2147483648 < y.1 := rx_blt.mp c2
    have hn := ax_n0_ok hb hy (rx_or2.mpr (Or.inl c2))
    refine ⟨_, key hn, ax_i32_lt _, ?_⟩
    cases hr
    obtain ⟨p1, p2⟩ := ax_geN c1 ha hx.1
    have q1 : b < 2147483648 ∧ rx_bi b = b + 2147483648 ∧ 0 < b := by rw [ax_bi_def] at hy ⊢; omega
    obtain ⟨q1, q2, q3⟩ := q1
    have e : Int32.ofNat a / Int32.ofNat b = nI (a / b) := pk_div p1 q3 q1
    have l0 : a / b ≤ a := Nat.div_le_self _ _
    rw [e, ax_i32_nI (by omega)]
    have l1 : (x.1 - 2147483648) / (y.2 - 2147483648) ≤ a / b := Nat.le_trans (Nat.div_le_div_right (by omega)) (Nat.div_le_div_left (by omega) q3)
    have l2 : a / b ≤ (x.2 - 2147483648) / (y.1 - 2147483648) := Nat.le_trans (Nat.div_le_div_right (show a ≤ x.2 - 2147483648 by omega)) (Nat.div_le_div_left (by omega) (by omega))
    exact ax_h1 l1 l2 (by omega)
  · obtain ⟨hn, h⟩ := rx_cond h
    cases h
    exact ⟨_, key (ax_n0_ok hb hy hn), ax_i32_lt _, ax_full_ok _⟩
theorem ax_rem_ok (ha : a < 4294967296) (hb : b < 4294967296) (hx : x.1 ≤ rx_bi a ∧ rx_bi a ≤ x.2) (hy : y.1 ≤ rx_bi b ∧ rx_bi b ≤ y.2) (h : ax_b_rem x y = some r) : ∃ c, rx_f_rem a b = some c ∧ c < 4294967296 ∧ r.1 ≤ rx_bi c ∧ rx_bi c ≤ r.2 := by
  have key : ∀ hn : Nat.beq (Nat.mod b 4294967296) 0 = false, rx_f_rem a b = some (rx_i32 (Int32.ofNat a - Int32.ofNat a / Int32.ofNat b * Int32.ofNat b)) := fun hn => by unfold rx_f_rem; rw [hn]; rfl
  rcases ax_condY h with ⟨hc, hr⟩ | ⟨-, h⟩
  · obtain ⟨c1, c2⟩ := rx_and2.mp hc
    have c2' : 2147483648 < y.1 := rx_blt.mp c2
    have hn := ax_n0_ok hb hy (rx_or2.mpr (Or.inl c2))
    refine ⟨_, key hn, ax_i32_lt _, ?_⟩
    cases hr
    obtain ⟨p1, p2⟩ := ax_geN c1 ha hx.1
    have q1 : b < 2147483648 ∧ rx_bi b = b + 2147483648 ∧ 0 < b := by rw [ax_bi_def] at hy ⊢; omega
    obtain ⟨q1, q2, q3⟩ := q1
    have e : Int32.ofNat a - Int32.ofNat a / Int32.ofNat b * Int32.ofNat b = nI (a % b) := pk_rem p1 q3 q1
    have l0 : a % b ≤ a := Nat.mod_le _ _
    have l1 : a % b < b := Nat.mod_lt _ q3
    rw [e, ax_i32_nI (by omega)]
    generalize a % b = z at l0 l1 ⊢
    have hm : z + 2147483648 ≤ ax_min x.2 (Nat.pred y.2) := by
      unfold ax_min
      cases Nat.ble x.2 (Nat.pred y.2) with
      | true => show _ ≤ x.2; omega
      | false => show _ ≤ y.2 - 1; omega
    show 2147483648 ≤ _ ∧ _ ≤ ax_min x.2 (Nat.pred y.2)
    rw [ax_bi_def]
    omega
  · obtain ⟨hn, h⟩ := rx_cond h
    cases h
    exact ⟨_, key (ax_n0_ok hb hy hn), ax_i32_lt _, ax_full_ok _⟩
theorem ax_bop_ok {o : Nat} (ha : a < 4294967296) (hb : b < 4294967296) (hx : x.1 ≤ rx_bi a ∧ rx_bi a ≤ x.2) (hy : y.1 ≤ rx_bi b ∧ rx_bi b ≤ y.2) (h : ax_bop o x y = some r) : ∃ c, ax_f o a b = some c ∧ c < 4294967296 ∧ r.1 ≤ rx_bi c ∧ rx_bi c ≤ r.2 := by
  match o, h with
  | 0, h => exact ax_add_ok ha hb hx hy (Option.some.inj h)
  | 1, h => exact ax_sub_ok ha hb hx hy (Option.some.inj h)
  | 2, h => exact ax_mul_ok ha hb hx hy (Option.some.inj h)
  | 3, h => exact ax_and_ok ha hb hx hy (Option.some.inj h)
  | 4, h => cases Option.some.inj h; exact ⟨_, rfl, Nat.mod_lt _ (by decide), ax_full_ok _⟩
  | 5, h => cases Option.some.inj h; exact ⟨_, rfl, Nat.mod_lt _ (by decide), ax_full_ok _⟩
  | 6, h => cases Option.some.inj h; exact ⟨_, rfl, Nat.mod_lt _ (by decide), ax_full_ok _⟩
  | 7, h => exact ax_shr_ok ha hb hx hy (Option.some.inj h)
  | 8, h =>
    cases Option.some.inj h
    refine ⟨_, rfl, ?_, ax_full_ok _⟩
    have : a % 4294967296 / 2 ^ (b % 32) ≤ a % 4294967296 := Nat.div_le_self _ _
    show a % 4294967296 / 2 ^ (b % 32) < 4294967296
    omega
  | 9, h => exact ax_div_ok ha hb hx hy h
  | 10, h => exact ax_rem_ok ha hb hx hy h
  | n + 11, h =>
    have e : ∀ k, k < 11 → Nat.beq (n + 11) k = false := fun k hk => Bool.eq_false_iff.mpr (fun z => by have := rx_beq.mp z; omega)
    have e8 : Nat.ble (n + 11) 8 = false := Bool.eq_false_iff.mpr (fun z => by have := rx_ble.mp z; omega)
    unfold ax_bop at h
    rw [e 0 (by decide), e 1 (by decide), e 2 (by decide), e 3 (by decide), e 7 (by decide), e 9 (by decide), e 10 (by decide), e8] at h
    cases h
/-- a sum that is exact -/
theorem ax_exact_ok {o c : Nat} (ha : a < 4294967296) (hb : b < 4294967296) (hc : c < 4294967296) (hx : x.1 ≤ rx_bi a ∧ rx_bi a ≤ x.2) (hy : y.1 ≤ rx_bi b ∧ rx_bi b ≤ y.2) (h : ax_exact o x y = true) (hf : ax_f o a b = some c) : (o = 0 ∧ rx_bi a + rx_bi b = rx_bi c + 2147483648) ∨ (o = 1 ∧ rx_bi c + rx_bi b = rx_bi a + 2147483648) := by
  rcases ax_condY h with ⟨h0, h1⟩ | ⟨-, h1⟩
  · have h0 := rx_beq.mp h0
    subst h0
    obtain ⟨c1, c2⟩ := rx_and2.mp h1
    have c1 : 2147483648 ≤ x.1 + y.1 := rx_ble.mp c1
    have c2 : x.2 + y.2 < 6442450944 := rx_blt.mp c2
    have hf : (a + b) % 4294967296 = c := Option.some.inj hf
    refine Or.inl ⟨rfl, ?_⟩
    rw [ax_bi_def] at hx hy ⊢
    rw [ax_bi_def, ax_bi_def]
    omega
  · obtain ⟨h2, h3⟩ := rx_and2.mp h1
    have h4 := rx_beq.mp h2
    subst h4
    obtain ⟨c1, c2⟩ := rx_and2.mp h3
    have c1 : y.2 ≤ x.1 + 2147483648 := rx_ble.mp c1
    have c2 : x.2 + 2147483648 < y.1 + 4294967296 := rx_blt.mp c2
    have hf : (a + (4294967296 - b % 4294967296)) % 4294967296 = c := Option.some.inj hf
    refine Or.inr ⟨rfl, ?_⟩
    rw [ax_bi_def] at hx hy ⊢
    rw [ax_bi_def, ax_bi_def]
    omega
end AXN
