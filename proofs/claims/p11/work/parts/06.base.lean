-- lists by places
theorem rx_nth_eq {α : Type} (l : List α) : ∀ i, rx_nth l i = l[i]? := by
  induction l with
  | nil => intro i; simp [rx_nth]
  | cons x t ih =>
    intro i
    cases i with
    | zero => rfl
    | succ j => exact (ih j).trans (by simp)
theorem rx_upd_eq {α : Type} (l : List α) : ∀ i v, rx_upd l i v = l.set i v := by
  induction l with
  | nil => intro i v; simp [rx_upd]
  | cons x t ih =>
    intro i v
    cases i with
    | zero => rfl
    | succ j => exact congrArg (fun z => x :: z) (ih j v)
theorem rx_len_eq {α : Type} (l : List α) : rx_len l = l.length := by
  induction l with
  | nil => rfl
  | cons x t ih => exact congrArg Nat.succ ih
-- the tree
theorem rx_tg_ts (n : Nat) : ∀ (t : rx_T n) (k k' : Nat) (c : rx_C), k < 2 ^ n → k' < 2 ^ n → rx_tg n (rx_ts n t k c) k' = if k' = k then some c else rx_tg n t k' := by
  induction n with
  | zero =>
    intro t k k' c h h'
    have e : k' = k := by simp at h h'; omega
    rw [if_pos e]
    rfl
  | succ n ih =>
    intro t k k' c h h'
    have hk : k / 2 < 2 ^ n := by rw [Nat.pow_succ] at h; omega
    have hk' : k' / 2 < 2 ^ n := by rw [Nat.pow_succ] at h'; omega
    have one : ∀ (u : rx_T n × rx_T n) (j : Nat), rx_tg (n + 1) u j = bif Nat.beq (j % 2) 0 then rx_tg n u.1 (j / 2) else rx_tg n u.2 (j / 2) := fun u j => rfl
    have two : ∀ (u : rx_T n × rx_T n) (j : Nat), rx_ts (n + 1) u j c = (bif Nat.beq (j % 2) 0 then ((rx_ts n u.1 (j / 2) c, u.2) : rx_T n × rx_T n) else ((u.1, rx_ts n u.2 (j / 2) c) : rx_T n × rx_T n)) := fun u j => rfl
    rw [two t k, one, one t k']
    by_cases e0 : k % 2 = 0 <;> by_cases e1 : k' % 2 = 0
    · rw [show Nat.beq (k % 2) 0 = true by rw [e0]; rfl, show Nat.beq (k' % 2) 0 = true by rw [e1]; rfl]
      simp only [cond_true]
      rw [ih _ _ _ _ hk hk']
      by_cases e : k' = k
      · rw [if_pos e, if_pos (by rw [e])]
      · rw [if_neg e, if_neg (by omega)]
    · rw [show Nat.beq (k % 2) 0 = true by rw [e0]; rfl, show Nat.beq (k' % 2) 0 = false by rw [show k' % 2 = 1 by omega]; rfl]
      simp only [cond_true, cond_false]
      rw [if_neg (by omega)]
    · rw [show Nat.beq (k % 2) 0 = false by rw [show k % 2 = 1 by omega]; rfl, show Nat.beq (k' % 2) 0 = true by rw [e1]; rfl]
      simp only [cond_true, cond_false]
      rw [if_neg (by omega)]
    · rw [show Nat.beq (k % 2) 0 = false by rw [show k % 2 = 1 by omega]; rfl, show Nat.beq (k' % 2) 0 = false by rw [show k' % 2 = 1 by omega]; rfl]
      simp only [cond_false]
      rw [ih _ _ _ _ hk hk']
      by_cases e : k' = k
      · rw [if_pos e, if_pos (by rw [e])]
      · rw [if_neg e, if_neg (by omega)]
theorem rx_blt {a b : Nat} : Nat.blt a b = true ↔ a < b := by simp [Nat.blt_eq]
theorem rx_hg_lt {h : rx_H} {q : Nat} {c : rx_C} (e : rx_hg h q = some c) : q < h.1 := by
  unfold rx_hg at e
  cases hb : Nat.blt q h.1 with
  | true => exact rx_blt.mp hb
  | false => rw [hb] at e; cases e
theorem rx_hg_hs {h : rx_H} (h8 : h.1 ≤ 256) {q q' : Nat} {c : rx_C} (hq : q < h.1) : rx_hg (rx_hs h q c) q' = if q' = q then some c else rx_hg h q' := by
  unfold rx_hg rx_hs
  by_cases hl : q' < h.1
  · rw [rx_blt.mpr hl]
    exact rx_tg_ts 8 h.2 q q' c (by simpa using Nat.lt_of_lt_of_le hq h8) (by simpa using Nat.lt_of_lt_of_le hl h8)
  · rw [show Nat.blt q' h.1 = false from Bool.eq_false_iff.mpr (fun z => hl (rx_blt.mp z)), if_neg (by omega)]; rfl
theorem rx_hg_hp {h : rx_H} (h8 : h.1 < 256) {q' : Nat} {c : rx_C} : rx_hg (rx_hp h c) q' = if q' = h.1 then some c else rx_hg h q' := by
  unfold rx_hg rx_hp
  show (bif Nat.blt q' (h.1 + 1) then rx_tg 8 (rx_ts 8 h.2 h.1 c) q' else none) = _
  by_cases hl : q' < h.1 + 1
  · rw [rx_blt.mpr hl]
    show rx_tg 8 (rx_ts 8 h.2 h.1 c) q' = _
    rw [rx_tg_ts 8 h.2 h.1 q' c (by simpa using h8) (by simp; omega)]
    by_cases e : q' = h.1
    · rw [if_pos e, if_pos e]
    · rw [if_neg e, if_neg e, rx_blt.mpr (by omega)]; rfl
  · rw [show Nat.blt q' (h.1 + 1) = false from Bool.eq_false_iff.mpr (fun z => hl (rx_blt.mp z)), show Nat.blt q' h.1 = false from Bool.eq_false_iff.mpr (fun z => hl (Nat.lt_succ_of_lt (rx_blt.mp z))), if_neg (by omega)]; rfl
-- what the numbers stand for
noncomputable def rx_bias (x : Int32) : Nat := (x.toInt + 2147483648).toNat
noncomputable def rx_cv (b : Nat → Nat) (ad : List Nat) (en : List Int32) (v : Nat) : Option Value :=
  if v % 4 = 0 then some (.int (Int32.ofNat (v / 4)))
  else if v % 4 = 1 then some (.long (Int64.ofNat (v / 4)))
  else if v % 4 = 2 then (if v / 4 = 0 then some .null else if v / 4 = 1 then some (.ref (b 0)) else if 1000 ≤ v / 4 then some (.ref (b (v / 4 - 999))) else (ad[v / 4 - 2]?).map Value.ref)
  else (en[v / 4]?).map Value.int
theorem rx_get_mono {α : Type} {l l' : List α} (h : l <+: l') {i : Nat} {x : α} (e : l[i]? = some x) : l'[i]? = some x := by
  obtain ⟨t, rfl⟩ := h
  rw [List.getElem?_append_left (List.getElem?_eq_some_iff.mp e).1]
  exact e
theorem rx_cv_mono {b : Nat → Nat} {ad ad' : List Nat} {en en' : List Int32} (ha : ad <+: ad') (he : en <+: en') {v : Nat} {x : Value} (h : rx_cv b ad en v = some x) : rx_cv b ad' en' v = some x := by
  unfold rx_cv at h ⊢
  by_cases h0 : v % 4 = 0
  · rw [if_pos h0] at h ⊢; exact h
  rw [if_neg h0] at h ⊢
  by_cases h1 : v % 4 = 1
  · rw [if_pos h1] at h ⊢; exact h
  rw [if_neg h1] at h ⊢
  by_cases h2 : v % 4 = 2
  · rw [if_pos h2] at h ⊢
    by_cases h3 : v / 4 = 0
    · rw [if_pos h3] at h ⊢; exact h
    rw [if_neg h3] at h ⊢
    by_cases h4 : v / 4 = 1
    · rw [if_pos h4] at h ⊢; exact h
    rw [if_neg h4] at h ⊢
    by_cases h9 : 1000 ≤ v / 4
    · rw [if_pos h9] at h ⊢; exact h
    rw [if_neg h9] at h ⊢
    obtain ⟨a, h5, h6⟩ := Option.map_eq_some_iff.mp h
    exact Option.map_eq_some_iff.mpr ⟨a, rx_get_mono ha h5, h6⟩
  · rw [if_neg h2] at h ⊢
    obtain ⟨a, h5, h6⟩ := Option.map_eq_some_iff.mp h
    exact Option.map_eq_some_iff.mpr ⟨a, rx_get_mono he h5, h6⟩
theorem rx_bias_ofNat (n : Nat) : rx_bias (Int32.ofNat n) = rx_bi n := by
  have h : (Int32.ofNat n).toInt = Int.bmod (n : Int) (2 ^ 32) := by simp
  unfold rx_bias rx_bi
  rw [h]
  show _ = (n + 2147483648) % 4294967296
  simp only [Int.bmod]
  omega
theorem rx_bias_inj {x y : Int32} (h : rx_bias x = rx_bias y) : x = y := by
  have h1 := x.le_toInt
  have h2 := y.le_toInt
  unfold rx_bias at h
  apply Int32.toInt_inj.mp
  omega
theorem rx_bias_lt {x y : Int32} : x < y ↔ rx_bias x < rx_bias y := by
  have h1 := x.le_toInt
  have h2 := y.le_toInt
  rw [Int32.lt_iff_toInt_lt]
  unfold rx_bias
  omega
theorem rx_bias_le {x y : Int32} : x ≤ y ↔ rx_bias x ≤ rx_bias y := by
  have h1 := x.le_toInt
  have h2 := y.le_toInt
  rw [Int32.le_iff_toInt_le]
  unfold rx_bias
  omega
theorem rx_bias_max (x : Int32) : rx_bias x ≤ 4294967295 := by
  have h1 := x.toInt_lt
  unfold rx_bias
  omega
theorem rx_of_bias {x : Int32} {a : Nat} (h : rx_bias x = a) : x = Int32.ofNat (rx_bi a) := by
  apply rx_bias_inj
  rw [rx_bias_ofNat, h]
  have := rx_bias_max x
  unfold rx_bi
  show a = ((a + 2147483648) % 4294967296 + 2147483648) % 4294967296
  omega
