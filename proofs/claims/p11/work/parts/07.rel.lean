-- tags
theorem rx_cv0 {b : Nat → Nat} {ad : List Nat} {en : List Int32} {v : Nat} (h : v % 4 = 0) : rx_cv b ad en v = some (.int (Int32.ofNat (v / 4))) := by unfold rx_cv; rw [if_pos h]
theorem rx_cv1 {b : Nat → Nat} {ad : List Nat} {en : List Int32} {v : Nat} (h : v % 4 = 1) : rx_cv b ad en v = some (.long (Int64.ofNat (v / 4))) := by unfold rx_cv; rw [if_neg (by omega), if_pos h]
theorem rx_cv2 {b : Nat → Nat} {ad : List Nat} {en : List Int32} {v : Nat} (h : v % 4 = 2) (h2 : 2 ≤ v / 4) (h3 : v / 4 < 1000) : rx_cv b ad en v = (ad[v / 4 - 2]?).map Value.ref := by
  unfold rx_cv; rw [if_neg (by omega), if_neg (by omega), if_pos h, if_neg (by omega), if_neg (by omega), if_neg (by omega)]
theorem rx_cvS {b : Nat → Nat} {ad : List Nat} {en : List Int32} {v : Nat} (h : v % 4 = 2) (h3 : 1000 ≤ v / 4) : rx_cv b ad en v = some (.ref (b (v / 4 - 999))) := by
  unfold rx_cv; rw [if_neg (by omega), if_neg (by omega), if_pos h, if_neg (by omega), if_neg (by omega), if_pos h3]
theorem rx_cv3 {b : Nat → Nat} {ad : List Nat} {en : List Int32} {v : Nat} (h : v % 4 = 3) : rx_cv b ad en v = (en[v / 4]?).map Value.int := by unfold rx_cv; rw [if_neg (by omega), if_neg (by omega), if_neg (by omega)]
theorem rx_beq {a b : Nat} : Nat.beq a b = true ↔ a = b := ⟨Nat.eq_of_beq_eq_true, fun h => by rw [h]; exact Nat.beq_refl b⟩
theorem rx_ble {a b : Nat} : Nat.ble a b = true ↔ a ≤ b := ⟨Nat.le_of_ble_eq_true, Nat.ble_eq_true_of_le⟩
theorem rx_and2 {a b : Bool} : (a && b) = true ↔ a = true ∧ b = true := by cases a <;> cases b <;> simp
theorem rx_or2 {a b : Bool} : (a || b) = true ↔ a = true ∨ b = true := by cases a <;> cases b <;> simp
theorem rx_cond {α : Type} {b : Bool} {x : Option α} {y : α} (h : (bif b then x else none) = some y) : b = true ∧ x = some y := by
  cases b with
  | true => exact ⟨rfl, h⟩
  | false => cases h
theorem rx_int_cv (b : Nat → Nat) (ad : List Nat) (en : List Int32) (n : Nat) : rx_cv b ad en (rx_int n) = some (.int (Int32.ofNat n)) := by
  rw [rx_cv0 (show rx_int n % 4 = 0 by show (4 * n) % 4 = 0; omega)]
  rw [show rx_int n / 4 = n by show (4 * n) / 4 = n; omega]
theorem rx_lng_cv (b : Nat → Nat) (ad : List Nat) (en : List Int32) (n : Nat) : rx_cv b ad en (rx_lng n) = some (.long (Int64.ofNat n)) := by
  rw [rx_cv1 (show rx_lng n % 4 = 1 by show (4 * n + 1) % 4 = 1; omega)]
  rw [show rx_lng n / 4 = n by show (4 * n + 1) / 4 = n; omega]
theorem rx_ref_cv {b : Nat → Nat} {ad : List Nat} {en : List Int32} {q a : Nat} (hq : q < 256) (h : ad[q]? = some a) : rx_cv b ad en (rx_ref q) = some (.ref a) := by
  have e1 : rx_ref q % 4 = 2 := by show (4 * (q + 2) + 2) % 4 = 2; omega
  have e2 : rx_ref q / 4 = q + 2 := by show (4 * (q + 2) + 2) / 4 = q + 2; omega
  rw [rx_cv2 e1 (by omega) (by omega), e2, show q + 2 - 2 = q by omega, h]; rfl
theorem rx_sym_cv {b : Nat → Nat} {ad : List Nat} {en : List Int32} {t : Nat} {x : Int32} (h : en[t]? = some x) : rx_cv b ad en (rx_sym t) = some (.int x) := by
  have e1 : rx_sym t % 4 = 3 := by show (4 * t + 3) % 4 = 3; omega
  have e2 : rx_sym t / 4 = t := by show (4 * t + 3) / 4 = t; omega
  rw [rx_cv3 e1, e2, h]; rfl
/-- an int -/
theorem rx_isI_cv {b : Nat → Nat} {ad : List Nat} {en : List Int32} {v : Nat} {x : Value} (h : rx_isI v = true) (hx : rx_cv b ad en v = some x) : ∃ n, x = .int n := by
  rcases rx_or2.mp h with h | h
  · rw [rx_cv0 (rx_beq.mp h)] at hx; exact ⟨_, (Option.some.inj hx).symm⟩
  · rw [rx_cv3 (rx_beq.mp h)] at hx
    obtain ⟨n, -, hn⟩ := Option.map_eq_some_iff.mp hx
    exact ⟨n, hn.symm⟩
theorem rx_isJ_cv {b : Nat → Nat} {ad : List Nat} {en : List Int32} {v : Nat} {x : Value} (h : rx_isJ v = true) (hx : rx_cv b ad en v = some x) : x = .long (Int64.ofNat (v / 4)) := by
  rw [rx_cv1 (rx_beq.mp h)] at hx; exact (Option.some.inj hx).symm
theorem rx_isA_cv {b : Nat → Nat} {ad : List Nat} {en : List Int32} {v : Nat} {x : Value} (h : rx_isA v = true) (hx : rx_cv b ad en v = some x) : x = .null ∨ ∃ a, x = .ref a := by
  have h2 : v % 4 = 2 := rx_beq.mp h
  unfold rx_cv at hx
  rw [if_neg (by omega), if_neg (by omega), if_pos h2] at hx
  by_cases h3 : v / 4 = 0
  · rw [if_pos h3] at hx; exact Or.inl (Option.some.inj hx).symm
  rw [if_neg h3] at hx
  by_cases h4 : v / 4 = 1
  · rw [if_pos h4] at hx; exact Or.inr ⟨_, (Option.some.inj hx).symm⟩
  rw [if_neg h4] at hx
  by_cases h5 : 1000 ≤ v / 4
  · rw [if_pos h5] at hx; exact Or.inr ⟨_, (Option.some.inj hx).symm⟩
  rw [if_neg h5] at hx
  obtain ⟨a, -, ha⟩ := Option.map_eq_some_iff.mp hx
  exact Or.inr ⟨a, ha.symm⟩
theorem rx_isR_cv {b : Nat → Nat} {ad : List Nat} {en : List Int32} {v : Nat} {x : Value} (h : rx_isR v = true) (hx : rx_cv b ad en v = some x) : ∃ a, x = .ref a := by
  obtain ⟨h1, h2⟩ := rx_and2.mp h
  have h2 : 0 < v / 4 := rx_blt.mp h2
  have h1 : v % 4 = 2 := rx_beq.mp h1
  unfold rx_cv at hx
  rw [if_neg (by omega), if_neg (by omega), if_pos h1, if_neg (by omega)] at hx
  by_cases h4 : v / 4 = 1
  · rw [if_pos h4] at hx; exact ⟨_, (Option.some.inj hx).symm⟩
  rw [if_neg h4] at hx
  by_cases h5 : 1000 ≤ v / 4
  · rw [if_pos h5] at hx; exact ⟨_, (Option.some.inj hx).symm⟩
  rw [if_neg h5] at hx
  obtain ⟨a, -, ha⟩ := Option.map_eq_some_iff.mp hx
  exact ⟨a, ha.symm⟩
theorem rx_cat_cv {b : Nat → Nat} {ad : List Nat} {en : List Int32} {v : Nat} {x : Value} (hx : rx_cv b ad en v = some x) : x.category = if rx_isJ v = true then 2 else 1 := by
  by_cases h1 : v % 4 = 1
  · rw [if_pos (show rx_isJ v = true from rx_beq.mpr h1)]
    rw [rx_cv1 h1] at hx; cases hx; rfl
  · rw [if_neg (show ¬ rx_isJ v = true from fun z => h1 (rx_beq.mp z))]
    by_cases h0 : v % 4 = 0
    · rw [rx_cv0 h0] at hx; cases hx; rfl
    by_cases h2 : v % 4 = 2
    · rcases rx_isA_cv (show rx_isA v = true from rx_beq.mpr h2) hx with rfl | ⟨a, rfl⟩ <;> rfl
    · rw [rx_cv3 (by omega)] at hx
      obtain ⟨n, -, hn⟩ := Option.map_eq_some_iff.mp hx
      cases hn; rfl
-- the numbers that are not known
noncomputable def rx_RI (iv : rx_I) (en : List Int32) : Prop := iv.length = en.length ∧ ∀ (t a b : Nat) (x : Int32), iv[t]? = some (a, b) → en[t]? = some x → a ≤ rx_bias x ∧ rx_bias x ≤ b
theorem rx_RI.ex {iv : rx_I} {en : List Int32} (h : rx_RI iv en) {t a b : Nat} (e : iv[t]? = some (a, b)) : ∃ x, en[t]? = some x ∧ a ≤ rx_bias x ∧ rx_bias x ≤ b := by
  have hl : t < en.length := by rw [← h.1]; exact (List.getElem?_eq_some_iff.mp e).1
  exact ⟨en[t], List.getElem?_eq_getElem hl, h.2 t a b _ e (List.getElem?_eq_getElem hl)⟩
theorem rx_RI.push {iv : rx_I} {en : List Int32} (h : rx_RI iv en) {a b : Nat} {x : Int32} (h1 : a ≤ rx_bias x) (h2 : rx_bias x ≤ b) : rx_RI (iv ++ [(a, b)]) (en ++ [x]) := by
  refine ⟨by simp [h.1], fun t a' b' y e1 e2 => ?_⟩
  by_cases ht : t < iv.length
  · rw [List.getElem?_append_left ht] at e1
    rw [List.getElem?_append_left (by rw [← h.1]; exact ht)] at e2
    exact h.2 t a' b' y e1 e2
  · rw [List.getElem?_append_right (by omega)] at e1
    rw [List.getElem?_append_right (by rw [← h.1]; omega)] at e2
    have hz : t - iv.length < 1 := (List.getElem?_eq_some_iff.mp e1).1
    have h0 : t - iv.length = 0 := by omega
    rw [h0] at e1
    rw [← h.1, h0] at e2
    cases e1; cases e2
    exact ⟨h1, h2⟩
theorem rx_kn_or (iv : rx_I) (v : Nat) : rx_kn iv v = v ∨ ∃ a : Nat, rx_tk v = 3 ∧ iv[rx_pl v]? = some (a, a) ∧ rx_kn iv v = rx_int (rx_bi a) := by
  unfold rx_kn
  cases h3 : Nat.beq (rx_tk v) 3 with
  | false => exact Or.inl rfl
  | true =>
    rw [cond_true, rx_nth_eq]
    cases e : iv[rx_pl v]? with
    | none => exact Or.inl rfl
    | some q =>
      obtain ⟨a, b'⟩ := q
      show (bif Nat.beq a b' then rx_int (rx_bi a) else v) = v ∨ _
      cases hab : Nat.beq a b' with
      | false => exact Or.inl rfl
      | true =>
        have hab : a = b' := rx_beq.mp hab
        subst hab
        refine Or.inr ⟨a, rx_beq.mp h3, rfl, ?_⟩
        show (bif Nat.beq a a then _ else _) = _
        rw [Nat.beq_refl, cond_true]
/-- a value of which the interval is one number -/
theorem rx_kn_cv {b : Nat → Nat} {ad : List Nat} {iv : rx_I} {en : List Int32} (h : rx_RI iv en) {v : Nat} {x : Value} (hx : rx_cv b ad en v = some x) : rx_cv b ad en (rx_kn iv v) = some x := by
  rcases rx_kn_or iv v with h1 | ⟨a, h3, e, h1⟩
  · rw [h1]; exact hx
  · obtain ⟨y, e1, e2, e3⟩ := h.ex e
    have hy : y = Int32.ofNat (rx_bi a) := rx_of_bias (Nat.le_antisymm e3 e2)
    rw [h1, rx_int_cv, ← hy]
    have h4 := rx_cv3 (b := b) (ad := ad) (en := en) h3
    rw [hx] at h4
    rw [h4]
    exact (congrArg (Option.map Value.int) e1).symm
/-- the interval of a value -/
theorem rx_io_cv {b : Nat → Nat} {ad : List Nat} {iv : rx_I} {en : List Int32} (h : rx_RI iv en) {v lo hi : Nat} (hi' : rx_io iv v = some (lo, hi)) : ∃ n, rx_cv b ad en v = some (.int n) ∧ lo ≤ rx_bias n ∧ rx_bias n ≤ hi := by
  unfold rx_io at hi'
  cases h0 : Nat.beq (rx_tk v) 0 with
  | true =>
    rw [h0] at hi'
    simp only [cond_true, Option.some.injEq, Prod.mk.injEq] at hi'
    refine ⟨_, rx_cv0 (rx_beq.mp h0), ?_⟩
    rw [rx_bias_ofNat]
    exact ⟨Nat.le_of_eq hi'.1.symm, Nat.le_of_eq hi'.2⟩
  | false =>
    rw [h0] at hi'
    simp only [cond_false] at hi'
    cases h3 : Nat.beq (rx_tk v) 3 with
    | false => rw [h3] at hi'; cases hi'
    | true =>
      rw [h3] at hi'
      simp only [cond_true] at hi'
      rw [rx_nth_eq] at hi'
      obtain ⟨y, e1, e2, e3⟩ := h.ex hi'
      exact ⟨y, by rw [rx_cv3 (rx_beq.mp h3), show v / 4 = rx_pl v from rfl, e1]; rfl, e2, e3⟩
theorem rx_RI.set {iv : rx_I} {en : List Int32} (h : rx_RI iv en) {t a b : Nat} {x : Int32} (e : en[t]? = some x) (h1 : a ≤ rx_bias x) (h2 : rx_bias x ≤ b) : rx_RI (iv.set t (a, b)) en := by
  refine ⟨by simp [h.1], fun t' a' b' y e1 e2 => ?_⟩
  by_cases ht : t' = t
  · subst ht
    have hl : t' < iv.length := by rw [h.1]; exact (List.getElem?_eq_some_iff.mp e).1
    rw [List.getElem?_set_self hl] at e1
    cases e1
    cases e.symm.trans e2
    exact ⟨h1, h2⟩
  · rw [List.getElem?_set_ne (Ne.symm ht)] at e1
    exact h.2 t' a' b' y e1 e2
theorem rx_cut_ok {iv i1 i2 : rx_I} {en : List Int32} (h : rx_RI iv en) {v m : Nat} (hc : rx_cut iv v m = some (i1, i2)) : rx_RI i1 en ∨ rx_RI i2 en := by
  unfold rx_cut at hc
  obtain ⟨-, hc⟩ := rx_cond hc
  rw [rx_nth_eq] at hc
  cases e : iv[rx_pl v]? with
  | none => rw [e] at hc; cases hc
  | some q =>
    obtain ⟨a, b⟩ := q
    rw [e] at hc
    obtain ⟨-, hc⟩ := rx_cond hc
    simp only [Option.some.injEq, Prod.mk.injEq] at hc
    obtain ⟨rfl, rfl⟩ := hc
    obtain ⟨y, e1, e2, e3⟩ := h.ex e
    rw [rx_upd_eq, rx_upd_eq]
    by_cases hm : rx_bias y ≤ m
    · exact Or.inl (h.set e1 e2 hm)
    · exact Or.inr (h.set e1 (by show m + 1 ≤ _; omega) e3)
-- cells, worlds
noncomputable def rx_RC (cy : Nat → ClassId) (b : Nat → Nat) (ad : List Nat) (en : List Int32) (c : rx_C) (e : va_E) : Prop :=
  c.2.2.length = c.2.1 ∧
  ((c.1 < 12 ∧ ∃ fs : List Value, e = .inr (c.1, fs) ∧ c.2.2.map (rx_cv b ad en) = fs.map some) ∨
  ((c.1 = 12 ∨ c.1 = 13 ∨ c.1 = 15) ∧ ∃ f : Nat → Int32, e = .inl (cy c.1, c.2.1, .inl f) ∧ ∀ j v, c.2.2[j]? = some v → rx_cv b ad en v = some (.int (f j))) ∨
  (c.1 = 14 ∧ ∃ f : Nat → Int64, e = .inl (cy 14, c.2.1, .inr (.inl f)) ∧ ∀ j v, c.2.2[j]? = some v → rx_cv b ad en v = some (.long (f j))) ∨
  (c.1 = 16 ∧ ∃ f : Nat → Option Nat, e = .inl (cy 16, c.2.1, .inr (.inr (.inr (.inr f)))) ∧ ∀ j v, c.2.2[j]? = some v → rx_cv b ad en v = some (va_rf (f j))))
theorem rx_map_mono {b : Nat → Nat} {ad ad' : List Nat} {en en' : List Int32} (ha : ad <+: ad') (he : en <+: en') : ∀ {l : List Nat} {fs : List Value}, l.map (rx_cv b ad en) = fs.map some → l.map (rx_cv b ad' en') = fs.map some
  | [], [], _ => rfl
  | [], _ :: _, h => by cases h
  | _ :: _, [], h => by cases h
  | v :: l, x :: fs, h => by
    simp only [List.map_cons, List.cons.injEq] at h ⊢
    exact ⟨rx_cv_mono ha he h.1, rx_map_mono ha he h.2⟩
theorem rx_RC.mono {cy : Nat → ClassId} {b : Nat → Nat} {ad ad' : List Nat} {en en' : List Int32} (ha : ad <+: ad') (he : en <+: en') {c : rx_C} {e : va_E} (h : rx_RC cy b ad en c e) : rx_RC cy b ad' en' c e := by
  obtain ⟨h0, h⟩ := h
  refine ⟨h0, ?_⟩
  rcases h with ⟨h1, fs, h2, h3⟩ | ⟨h1, f, h2, h3⟩ | ⟨h1, f, h2, h3⟩ | ⟨h1, f, h2, h3⟩
  · exact Or.inl ⟨h1, fs, h2, rx_map_mono ha he h3⟩
  · exact Or.inr (Or.inl ⟨h1, f, h2, fun j v hj => rx_cv_mono ha he (h3 j v hj)⟩)
  · exact Or.inr (Or.inr (Or.inl ⟨h1, f, h2, fun j v hj => rx_cv_mono ha he (h3 j v hj)⟩))
  · exact Or.inr (Or.inr (Or.inr ⟨h1, f, h2, fun j v hj => rx_cv_mono ha he (h3 j v hj)⟩))
noncomputable def rx_RW (cy : Nat → ClassId) (b : Nat → Nat) (ad : List Nat) (en : List Int32) (hp : rx_H) (ws : va_W) : Prop :=
  hp.1 ≤ 256 ∧ ad.length = hp.1 ∧ ws.length = hp.1 ∧ ∀ (q : Nat) (c : rx_C), rx_hg hp q = some c → ∃ (a : Nat) (e : va_E), ad[q]? = some a ∧ ws[q]? = some (a, e) ∧ rx_RC cy b ad en c e
theorem rx_RW.mono {cy : Nat → ClassId} {b : Nat → Nat} {ad : List Nat} {en en' : List Int32} (he : en <+: en') {hp : rx_H} {ws : va_W} (h : rx_RW cy b ad en hp ws) : rx_RW cy b ad en' hp ws :=
  ⟨h.1, h.2.1, h.2.2.1, fun q c hq => by obtain ⟨a, e, h1, h2, h3⟩ := h.2.2.2 q c hq; exact ⟨a, e, h1, h2, h3.mono (List.prefix_refl _) he⟩⟩
/-- a cell is written -/
theorem rx_RW.set {cy : Nat → ClassId} {b : Nat → Nat} {ad : List Nat} {en : List Int32} {hp : rx_H} {ws : va_W} (h : rx_RW cy b ad en hp ws) {q a : Nat} {c : rx_C} {e : va_E} (hq : q < hp.1) (ha : ad[q]? = some a) (hc : rx_RC cy b ad en c e) : rx_RW cy b ad en (rx_hs hp q c) (ws.set q (a, e)) := by
  refine ⟨h.1, h.2.1, by rw [List.length_set]; exact h.2.2.1, fun q' c' hq' => ?_⟩
  rw [rx_hg_hs h.1 hq] at hq'
  by_cases e0 : q' = q
  · subst e0
    rw [if_pos rfl] at hq'
    cases hq'
    exact ⟨a, e, ha, by rw [List.getElem?_set_self (by rw [h.2.2.1]; exact hq)], hc⟩
  · rw [if_neg e0] at hq'
    obtain ⟨a', e', h1, h2, h3⟩ := h.2.2.2 q' c' hq'
    exact ⟨a', e', h1, by rw [List.getElem?_set_ne (Ne.symm e0)]; exact h2, h3⟩
/-- a cell is made -/
theorem rx_RW.push {cy : Nat → ClassId} {b : Nat → Nat} {ad : List Nat} {en : List Int32} {hp : rx_H} {ws : va_W} (h : rx_RW cy b ad en hp ws) (h8 : hp.1 < 256) {a : Nat} {c : rx_C} {e : va_E} (hc : rx_RC cy b ad en c e) : rx_RW cy b (ad ++ [a]) en (rx_hp hp c) (ws ++ [(a, e)]) := by
  have hm : ad <+: ad ++ [a] := List.prefix_append _ _
  refine ⟨h8, by simp only [List.length_append, List.length_singleton, h.2.1]; rfl, by simp only [List.length_append, List.length_singleton, h.2.2.1]; rfl, fun q' c' hq' => ?_⟩
  rw [rx_hg_hp h8] at hq'
  by_cases e0 : q' = hp.1
  · subst e0
    rw [if_pos rfl] at hq'
    cases hq'
    exact ⟨a, e, by rw [← h.2.1]; simp, by rw [← h.2.2.1]; simp, hc.mono hm (List.prefix_refl _)⟩
  · rw [if_neg e0] at hq'
    obtain ⟨a', e', h1, h2, h3⟩ := h.2.2.2 q' c' hq'
    exact ⟨a', e', rx_get_mono hm h1, rx_get_mono (List.prefix_append _ _) h2, h3.mono hm (List.prefix_refl _)⟩
