section RXS3
variable {p : Program} {l : Launch} {e : Env} {R : Room} {s : State} {m : MethodId} {args : Array Value} {below : List Frame} {meth : Method} {c : Code} {Q : State → Prop} {cc : ByteArray}
variable {cy : Nat → ClassId} {D : va_G} {b : Nat → Nat} {A : Nat → Prop} {H0 : Heap} {ad0 : List Nat} {en0 : List Int32} {nL : Nat}
variable {K : rx_K} {N : rx_N} {pc na nb cn sn : Nat} {lv : rx_L} {st : List Nat} {hp : rx_H} {iv : rx_I} {out : List rx_S}
theorem rx_i8_ok (x : Int32) : 2147483520 ≤ rx_bias x.toInt8.toInt32 ∧ rx_bias x.toInt8.toInt32 ≤ 2147483775 := by
  have h1 := x.toInt8.le_toInt
  have h2 := x.toInt8.toInt_lt
  unfold rx_bias
  rw [Int8.toInt_toInt32]
  omega
theorem rx_i32_of (z : Int32) : Int32.ofNat (rx_i32 z) = z := (rx_ofN_bv z).symm
theorem rx_i64_of (z : Int64) : Int64.ofNat (rx_i64 z) = z := by
  apply Int64.toBitVec_inj.mp
  simp [rx_i64]
theorem rx_s_un {f : Nat → Nat} {F : Int32 → Int32} (row : ∀ {H : Heap} {locs : List Loc} {cells slots : Nat} {ls : Array Slot} {rest : List Value} {x : Int32}, W p l e R s m args below meth c H locs cells slots Q (F0 m (pc + 1) ls (.int (F x) :: rest)) → W p l e R s m args below meth c H locs cells slots Q (F0 m pc ls (.int x :: rest)))
    (hf : ∀ i, F (Int32.ofNat i) = Int32.ofNat (f i)) (h : rx_h_un f K N pc na nb lv st hp iv cn sn = some out) (hG : ∀ σ ∈ out, rx_G p l e R s m args below meth c Q cy D b A H0 ad0 en0 nL σ) : rx_G p l e R s m args below meth c Q cy D b A H0 ad0 en0 nL (pc, lv, st, hp, iv, cn, sn) := by
  intro ad en ls stA H locs ws hR
  obtain ⟨h1, h2, h3, h4, h5, h6, h7, h8, h9⟩ := hR
  match st, h with
  | [], h => cases h
  | x :: st', h =>
    obtain ⟨hk, h⟩ := rx_cond h
    cases h
    obtain ⟨xv, r, rfl, hxv, h8n⟩ := rx_st_cons h8
    cases (rx_cv0 (b := b) (ad := ad) (en := en) (rx_beq.mp hk)).symm.trans hxv
    refine row ?_
    rw [hf]
    exact hG _ List.mem_cons_self ad en ls _ H locs ws ⟨h1, h2, h3, h4, h5, h6, h7, rx_st_push (rx_int_cv b ad en _) h8n, h9⟩
theorem rx_s_ark {f : Nat → Nat → Option Nat} {F : Int32 → Int32 → Int32} (ok : Int32 → Prop) (row : ∀ {H : Heap} {locs : List Loc} {cells slots : Nat} {ls : Array Slot} {rest : List Value} {x y : Int32}, ok y → W p l e R s m args below meth c H locs cells slots Q (F0 m (pc + 1) ls (.int (F x y) :: rest)) → W p l e R s m args below meth c H locs cells slots Q (F0 m pc ls (.int y :: .int x :: rest)))
    (hf : ∀ i j n, f i j = some n → ok (Int32.ofNat j) ∧ F (Int32.ofNat i) (Int32.ofNat j) = Int32.ofNat n) (h : rx_h_ark f K N pc na nb lv st hp iv cn sn = some out) (hG : ∀ σ ∈ out, rx_G p l e R s m args below meth c Q cy D b A H0 ad0 en0 nL σ) : rx_G p l e R s m args below meth c Q cy D b A H0 ad0 en0 nL (pc, lv, st, hp, iv, cn, sn) := by
  intro ad en ls stA H locs ws hR
  obtain ⟨h1, h2, h3, h4, h5, h6, h7, h8, h9⟩ := hR
  match st, h with
  | [], h => cases h
  | [_], h => cases h
  | y :: x :: st', h =>
    obtain ⟨hk, h⟩ := rx_cond h
    obtain ⟨hkx, hky⟩ := rx_and2.mp hk
    cases hn : f (rx_pl x) (rx_pl y) with
    | none => rw [hn] at h; cases h
    | some n =>
      rw [hn] at h
      cases h
      obtain ⟨yv, r1, rfl, hyv, h8a⟩ := rx_st_cons h8
      obtain ⟨xv, r, rfl, hxv, h8b⟩ := rx_st_cons h8a
      cases (rx_cv0 (b := b) (ad := ad) (en := en) (rx_beq.mp hkx)).symm.trans hxv
      cases (rx_cv0 (b := b) (ad := ad) (en := en) (rx_beq.mp hky)).symm.trans hyv
      obtain ⟨ho, he⟩ := hf _ _ _ hn
      refine row ho ?_
      have he' : F (Int32.ofNat (x / 4)) (Int32.ofNat (y / 4)) = Int32.ofNat n := he
      rw [he']
      exact hG _ List.mem_cons_self ad en ls _ H locs ws ⟨h1, h2, h3, h4, h5, h6, h7, rx_st_push (rx_int_cv b ad en _) h8b, h9⟩
theorem rx_s_arJ {f : Nat → Nat → Nat} {F : Int64 → Int64 → Int64} (row : ∀ {H : Heap} {locs : List Loc} {cells slots : Nat} {ls : Array Slot} {rest : List Value} {x y : Int64}, W p l e R s m args below meth c H locs cells slots Q (F0 m (pc + 1) ls (.long (F x y) :: rest)) → W p l e R s m args below meth c H locs cells slots Q (F0 m pc ls (.long y :: .long x :: rest)))
    (hf : ∀ i j, F (Int64.ofNat i) (Int64.ofNat j) = Int64.ofNat (f i j)) (h : rx_h_arJ f K N pc na nb lv st hp iv cn sn = some out) (hG : ∀ σ ∈ out, rx_G p l e R s m args below meth c Q cy D b A H0 ad0 en0 nL σ) : rx_G p l e R s m args below meth c Q cy D b A H0 ad0 en0 nL (pc, lv, st, hp, iv, cn, sn) := by
  intro ad en ls stA H locs ws hR
  obtain ⟨h1, h2, h3, h4, h5, h6, h7, h8, h9⟩ := hR
  match st, h with
  | [], h => cases h
  | [_], h => cases h
  | y :: x :: st', h =>
    obtain ⟨hk, h⟩ := rx_cond h
    cases h
    obtain ⟨hkx, hky⟩ := rx_and2.mp hk
    obtain ⟨yv, r1, rfl, hyv, h8a⟩ := rx_st_cons h8
    obtain ⟨xv, r, rfl, hxv, h8b⟩ := rx_st_cons h8a
    have e1 := rx_isJ_cv hkx hxv
    have e2 := rx_isJ_cv hky hyv
    subst e1
    subst e2
    refine row ?_
    rw [hf]
    exact hG _ List.mem_cons_self ad en ls _ H locs ws ⟨h1, h2, h3, h4, h5, h6, h7, rx_st_push (rx_lng_cv b ad en _) h8b, h9⟩
theorem rx_s_shJ {f : Nat → Nat → Nat} {F : Int64 → Int32 → Int64} (row : ∀ {H : Heap} {locs : List Loc} {cells slots : Nat} {ls : Array Slot} {rest : List Value} {x : Int64} {y : Int32}, W p l e R s m args below meth c H locs cells slots Q (F0 m (pc + 1) ls (.long (F x y) :: rest)) → W p l e R s m args below meth c H locs cells slots Q (F0 m pc ls (.int y :: .long x :: rest)))
    (hf : ∀ i j, F (Int64.ofNat i) (Int32.ofNat j) = Int64.ofNat (f i j)) (h : rx_h_shJ f K N pc na nb lv st hp iv cn sn = some out) (hG : ∀ σ ∈ out, rx_G p l e R s m args below meth c Q cy D b A H0 ad0 en0 nL σ) : rx_G p l e R s m args below meth c Q cy D b A H0 ad0 en0 nL (pc, lv, st, hp, iv, cn, sn) := by
  intro ad en ls stA H locs ws hR
  obtain ⟨h1, h2, h3, h4, h5, h6, h7, h8, h9⟩ := hR
  match st, h with
  | [], h => cases h
  | [_], h => cases h
  | y :: x :: st', h =>
    obtain ⟨hk, h⟩ := rx_cond h
    cases h
    obtain ⟨hkx, hky⟩ := rx_and2.mp hk
    obtain ⟨yv, r1, rfl, hyv, h8a⟩ := rx_st_cons h8
    obtain ⟨xv, r, rfl, hxv, h8b⟩ := rx_st_cons h8a
    have e1 := rx_isJ_cv hkx hxv
    subst e1
    cases (rx_cv0 (b := b) (ad := ad) (en := en) (rx_beq.mp hky)).symm.trans hyv
    refine row ?_
    have he : F (Int64.ofNat (x / 4)) (Int32.ofNat (y / 4)) = Int64.ofNat (f (x / 4) (y / 4)) := hf _ _
    rw [he]
    exact hG _ List.mem_cons_self ad en ls _ H locs ws ⟨h1, h2, h3, h4, h5, h6, h7, rx_st_push (rx_lng_cv b ad en _) h8b, h9⟩
theorem rx_s_lcmp (hx : p.tables.exec = Jvm.exec) (hb : c.code = cc) (hd : decode cc pc = .ok (.lcmp, 1)) (h : rx_h_lcmp K N pc na nb lv st hp iv cn sn = some out) (hG : ∀ σ ∈ out, rx_G p l e R s m args below meth c Q cy D b A H0 ad0 en0 nL σ) : rx_G p l e R s m args below meth c Q cy D b A H0 ad0 en0 nL (pc, lv, st, hp, iv, cn, sn) := by
  intro ad en ls stA H locs ws hR
  obtain ⟨h1, h2, h3, h4, h5, h6, h7, h8, h9⟩ := hR
  match st, h with
  | [], h => cases h
  | [_], h => cases h
  | y :: x :: st', h =>
    obtain ⟨hk, h⟩ := rx_cond h
    cases h
    obtain ⟨hkx, hky⟩ := rx_and2.mp hk
    obtain ⟨yv, r1, rfl, hyv, h8a⟩ := rx_st_cons h8
    obtain ⟨xv, r, rfl, hxv, h8b⟩ := rx_st_cons h8a
    have e1 := rx_isJ_cv hkx hxv
    have e2 := rx_isJ_cv hky hyv
    subst e1
    subst e2
    refine W.lcmp hx hb hd ?_
    rw [← rx_i32_of (lg_cmp (Int64.ofNat (x / 4)) (Int64.ofNat (y / 4)))]
    exact hG _ List.mem_cons_self ad en ls _ H locs ws ⟨h1, h2, h3, h4, h5, h6, h7, rx_st_push (rx_int_cv b ad en _) h8b, h9⟩
theorem rx_cat1 {ad : List Nat} {en : List Int32} {v : Nat} {x : Value} (hj : rx_isJ v = false) (hx : rx_cv b ad en v = some x) : x.category = 1 := by
  rw [rx_cat_cv hx, if_neg (by rw [hj]; exact Bool.noConfusion)]
theorem rx_condF {α : Type} {q : Bool} {x : Option α} {y : α} (h : (bif q then none else x) = some y) : q = false ∧ x = some y := by
  cases q with
  | true => cases h
  | false => exact ⟨rfl, h⟩
theorem rx_s_dup (hx : p.tables.exec = Jvm.exec) (hb : c.code = cc) (hd : decode cc pc = .ok (.dup, 1)) (h : rx_h_dup K N pc na nb lv st hp iv cn sn = some out) (hG : ∀ σ ∈ out, rx_G p l e R s m args below meth c Q cy D b A H0 ad0 en0 nL σ) : rx_G p l e R s m args below meth c Q cy D b A H0 ad0 en0 nL (pc, lv, st, hp, iv, cn, sn) := by
  intro ad en ls stA H locs ws hR
  obtain ⟨h1, h2, h3, h4, h5, h6, h7, h8, h9⟩ := hR
  cases st with
  | nil => cases h
  | cons v st' =>
    obtain ⟨hk, h⟩ := rx_condF h
    cases h
    obtain ⟨x, r, rfl, hxv, h8n⟩ := rx_st_cons h8
    exact lv_dup hx hb hd (rx_cat1 hk hxv) (hG _ List.mem_cons_self ad en ls (x :: x :: r) H locs ws ⟨h1, h2, h3, h4, h5, h6, h7, rx_st_push hxv (rx_st_push hxv h8n), h9⟩)
theorem rx_s_pop (hx : p.tables.exec = Jvm.exec) (hb : c.code = cc) (hd : decode cc pc = .ok (.pop, 1)) (h : rx_h_pop K N pc na nb lv st hp iv cn sn = some out) (hG : ∀ σ ∈ out, rx_G p l e R s m args below meth c Q cy D b A H0 ad0 en0 nL σ) : rx_G p l e R s m args below meth c Q cy D b A H0 ad0 en0 nL (pc, lv, st, hp, iv, cn, sn) := by
  intro ad en ls stA H locs ws hR
  obtain ⟨h1, h2, h3, h4, h5, h6, h7, h8, h9⟩ := hR
  cases st with
  | nil => cases h
  | cons v st' =>
    obtain ⟨hk, h⟩ := rx_condF h
    cases h
    obtain ⟨x, r, rfl, hxv, h8n⟩ := rx_st_cons h8
    exact lv_pop hx hb hd (rx_cat1 hk hxv) (hG _ List.mem_cons_self ad en ls r H locs ws ⟨h1, h2, h3, h4, h5, h6, h7, h8n, h9⟩)
theorem rx_s_pop2 (hx : p.tables.exec = Jvm.exec) (hb : c.code = cc) (hd : decode cc pc = .ok (.pop2, 1)) (h : rx_h_pop2 K N pc na nb lv st hp iv cn sn = some out) (hG : ∀ σ ∈ out, rx_G p l e R s m args below meth c Q cy D b A H0 ad0 en0 nL σ) : rx_G p l e R s m args below meth c Q cy D b A H0 ad0 en0 nL (pc, lv, st, hp, iv, cn, sn) := by
  intro ad en ls stA H locs ws hR
  obtain ⟨h1, h2, h3, h4, h5, h6, h7, h8, h9⟩ := hR
  cases st with
  | nil => cases h
  | cons v st' =>
    obtain ⟨hk, h⟩ := rx_cond h
    cases h
    obtain ⟨x, r, rfl, hxv, h8n⟩ := rx_st_cons h8
    exact lv_pop2_2 hx hb hd (by rw [rx_cat_cv hxv, if_pos hk]) (hG _ List.mem_cons_self ad en ls r H locs ws ⟨h1, h2, h3, h4, h5, h6, h7, h8n, h9⟩)
theorem rx_s_dup2 (hx : p.tables.exec = Jvm.exec) (hb : c.code = cc) (hd : decode cc pc = .ok (.dup2, 1)) (h : rx_h_dup2 K N pc na nb lv st hp iv cn sn = some out) (hG : ∀ σ ∈ out, rx_G p l e R s m args below meth c Q cy D b A H0 ad0 en0 nL σ) : rx_G p l e R s m args below meth c Q cy D b A H0 ad0 en0 nL (pc, lv, st, hp, iv, cn, sn) := by
  intro ad en ls stA H locs ws hR
  obtain ⟨h1, h2, h3, h4, h5, h6, h7, h8, h9⟩ := hR
  match st, h with
  | [], h => cases h
  | [_], h => cases h
  | v :: w :: st', h =>
    obtain ⟨hk, h⟩ := rx_condF h
    cases h
    have hkv : rx_isJ v = false := by cases hv : rx_isJ v with | false => rfl | true => rw [hv] at hk; cases hk
    have hkw : rx_isJ w = false := by cases hw : rx_isJ w with | false => rfl | true => rw [hw, hkv] at hk; cases hk
    obtain ⟨x, r1, rfl, hxv, h8a⟩ := rx_st_cons h8
    obtain ⟨y, r, rfl, hyv, h8b⟩ := rx_st_cons h8a
    exact lv_dup2_11 hx hb hd (rx_cat1 hkv hxv) (rx_cat1 hkw hyv) (hG _ List.mem_cons_self ad en ls (x :: y :: x :: y :: r) H locs ws ⟨h1, h2, h3, h4, h5, h6, h7, rx_st_push hxv (rx_st_push hyv (rx_st_push hxv (rx_st_push hyv h8b))), h9⟩)
theorem rx_s_goto {off : Int} (hx : p.tables.exec = Jvm.exec) (hb : c.code = cc) (hd : decode cc pc = .ok (.goto off, 3)) (ht : (pc : Int) + off = (na : Int)) (h : rx_h_goto K N pc na nb lv st hp iv cn sn = some out) (hG : ∀ σ ∈ out, rx_G p l e R s m args below meth c Q cy D b A H0 ad0 en0 nL σ) : rx_G p l e R s m args below meth c Q cy D b A H0 ad0 en0 nL (pc, lv, st, hp, iv, cn, sn) := by
  intro ad en ls stA H locs ws hR
  obtain ⟨h1, h2, h3, h4, h5, h6, h7, h8, h9⟩ := hR
  cases h
  exact lv_goto hx hb hd ht (hG _ List.mem_cons_self ad en ls stA H locs ws ⟨h1, h2, h3, h4, h5, h6, h7, h8, h9⟩)
/-- a condition of two ints -/
noncomputable def rx_cnd (k : ClassFile.Cond) (x y : Int32) : Prop := match k with
  | .lt => x < y | .ge => x ≥ y | .gt => x > y | .le => x ≤ y | .eq => x = y | .ne => x ≠ y
theorem rx_tri_ok {k : ClassFile.Cond} {x y : Int32} {a1 a2 b1 b2 : Nat} (h1 : a1 ≤ rx_bias x) (h2 : rx_bias x ≤ a2) (h3 : b1 ≤ rx_bias y) (h4 : rx_bias y ≤ b2) {t : Bool} (h : rx_tri k (a1, a2) (b1, b2) = some t) : (t = true ↔ rx_cnd k x y) := by
  have two : ∀ {u v : Bool} {z w : Bool}, (bif u then some z else bif v then some w else none) = some t → (u = true ∧ t = z) ∨ (v = true ∧ t = w) := by
    intro u v z w hh
    cases u with
    | true => exact Or.inl ⟨rfl, (Option.some.inj hh).symm⟩
    | false => cases v with
      | true => exact Or.inr ⟨rfl, (Option.some.inj hh).symm⟩
      | false => cases hh
  have ne : ∀ z : x = y, rx_bias x = rx_bias y := fun z => by rw [z]
  cases k <;> simp only [rx_tri] at h <;> rcases two h with ⟨hu, rfl⟩ | ⟨hu, rfl⟩ <;> simp only [rx_cnd]
  · rcases rx_or2.mp hu with q | q <;> have q := rx_blt.mp q <;> simp only [Bool.false_eq_true, false_iff] <;> exact fun z => by have := ne z; omega
  · obtain ⟨q1, q2⟩ := rx_and2.mp hu
    obtain ⟨q2, q3⟩ := rx_and2.mp q2
    have q1 := rx_beq.mp q1; have q2 := rx_beq.mp q2; have q3 := rx_beq.mp q3
    simp only [true_iff]
    exact rx_bias_inj (by omega)
  · rcases rx_or2.mp hu with q | q <;> have q := rx_blt.mp q <;> simp only [true_iff] <;> exact fun z => by have := ne z; omega
  · obtain ⟨q1, q2⟩ := rx_and2.mp hu
    obtain ⟨q2, q3⟩ := rx_and2.mp q2
    have q1 := rx_beq.mp q1; have q2 := rx_beq.mp q2; have q3 := rx_beq.mp q3
    simp only [Bool.false_eq_true, false_iff]
    exact fun z => z (rx_bias_inj (by omega))
  · have q := rx_blt.mp hu; simp only [true_iff]; exact rx_bias_lt.mpr (by omega)
  · have q := rx_ble.mp hu; simp only [Bool.false_eq_true, false_iff]; exact fun z => by have := rx_bias_lt.mp z; omega
  · have q := rx_blt.mp hu; simp only [Bool.false_eq_true, false_iff]; exact fun z => by have := rx_bias_le.mp z; omega
  · have q := rx_ble.mp hu; simp only [true_iff]; exact rx_bias_le.mpr (by omega)
  · have q := rx_blt.mp hu; simp only [true_iff]; exact rx_bias_lt.mpr (by omega)
  · have q := rx_ble.mp hu; simp only [Bool.false_eq_true, false_iff]; exact fun z => by have := rx_bias_lt.mp z; omega
  · have q := rx_blt.mp hu; simp only [Bool.false_eq_true, false_iff]; exact fun z => by have := rx_bias_le.mp z; omega
  · have q := rx_ble.mp hu; simp only [true_iff]; exact rx_bias_le.mpr (by omega)
/-- branches: the row tells the machine's two ways -/
theorem rx_s_br {k : ClassFile.Cond} {x y : Nat} {st' : List Nat}
    (row : ∀ {ad : List Nat} {en : List Int32} {H : Heap} {locs : List Loc} {ls : Array Slot} {stA : List Value} {xa ya : Int32}, rx_cv b ad en x = some (.int xa) → rx_cv b ad en y = some (.int ya) → st.map (rx_cv b ad en) = stA.map some → ∃ r : List Value, st'.map (rx_cv b ad en) = r.map some ∧ ((rx_cnd k xa ya → W p l e R s m args below meth c H locs cn sn Q (F0 m na ls r)) → (¬ rx_cnd k xa ya → W p l e R s m args below meth c H locs cn sn Q (F0 m (pc + 3) ls r)) → W p l e R s m args below meth c H locs cn sn Q (F0 m pc ls stA)))
    (h : rx_br k na pc x y st st' lv hp iv cn sn = some out) (hG : ∀ σ ∈ out, rx_G p l e R s m args below meth c Q cy D b A H0 ad0 en0 nL σ) : rx_G p l e R s m args below meth c Q cy D b A H0 ad0 en0 nL (pc, lv, st, hp, iv, cn, sn) := by
  unfold rx_br at h
  cases hi1 : rx_io iv x with
  | none => rw [hi1] at h; cases h
  | some a =>
    cases hi2 : rx_io iv y with
    | none => rw [hi1, hi2] at h; cases h
    | some b' =>
      rw [hi1, hi2] at h
      obtain ⟨a1, a2⟩ := a
      obtain ⟨b1, b2⟩ := b'
      replace h : (match rx_tri k (a1, a2) (b1, b2) with
        | some true => some [(na, lv, st', hp, iv, cn, sn)]
        | some false => some [(Nat.add pc 3, lv, st', hp, iv, cn, sn)]
        | none => bif Nat.beq b1 b2 then rx_two pc lv st hp (rx_cut iv x (bif Nat.blt a1 b1 then Nat.pred b1 else b1)) cn sn else rx_two pc lv st hp (rx_cut iv y (bif Nat.blt b1 a1 then Nat.pred a1 else a1)) cn sn) = some out := h
      cases ht : rx_tri k (a1, a2) (b1, b2) with
      | none =>
        rw [ht] at h
        replace h : (bif Nat.beq b1 b2 then rx_two pc lv st hp (rx_cut iv x (bif Nat.blt a1 b1 then Nat.pred b1 else b1)) cn sn else rx_two pc lv st hp (rx_cut iv y (bif Nat.blt b1 a1 then Nat.pred a1 else a1)) cn sn) = some out := h
        cases hbb : Nat.beq b1 b2 with
        | true => rw [hbb, cond_true] at h; exact rx_s_two rfl h hG
        | false => rw [hbb, cond_false] at h; exact rx_s_two rfl h hG
      | some t =>
        rw [ht] at h
        intro ad en ls stA H locs ws hR
        obtain ⟨h1, h2, h3, h4, h5, h6, h7, h8, h9⟩ := hR
        obtain ⟨xa, ex, e1, e2⟩ := rx_io_cv (b := b) (ad := ad) h9 hi1
        obtain ⟨ya, ey, e3, e4⟩ := rx_io_cv (b := b) (ad := ad) h9 hi2
        have hiff := rx_tri_ok e1 e2 e3 e4 ht
        obtain ⟨r, hr, hrow⟩ := row (H := H) (locs := locs) (ls := ls) ex ey h8
        cases t with
        | true =>
          cases h
          exact hrow (fun _ => hG _ List.mem_cons_self ad en ls r H locs ws ⟨h1, h2, h3, h4, h5, h6, h7, hr, h9⟩) (fun z => absurd (hiff.mp rfl) z)
        | false =>
          cases h
          exact hrow (fun z => absurd (hiff.mpr z) (by decide)) (fun _ => hG _ List.mem_cons_self ad en ls r H locs ws ⟨h1, h2, h3, h4, h5, h6, h7, hr, h9⟩)
theorem rx_s_if {k : ClassFile.Cond} {off : Int} (hx : p.tables.exec = Jvm.exec) (hb : c.code = cc) (hd : decode cc pc = .ok (.ifCond k off, 3)) (ht : (pc : Int) + off = (na : Int)) (h : rx_h_if k K N pc na nb lv st hp iv cn sn = some out) (hG : ∀ σ ∈ out, rx_G p l e R s m args below meth c Q cy D b A H0 ad0 en0 nL σ) : rx_G p l e R s m args below meth c Q cy D b A H0 ad0 en0 nL (pc, lv, st, hp, iv, cn, sn) := by
  match st, h with
  | [], h => cases h
  | x :: st', h =>
    refine rx_s_br (k := k) (x := x) (y := 0) (st' := st') ?_ h hG
    intro ad en H locs ls stA xa ya ex ey hs
    obtain ⟨x1, r, rfl, hx1, hr⟩ := rx_st_cons hs
    cases ex.symm.trans hx1
    have e0 : ya = 0 := by
      have := ey.symm.trans (rx_int_cv b ad en 0)
      cases this; rfl
    subst e0
    refine ⟨r, hr, fun kt kf => ?_⟩
    cases k with
    | eq => exact lv_if_eq hx hb hd ht kt kf
    | ne => exact lv_if_ne hx hb hd ht kt (fun z => kf (fun w => w z))
    | lt => exact lv_if_lt hx hb hd ht kt kf
    | ge => exact lv_if_ge hx hb hd ht kt kf
    | gt => exact lv_if_gt hx hb hd ht kt kf
    | le => exact lv_if_le hx hb hd ht kt kf
theorem rx_s_icmp {k : ClassFile.Cond} {off : Int} (hx : p.tables.exec = Jvm.exec) (hb : c.code = cc) (hd : decode cc pc = .ok (.if_icmp k off, 3)) (ht : (pc : Int) + off = (na : Int)) (h : rx_h_icmp k K N pc na nb lv st hp iv cn sn = some out) (hG : ∀ σ ∈ out, rx_G p l e R s m args below meth c Q cy D b A H0 ad0 en0 nL σ) : rx_G p l e R s m args below meth c Q cy D b A H0 ad0 en0 nL (pc, lv, st, hp, iv, cn, sn) := by
  match st, h with
  | [], h => cases h
  | [_], h => cases h
  | y :: x :: st', h =>
    refine rx_s_br (k := k) (x := x) (y := y) (st' := st') ?_ h hG
    intro ad en H locs ls stA xa ya ex ey hs
    obtain ⟨y1, r1, rfl, hy1, hr1⟩ := rx_st_cons hs
    obtain ⟨x1, r, rfl, hx1, hr⟩ := rx_st_cons hr1
    cases ex.symm.trans hx1
    cases ey.symm.trans hy1
    refine ⟨r, hr, fun kt kf => ?_⟩
    cases k with
    | eq => exact lv_icmp_eq hx hb hd ht kt kf
    | ne => exact lv_icmp_ne hx hb hd ht kt (fun z => kf (fun w => w z))
    | lt => exact lv_icmp_lt hx hb hd ht kt kf
    | ge => exact lv_icmp_ge hx hb hd ht kt kf
    | gt => exact lv_icmp_gt hx hb hd ht kt kf
    | le => exact lv_icmp_le hx hb hd ht kt kf
end RXS3
