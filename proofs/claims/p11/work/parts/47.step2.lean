section AXT
variable {w : ax_W} {X : ax_X} {md : List (Nat × Nat)} {ρ : Nat → Nat} {E : ax_E} {hp : rx_H} {K : rx_K} {N : rx_N} {pc na nb : Nat} {lv st lvc stc : List Nat} {out : List ax_A}
theorem ax_i2b_ok (z : Int32) : 2147483520 ≤ rx_bi (rx_i32 z.toInt8.toInt32) ∧ rx_bi (rx_i32 z.toInt8.toInt32) ≤ 2147483775 := by
  have h := rx_i8_ok z
  have e : rx_bias z.toInt8.toInt32 = rx_bi (rx_i32 z.toInt8.toInt32) := by
    rw [← rx_bias_ofNat, rx_i32_of]
  rw [e] at h
  exact h
theorem ax_t_un {f : Nat → Nat} {lo hi : Nat} (hf : ∀ x, f x < 4294967296 ∧ lo ≤ rx_bi (f x) ∧ rx_bi (f x) ≤ hi) (hE : ax_EO w X ρ E hp) (hT : ax_HT w hp) (hl : lv.map (ax_ev E.1 ρ) = lvc.map some)
    (h : (match st with | x :: st' => bif ax_isK E 0 x then ax_psh (Nat.add pc 1) lv st' (some (ax_val E (0, lo, hi))) else none | [] => none) = some out) (hs : st.map (ax_ev E.1 ρ) = stc.map some) : ∃ σ, rx_h_un f K N pc na nb lvc stc hp [] 0 0 = some [σ] ∧ ax_Res w X md ρ E.1 hp out σ := by
  match st, h with
  | [], h => cases h
  | x :: st', h =>
    obtain ⟨hk, h⟩ := rx_cond h
    obtain ⟨xv, r, rfl, hx, hr⟩ := ax_evs_cons hs
    obtain ⟨k0, k1⟩ := ax_isK0 hE hk hx
    obtain ⟨f1, f2, f3⟩ := hf (xv / 4)
    refine ⟨_, ?_, ax_t_val hE hT hl hr (ax_int_ok f1 f2 f3) h⟩
    show (bif Nat.beq (rx_tk xv) 0 then some [(Nat.add pc 1, lvc, rx_int (f (rx_pl xv)) :: r, hp, [], 0, 0)] else none) = _
    rw [rx_beq.mpr (show rx_tk xv = 0 from k0)]
    rfl
theorem ax_t_i2b (hE : ax_EO w X ρ E hp) (hT : ax_HT w hp) (hl : lv.map (ax_ev E.1 ρ) = lvc.map some)
    (h : (match st with | x :: st' => bif ax_isK E 0 x then ax_psh (Nat.add pc 1) lv st' (some (ax_kp5 x (ax_val E (0, 2147483520, 2147483775)))) else none | [] => none) = some out) (hs : st.map (ax_ev E.1 ρ) = stc.map some) : ∃ σ, rx_h_un rx_f_i2b K N pc na nb lvc stc hp [] 0 0 = some [σ] ∧ ax_Res w X md ρ E.1 hp out σ := by
  match st, h with
  | [], h => cases h
  | x :: st', h =>
    obtain ⟨hk, h⟩ := rx_cond h
    obtain ⟨xv, r, rfl, hx, hr⟩ := ax_evs_cons hs
    obtain ⟨k0, k1⟩ := ax_isK0 hE hk hx
    have f1 : rx_f_i2b (xv / 4) < 4294967296 := ax_i32_lt _
    have f23 : 2147483520 ≤ rx_bi (rx_f_i2b (xv / 4)) ∧ rx_bi (rx_f_i2b (xv / 4)) ≤ 2147483775 := ax_i2b_ok _
    obtain ⟨n1, ρ', a1, a2, a3⟩ := ax_val_ok hE (ax_int_ok f1 f23.1 f23.2 : ax_ok w (0, 2147483520, 2147483775) (rx_int (rx_f_i2b (xv / 4))))
    cases h
    have hno : ax_NO X (ax_val E (0, 2147483520, 2147483775)).2.1 ρ' hp (1043, [x, 0, (ax_val E (0, 2147483520, 2147483775)).1, 0, 0]) := by
      refine ⟨[xv, 0, rx_int (rx_f_i2b (xv / 4)), 0, 0], ax_evs_push (ax_ev_mono n1 a1 hx) (ax_evs_push (ax_ev_c (by decide)) (ax_evs_push a3 (ax_evs_push (ax_ev_c (by decide)) (ax_evs_push (ax_ev_c (by decide)) rfl)))), ?_⟩
      exact (ax_XF_bi (o := 43) (by decide)).mpr (Or.inr (Or.inr ⟨Or.inl rfl, k0, rfl⟩))
    refine ⟨(Nat.add pc 1, lvc, rx_int (rx_f_i2b (xv / 4)) :: r, hp, [], 0, 0), ?_, ax_new1 (E' := ax_addX (ax_val E (0, 2147483520, 2147483775)).2 (1043, [x, 0, (ax_val E (0, 2147483520, 2147483775)).1, 0, 0])) hT n1 a1 (ax_addX_ok a2 hno) (ax_evs_mono n1 a1 hl) (ax_evs_push a3 (ax_evs_mono n1 a1 hr)) List.mem_cons_self⟩
    show (bif Nat.beq (rx_tk xv) 0 then some [(Nat.add pc 1, lvc, rx_int (rx_f_i2b (rx_pl xv)) :: r, hp, [], 0, 0)] else none) = _
    rw [rx_beq.mpr (show rx_tk xv = 0 from k0)]
    rfl
theorem ax_t_ineg (hE : ax_EO w X ρ E hp) (hT : ax_HT w hp) (hl : lv.map (ax_ev E.1 ρ) = lvc.map some)
    (h : (match st with | x :: st' => bif ax_isK E 0 x then ax_psh (Nat.add pc 1) lv st' (some (ax_kp6 x (ax_val E (0, 0, 4294967295)))) else none | [] => none) = some out) (hs : st.map (ax_ev E.1 ρ) = stc.map some) : ∃ σ, rx_h_un rx_f_neg K N pc na nb lvc stc hp [] 0 0 = some [σ] ∧ ax_Res w X md ρ E.1 hp out σ := by
  match st, h with
  | [], h => cases h
  | x :: st', h =>
    obtain ⟨hk, h⟩ := rx_cond h
    obtain ⟨xv, r, rfl, hx, hr⟩ := ax_evs_cons hs
    obtain ⟨k0, k1⟩ := ax_isK0 hE hk hx
    have f1 : rx_f_neg (xv / 4) < 4294967296 := ax_i32_lt _
    have f23 : 0 ≤ rx_bi (rx_f_neg (xv / 4)) ∧ rx_bi (rx_f_neg (xv / 4)) ≤ 4294967295 := ax_full_ok _
    obtain ⟨n1, ρ', a1, a2, a3⟩ := ax_val_ok hE (ax_int_ok f1 f23.1 f23.2 : ax_ok w (0, 0, 4294967295) (rx_int (rx_f_neg (xv / 4))))
    cases h
    have hno : ax_NO X (ax_val E (0, 0, 4294967295)).2.1 ρ' hp (1044, [x, 0, (ax_val E (0, 0, 4294967295)).1, 0, 0]) := by
      refine ⟨[xv, 0, rx_int (rx_f_neg (xv / 4)), 0, 0], ax_evs_push (ax_ev_mono n1 a1 hx) (ax_evs_push (ax_ev_c (by decide)) (ax_evs_push a3 (ax_evs_push (ax_ev_c (by decide)) (ax_evs_push (ax_ev_c (by decide)) rfl)))), ?_⟩
      exact (ax_XF_bi (o := 44) (by decide)).mpr (Or.inr (Or.inr ⟨Or.inr rfl, k0, rfl⟩))
    refine ⟨(Nat.add pc 1, lvc, rx_int (rx_f_neg (xv / 4)) :: r, hp, [], 0, 0), ?_, ax_new1 (E' := ax_addX (ax_val E (0, 0, 4294967295)).2 (1044, [x, 0, (ax_val E (0, 0, 4294967295)).1, 0, 0])) hT n1 a1 (ax_addX_ok a2 hno) (ax_evs_mono n1 a1 hl) (ax_evs_push a3 (ax_evs_mono n1 a1 hr)) List.mem_cons_self⟩
    show (bif Nat.beq (rx_tk xv) 0 then some [(Nat.add pc 1, lvc, rx_int (rx_f_neg (rx_pl xv)) :: r, hp, [], 0, 0)] else none) = _
    rw [rx_beq.mpr (show rx_tk xv = 0 from k0)]
    rfl
/-- a value of a type is pushed, and what it was made of is kept -/
theorem ax_t_kpt {t : ax_Y} {o x y xv yv z p : Nat} {st' stc' : List Nat} (ho : o < 200) (hE : ax_EO w X ρ E hp) (hT : ax_HT w hp) (hl : lv.map (ax_ev E.1 ρ) = lvc.map some) (hs : st'.map (ax_ev E.1 ρ) = stc'.map some) (hx : ax_ev E.1 ρ x = some xv) (hy : ax_ev E.1 ρ y = some yv) (hz : ax_ok w t z) (hb : ax_BI o [xv, yv, z]) (h : ax_psh p lv st' (some (ax_kpt o x y (ax_val E t))) = some out) : ax_Res w X md ρ E.1 hp out (p, lvc, z :: stc', hp, [], 0, 0) := by
  obtain ⟨n1, ρ', a1, a2, a3⟩ := ax_val_ok hE hz
  cases h
  have hno : ax_NO X (ax_val E t).2.1 ρ' hp (Nat.add 1000 o, [x, y, (ax_val E t).1]) := by
    refine ⟨[xv, yv, z], ax_evs_push (ax_ev_mono n1 a1 hx) (ax_evs_push (ax_ev_mono n1 a1 hy) (ax_evs_push a3 rfl)), ?_⟩
    exact (ax_XF_bi ho).mpr hb
  exact ax_new1 (E' := ax_addX (ax_val E t).2 (Nat.add 1000 o, [x, y, (ax_val E t).1])) hT n1 a1 (ax_addX_ok a2 hno) (ax_evs_mono n1 a1 hl) (ax_evs_push a3 (ax_evs_mono n1 a1 hs)) List.mem_cons_self
theorem ax_t_arJ {j : Nat} (hj : j ≤ 5) (hE : ax_EO w X ρ E hp) (hT : ax_HT w hp) (hl : lv.map (ax_ev E.1 ρ) = lvc.map some)
    (h : (match st with | y :: x :: st' => bif ax_isK E 1 x && ax_isK E 1 y then ax_psh (Nat.add pc 1) lv st' (some (ax_kpt (96 + j) x y (ax_val E (1, 0, 0)))) else none | _ => none) = some out) (hs : st.map (ax_ev E.1 ρ) = stc.map some) : ∃ σ, rx_h_arJ (ax_jf j) K N pc na nb lvc stc hp [] 0 0 = some [σ] ∧ ax_Res w X md ρ E.1 hp out σ := by
  match st, h with
  | [], h => cases h
  | [_], h => cases h
  | y :: x :: st', h =>
    obtain ⟨hk, h⟩ := rx_cond h
    obtain ⟨hkx, hky⟩ := rx_and2.mp hk
    obtain ⟨yv, r1, rfl, hy, hr1⟩ := ax_evs_cons hs
    obtain ⟨xv, r, rfl, hx, hr⟩ := ax_evs_cons hr1
    refine ⟨_, ?_, ax_t_kpt (z := rx_lng (ax_jf j (rx_pl xv) (rx_pl yv))) (by omega) hE hT hl hr hx hy (Or.inr (Or.inl ⟨rfl, by show (4 * ax_jf j (rx_pl xv) (rx_pl yv) + 1) % 4 = 1; omega⟩)) (Or.inr (Or.inl ⟨j, hj, rfl, ax_isK1 hE hkx hx, ax_isK1 hE hky hy, rfl⟩)) h⟩
    show (bif rx_isJ xv && rx_isJ yv then some [(Nat.add pc 1, lvc, rx_lng (ax_jf j (rx_pl xv) (rx_pl yv)) :: r, hp, [], 0, 0)] else none) = _
    rw [show rx_isJ xv = true from rx_beq.mpr (ax_isK1 hE hkx hx), show rx_isJ yv = true from rx_beq.mpr (ax_isK1 hE hky hy)]
    rfl
theorem ax_t_shJ (hE : ax_EO w X ρ E hp) (hT : ax_HT w hp) (hl : lv.map (ax_ev E.1 ρ) = lvc.map some)
    (h : (match st with | y :: x :: st' => bif ax_isK E 1 x && ax_isK E 0 y then ax_psh (Nat.add pc 1) lv st' (some (ax_kpt 104 x y (ax_val E (1, 0, 0)))) else none | _ => none) = some out) (hs : st.map (ax_ev E.1 ρ) = stc.map some) : ∃ σ, rx_h_shJ rx_j_shl K N pc na nb lvc stc hp [] 0 0 = some [σ] ∧ ax_Res w X md ρ E.1 hp out σ := by
  match st, h with
  | [], h => cases h
  | [_], h => cases h
  | y :: x :: st', h =>
    obtain ⟨hk, h⟩ := rx_cond h
    obtain ⟨hkx, hky⟩ := rx_and2.mp hk
    obtain ⟨yv, r1, rfl, hy, hr1⟩ := ax_evs_cons hs
    obtain ⟨xv, r, rfl, hx, hr⟩ := ax_evs_cons hr1
    refine ⟨_, ?_, ax_t_kpt (z := rx_lng (rx_j_shl (rx_pl xv) (rx_pl yv))) (by decide) hE hT hl hr hx hy (Or.inr (Or.inl ⟨rfl, by show (4 * rx_j_shl (rx_pl xv) (rx_pl yv) + 1) % 4 = 1; omega⟩)) (Or.inr (Or.inr ⟨Or.inr ⟨Or.inl rfl, (ax_isK0 hE hky hy).1⟩, ax_isK1 hE hkx hx, rfl⟩)) h⟩
    show (bif rx_isJ xv && Nat.beq (rx_tk yv) 0 then some [(Nat.add pc 1, lvc, rx_lng (rx_j_shl (rx_pl xv) (rx_pl yv)) :: r, hp, [], 0, 0)] else none) = _
    rw [show rx_isJ xv = true from rx_beq.mpr (ax_isK1 hE hkx hx), rx_beq.mpr (show rx_tk yv = 0 from (ax_isK0 hE hky hy).1)]
    rfl
theorem ax_t_shrJ (hE : ax_EO w X ρ E hp) (hT : ax_HT w hp) (hl : lv.map (ax_ev E.1 ρ) = lvc.map some)
    (h : (match st with | y :: x :: st' => bif ax_isK E 1 x && ax_isK E 0 y then ax_psh (Nat.add pc 1) lv st' (some (ax_kpt 105 x y (ax_val E (1, 0, 0)))) else none | _ => none) = some out) (hs : st.map (ax_ev E.1 ρ) = stc.map some) : ∃ σ, rx_h_shJ rx_j_shr K N pc na nb lvc stc hp [] 0 0 = some [σ] ∧ ax_Res w X md ρ E.1 hp out σ := by
  match st, h with
  | [], h => cases h
  | [_], h => cases h
  | y :: x :: st', h =>
    obtain ⟨hk, h⟩ := rx_cond h
    obtain ⟨hkx, hky⟩ := rx_and2.mp hk
    obtain ⟨yv, r1, rfl, hy, hr1⟩ := ax_evs_cons hs
    obtain ⟨xv, r, rfl, hx, hr⟩ := ax_evs_cons hr1
    refine ⟨_, ?_, ax_t_kpt (z := rx_lng (rx_j_shr (rx_pl xv) (rx_pl yv))) (by decide) hE hT hl hr hx hy (Or.inr (Or.inl ⟨rfl, by show (4 * rx_j_shr (rx_pl xv) (rx_pl yv) + 1) % 4 = 1; omega⟩)) (Or.inr (Or.inr ⟨Or.inr ⟨Or.inr rfl, (ax_isK0 hE hky hy).1⟩, ax_isK1 hE hkx hx, rfl⟩)) h⟩
    show (bif rx_isJ xv && Nat.beq (rx_tk yv) 0 then some [(Nat.add pc 1, lvc, rx_lng (rx_j_shr (rx_pl xv) (rx_pl yv)) :: r, hp, [], 0, 0)] else none) = _
    rw [show rx_isJ xv = true from rx_beq.mpr (ax_isK1 hE hkx hx), rx_beq.mpr (show rx_tk yv = 0 from (ax_isK0 hE hky hy).1)]
    rfl
theorem ax_lcmp_ok (x y : Nat) : rx_f_lcmp x y < 4294967296 ∧ 2147483647 ≤ rx_bi (rx_f_lcmp x y) ∧ rx_bi (rx_f_lcmp x y) ≤ 2147483649 := by
  refine ⟨ax_i32_lt _, ?_⟩
  unfold rx_f_lcmp lg_cmp
  by_cases h1 : Int64.ofNat x > Int64.ofNat y
  · rw [if_pos h1]; decide
  · rw [if_neg h1]
    by_cases h2 : Int64.ofNat x = Int64.ofNat y
    · rw [if_pos h2]; decide
    · rw [if_neg h2]; decide
theorem ax_t_lcmp (hE : ax_EO w X ρ E hp) (hT : ax_HT w hp) (hl : lv.map (ax_ev E.1 ρ) = lvc.map some)
    (h : (match st with | y :: x :: st' => bif ax_isK E 1 x && ax_isK E 1 y then ax_psh (Nat.add pc 1) lv st' (some (ax_kpt 112 x y (ax_val E (0, 2147483647, 2147483649)))) else none | _ => none) = some out) (hs : st.map (ax_ev E.1 ρ) = stc.map some) : ∃ σ, rx_h_lcmp K N pc na nb lvc stc hp [] 0 0 = some [σ] ∧ ax_Res w X md ρ E.1 hp out σ := by
  match st, h with
  | [], h => cases h
  | [_], h => cases h
  | y :: x :: st', h =>
    obtain ⟨hk, h⟩ := rx_cond h
    obtain ⟨hkx, hky⟩ := rx_and2.mp hk
    obtain ⟨yv, r1, rfl, hy, hr1⟩ := ax_evs_cons hs
    obtain ⟨xv, r, rfl, hx, hr⟩ := ax_evs_cons hr1
    obtain ⟨f1, f2, f3⟩ := ax_lcmp_ok (rx_pl xv) (rx_pl yv)
    refine ⟨_, ?_, ax_t_kpt (by decide) hE hT hl hr hx hy (ax_int_ok f1 f2 f3) (Or.inr (Or.inr ⟨Or.inl ⟨rfl, ax_isK1 hE hky hy⟩, ax_isK1 hE hkx hx, rfl⟩)) h⟩
    show (bif rx_isJ xv && rx_isJ yv then some [(Nat.add pc 1, lvc, rx_int (rx_f_lcmp (rx_pl xv) (rx_pl yv)) :: r, hp, [], 0, 0)] else none) = _
    rw [show rx_isJ xv = true from rx_beq.mpr (ax_isK1 hE hkx hx), show rx_isJ yv = true from rx_beq.mpr (ax_isK1 hE hky hy)]
    rfl
theorem ax_nJ_f (hE : ax_EO w X ρ E hp) {v x : Nat} (h : ax_nJ E v = true) (hx : ax_ev E.1 ρ v = some x) : rx_isJ x = false := Bool.eq_false_iff.mpr (fun z => ax_nJok hE h hx (rx_beq.mp z))
theorem ax_t_dup (hE : ax_EO w X ρ E hp) (hT : ax_HT w hp) (hl : lv.map (ax_ev E.1 ρ) = lvc.map some)
    (h : (match st with | v :: st' => bif ax_nJ E v then some [(Nat.add pc 1, lv, v :: v :: st', E)] else none | [] => none) = some out) (hs : st.map (ax_ev E.1 ρ) = stc.map some) : ∃ σ, rx_h_dup K N pc na nb lvc stc hp [] 0 0 = some [σ] ∧ ax_Res w X md ρ E.1 hp out σ := by
  match st, h with
  | [], h => cases h
  | v :: st', h =>
    obtain ⟨hk, h⟩ := rx_cond h
    cases h
    obtain ⟨x, r, rfl, hx, hr⟩ := ax_evs_cons hs
    refine ⟨_, ?_, ax_one hE hT hl (ax_evs_push hx (ax_evs_push hx hr)) List.mem_cons_self⟩
    show (bif rx_isJ x then none else _) = _
    rw [ax_nJ_f hE hk hx]
    rfl
theorem ax_t_pop (hE : ax_EO w X ρ E hp) (hT : ax_HT w hp) (hl : lv.map (ax_ev E.1 ρ) = lvc.map some)
    (h : (match st with | v :: st' => bif ax_nJ E v then some [(Nat.add pc 1, lv, st', E)] else none | [] => none) = some out) (hs : st.map (ax_ev E.1 ρ) = stc.map some) : ∃ σ, rx_h_pop K N pc na nb lvc stc hp [] 0 0 = some [σ] ∧ ax_Res w X md ρ E.1 hp out σ := by
  match st, h with
  | [], h => cases h
  | v :: st', h =>
    obtain ⟨hk, h⟩ := rx_cond h
    cases h
    obtain ⟨x, r, rfl, hx, hr⟩ := ax_evs_cons hs
    refine ⟨_, ?_, ax_one hE hT hl hr List.mem_cons_self⟩
    show (bif rx_isJ x then none else _) = _
    rw [ax_nJ_f hE hk hx]
    rfl
theorem ax_t_dup2 (hE : ax_EO w X ρ E hp) (hT : ax_HT w hp) (hl : lv.map (ax_ev E.1 ρ) = lvc.map some)
    (h : (match st with | v :: u :: st' => bif ax_nJ E v && ax_nJ E u then some [(Nat.add pc 1, lv, v :: u :: v :: u :: st', E)] else none | _ => none) = some out) (hs : st.map (ax_ev E.1 ρ) = stc.map some) : ∃ σ, rx_h_dup2 K N pc na nb lvc stc hp [] 0 0 = some [σ] ∧ ax_Res w X md ρ E.1 hp out σ := by
  match st, h with
  | [], h => cases h
  | [_], h => cases h
  | v :: u :: st', h =>
    obtain ⟨hk, h⟩ := rx_cond h
    cases h
    obtain ⟨hkv, hku⟩ := rx_and2.mp hk
    obtain ⟨x, r1, rfl, hx, hr1⟩ := ax_evs_cons hs
    obtain ⟨y, r, rfl, hy, hr⟩ := ax_evs_cons hr1
    refine ⟨_, ?_, ax_one hE hT hl (ax_evs_push hx (ax_evs_push hy (ax_evs_push hx (ax_evs_push hy hr)))) List.mem_cons_self⟩
    show (bif rx_isJ x || rx_isJ y then none else _) = _
    rw [ax_nJ_f hE hkv hx, ax_nJ_f hE hku hy]
    rfl
theorem ax_t_goto (hE : ax_EO w X ρ E hp) (hT : ax_HT w hp) (hl : lv.map (ax_ev E.1 ρ) = lvc.map some) (hs : st.map (ax_ev E.1 ρ) = stc.map some)
    (h : some [(na, lv, st, E)] = some out) : ∃ σ, rx_h_goto K N pc na nb lvc stc hp [] 0 0 = some [σ] ∧ ax_Res w X md ρ E.1 hp out σ := by
  cases h
  exact ⟨_, rfl, ax_one hE hT hl hs List.mem_cons_self⟩
-- branches
theorem ax_io {v : Nat} (h : v % 4 = 0) : rx_io [] v = some (rx_bi (v / 4), rx_bi (v / 4)) := by
  unfold rx_io
  rw [rx_beq.mpr (show rx_tk v = 0 from h)]
  rfl
theorem ax_tri (k : ClassFile.Cond) (a b : Nat) : (ax_cnd (ax_cn k) a b ∧ rx_tri k (a, a) (b, b) = some true) ∨ (¬ ax_cnd (ax_cn k) a b ∧ rx_tri k (a, a) (b, b) = some false) := by
  have tt : ∀ {p : Prop} {q : Bool}, (q = true ↔ p) → ¬ p → q = false := fun h1 h2 => Bool.eq_false_iff.mpr (fun z => h2 (h1.mp z))
  cases k with
  | lt =>
    by_cases h : a < b
    · exact Or.inl ⟨h, by show (bif Nat.blt a b then some true else _) = _; rw [rx_blt.mpr h]; rfl⟩
    · exact Or.inr ⟨h, by show (bif Nat.blt a b then some true else bif Nat.ble b a then some false else none) = _; rw [tt rx_blt h, rx_ble.mpr (by omega)]; rfl⟩
  | ge =>
    by_cases h : b ≤ a
    · exact Or.inl ⟨h, by show (bif Nat.blt a b then some false else bif Nat.ble b a then some true else none) = _; rw [tt rx_blt (by omega), rx_ble.mpr h]; rfl⟩
    · exact Or.inr ⟨h, by show (bif Nat.blt a b then some false else _) = _; rw [rx_blt.mpr (by omega)]; rfl⟩
  | gt =>
    by_cases h : b < a
    · exact Or.inl ⟨h, by show (bif Nat.blt b a then some true else _) = _; rw [rx_blt.mpr h]; rfl⟩
    · exact Or.inr ⟨h, by show (bif Nat.blt b a then some true else bif Nat.ble a b then some false else none) = _; rw [tt rx_blt h, rx_ble.mpr (by omega)]; rfl⟩
  | le =>
    by_cases h : a ≤ b
    · exact Or.inl ⟨h, by show (bif Nat.blt b a then some false else bif Nat.ble a b then some true else none) = _; rw [tt rx_blt (by omega), rx_ble.mpr h]; rfl⟩
    · exact Or.inr ⟨h, by show (bif Nat.blt b a then some false else _) = _; rw [rx_blt.mpr (by omega)]; rfl⟩
  | eq =>
    by_cases h : a = b
    · refine Or.inl ⟨h, ?_⟩
      subst h
      show (bif Nat.blt a a || Nat.blt a a then some false else bif Nat.beq a a && (Nat.beq a a && Nat.beq a a) then some true else none) = _
      rw [tt rx_blt (Nat.lt_irrefl a), Nat.beq_refl]
      rfl
    · refine Or.inr ⟨h, ?_⟩
      show (bif Nat.blt a b || Nat.blt b a then some false else _) = _
      rcases Nat.lt_or_gt_of_ne h with q | q
      · rw [rx_blt.mpr q]; rfl
      · rw [rx_blt.mpr q, Bool.or_true]; rfl
  | ne =>
    by_cases h : a = b
    · refine Or.inr ⟨fun z => z h, ?_⟩
      subst h
      show (bif Nat.blt a a || Nat.blt a a then some true else bif Nat.beq a a && (Nat.beq a a && Nat.beq a a) then some false else none) = _
      rw [tt rx_blt (Nat.lt_irrefl a), Nat.beq_refl]
      rfl
    · refine Or.inl ⟨h, ?_⟩
      show (bif Nat.blt a b || Nat.blt b a then some true else _) = _
      rcases Nat.lt_or_gt_of_ne h with q | q
      · rw [rx_blt.mpr q]; rfl
      · rw [rx_blt.mpr q, Bool.or_true]; rfl
theorem ax_cn_lt (k : ClassFile.Cond) : ax_cn k < 6 := by cases k <;> decide
theorem ax_Sm_res (hT : ax_HT w hp) {E' : ax_E} (hE' : ax_EO w X ρ E' hp) (hm : ax_Sm E E') {p : Nat} {st' stc' : List Nat} (hl : lv.map (ax_ev E.1 ρ) = lvc.map some) (hs : st'.map (ax_ev E.1 ρ) = stc'.map some) (h : (p, lv, st', E') ∈ out) : ax_Res w X md ρ E.1 hp out (p, lvc, stc', hp, [], 0, 0) :=
  ⟨_, h, ρ, hp, fun _ _ => rfl, Nat.le_of_eq hm.1.symm, ⟨rfl, by show lv.map (ax_ev E'.1 ρ) = _; rw [hm.1]; exact hl, by show st'.map (ax_ev E'.1 ρ) = _; rw [hm.1]; exact hs, rfl, hE', hT⟩, ax_HR.rf⟩
theorem ax_cmp_ok {k x y xv yv : Nat} (hk : k < 6) (hE : ax_EO w X ρ E hp) (hx : ax_ev E.1 ρ x = some xv) (hy : ax_ev E.1 ρ y = some yv) (hc : ax_cnd k (rx_bi (xv / 4)) (rx_bi (yv / 4))) : ax_EO w X ρ (ax_cmp E k x y) hp ∧ (ax_cmp E k x y).1 = E.1 := by
  unfold ax_cmp
  cases (ax_cst x || ax_cst y) with
  | true => exact ⟨hE, rfl⟩
  | false =>
    refine ⟨ax_addX_ok hE ⟨[xv, yv], ax_evs_push hx (ax_evs_push hy rfl), ?_⟩, rfl⟩
    have e7 : 1020 + k = 1000 + (20 + k) := by omega
    show ax_XF X (1020 + k) [xv, yv] hp
    rw [e7]
    exact (ax_XF_bi (by omega)).mpr (Or.inl ⟨k, hk, rfl, hc⟩)
theorem ax_hasc_ok {k x y xv yv : Nat} (hk : k < 6) (hE : ax_EO w X ρ E hp) (hx : ax_ev E.1 ρ x = some xv) (hy : ax_ev E.1 ρ y = some yv) (h : ax_hasc (ax_xf E) k x y = true) : ax_cnd k (rx_bi (xv / 4)) (rx_bi (yv / 4)) := by
  obtain ⟨n, hn, hz⟩ := List.any_eq_true.mp h
  obtain ⟨z1, z2⟩ := rx_and2.mp hz
  obtain ⟨n1, n2⟩ := n
  have z1 : n1 = 1020 + k := rx_beq.mp z1
  subst z1
  unfold ax_two at z2
  split at z2
  · rename_i a b hab
    obtain ⟨z3, z4⟩ := rx_and2.mp z2
    have z3 := rx_beq.mp z3
    have z4 := rx_beq.mp z4
    subst z3 z4
    obtain ⟨vs, q1, q2⟩ := hE.2.2.2.2 _ hn
    dsimp only at hab q1 q2
    rw [hab] at q1
    obtain ⟨x1, r1, e3, k1, p1⟩ := ax_evs_cons q1
    obtain ⟨x2, r2, e4, k2, p2⟩ := ax_evs_cons p1
    have e5 : r2 = [] := by cases r2 with | nil => rfl | cons _ _ => cases p2
    subst e5 e4 e3
    cases k1.symm.trans hx
    cases k2.symm.trans hy
    have e6 : 1020 + k = 1000 + (20 + k) := by omega
    rw [e6] at q2
    rcases (ax_XF_bi (by omega)).mp q2 with ⟨k', h2, h3, h4⟩ | ⟨h3, -⟩
    · have e7 : k' = k := by omega
      rw [e7] at h4
      exact h4
    · omega
  · cases z2
theorem ax_cnd_no {k a b : Nat} (hk : k < 6) (h : ax_cnd k a b) (h2 : ax_cnd (ax_not k) a b) : False := by
  match k, hk, h, h2 with
  | 0, _, h, h2 => exact h2 h
  | 1, _, h, h2 => exact h h2
  | 2, _, h, h2 => exact absurd (show a < b from h) (Nat.not_lt.mpr h2)
  | 3, _, h, h2 => exact absurd (show a < b from h2) (Nat.not_lt.mpr h)
  | 4, _, h, h2 => exact absurd (show b < a from h) (Nat.not_lt.mpr h2)
  | 5, _, h, h2 => exact absurd (show b < a from h2) (Nat.not_lt.mpr h)
  | n + 6, hk, _, _ => omega
theorem ax_not_lt {k : Nat} (hk : k < 6) : ax_not k < 6 := by
  match k, hk with
  | 0, _ => decide
  | 1, _ => decide
  | 2, _ => decide
  | 3, _ => decide
  | 4, _ => decide
  | 5, _ => decide
  | n + 6, hk => omega
theorem ax_ye2_ok {k x y xv yv : Nat} (hk : k < 6) (hE : ax_EO w X ρ E hp) (hx : ax_ev E.1 ρ x = some xv) (hy : ax_ev E.1 ρ y = some yv) (hc : ax_cnd k (rx_bi (xv / 4)) (rx_bi (yv / 4))) : ∃ E' ∈ ax_ye2 E k x y, ax_EO w X ρ E' hp ∧ E'.1 = E.1 := by
  unfold ax_ye2
  obtain ⟨E1, m1, m2, m3⟩ := ax_yes_ok hE hx hy hc
  cases h0 : (ax_cst x || ax_cst y) with
  | true => exact ⟨E1, m1, m2, m3.1⟩
  | false =>
    rw [cond_false]
    cases h1 : ax_hasc (ax_xf E) (ax_not k) x y with
    | true => exact (ax_cnd_no hk hc (ax_hasc_ok (ax_not_lt hk) hE hx hy h1)).elim
    | false =>
      rw [cond_false]
      cases ax_hasc (ax_xf E) k x y with
      | true => exact ⟨E, List.mem_cons_self, hE, rfl⟩
      | false =>
        obtain ⟨m4, m5⟩ := ax_cmp_ok hk m2 (by rw [m3.1]; exact hx) (by rw [m3.1]; exact hy) hc
        exact ⟨_, List.mem_map.mpr ⟨E1, m1, rfl⟩, m4, m5.trans m3.1⟩
theorem ax_cm_res (hT : ax_HT w hp) {E' : ax_E} (hE' : ax_EO w X ρ E' hp) (hm : E'.1 = E.1) {p : Nat} {st' stc' : List Nat} (hl : lv.map (ax_ev E.1 ρ) = lvc.map some) (hs : st'.map (ax_ev E.1 ρ) = stc'.map some) (h : (p, lv, st', E') ∈ out) : ax_Res w X md ρ E.1 hp out (p, lvc, stc', hp, [], 0, 0) :=
  ⟨_, h, ρ, hp, fun _ _ => rfl, Nat.le_of_eq hm.symm, ⟨rfl, by show lv.map (ax_ev E'.1 ρ) = _; rw [hm]; exact hl, by show st'.map (ax_ev E'.1 ρ) = _; rw [hm]; exact hs, rfl, hE', hT⟩, ax_HR.rf⟩
theorem ax_t_br {k : ClassFile.Cond} {x y xv yv : Nat} {st' stc' stx : List Nat} (hE : ax_EO w X ρ E hp) (hT : ax_HT w hp) (hl : lv.map (ax_ev E.1 ρ) = lvc.map some) (hs : st'.map (ax_ev E.1 ρ) = stc'.map some) (hx : ax_ev E.1 ρ x = some xv) (hy : ax_ev E.1 ρ y = some yv)
    (h : ax_brs pc na lv st' E (ax_cn k) x y = some out) : ∃ σ, rx_br k na pc xv yv stx stc' lvc hp [] 0 0 = some [σ] ∧ ax_Res w X md ρ E.1 hp out σ := by
  obtain ⟨hk, h⟩ := rx_cond h
  cases h
  obtain ⟨hkx, hky⟩ := rx_and2.mp hk
  obtain ⟨x0, x1⟩ := ax_isK0 hE hkx hx
  obtain ⟨y0, y1⟩ := ax_isK0 hE hky hy
  unfold rx_br
  rw [ax_io x0, ax_io y0]
  rcases ax_tri k (rx_bi (xv / 4)) (rx_bi (yv / 4)) with ⟨hc, ht⟩ | ⟨hc, ht⟩
  · obtain ⟨E', m1, m2, m3⟩ := ax_ye2_ok (ax_cn_lt k) hE hx hy hc
    refine ⟨(na, lvc, stc', hp, [], 0, 0), ?_, ax_cm_res hT m2 m3 hl hs (List.mem_append_left _ (List.mem_map.mpr ⟨E', m1, rfl⟩))⟩
    show (match rx_tri k (rx_bi (xv / 4), rx_bi (xv / 4)) (rx_bi (yv / 4), rx_bi (yv / 4)) with
      | some true => _ | some false => _ | none => _) = _
    rw [ht]
  · obtain ⟨E', m1, m2, m3⟩ := ax_ye2_ok (ax_not_lt (ax_cn_lt k)) hE hx hy (ax_not_ok (ax_cn_lt k) hc)
    refine ⟨(Nat.add pc 3, lvc, stc', hp, [], 0, 0), ?_, ax_cm_res hT m2 m3 hl hs (List.mem_append_right _ (List.mem_map.mpr ⟨E', m1, rfl⟩))⟩
    show (match rx_tri k (rx_bi (xv / 4), rx_bi (xv / 4)) (rx_bi (yv / 4), rx_bi (yv / 4)) with
      | some true => _ | some false => _ | none => _) = _
    rw [ht]
theorem ax_t_if {k : ClassFile.Cond} (hE : ax_EO w X ρ E hp) (hT : ax_HT w hp) (hl : lv.map (ax_ev E.1 ρ) = lvc.map some)
    (h : (match st with | x :: st' => ax_brs pc na lv st' E (ax_cn k) x 0 | [] => none) = some out) (hs : st.map (ax_ev E.1 ρ) = stc.map some) : ∃ σ, rx_h_if k K N pc na nb lvc stc hp [] 0 0 = some [σ] ∧ ax_Res w X md ρ E.1 hp out σ := by
  match st, h with
  | [], h => cases h
  | x :: st', h =>
    obtain ⟨xv, r, rfl, hx, hr⟩ := ax_evs_cons hs
    exact ax_t_br hE hT hl hr hx (ax_ev_c (by decide)) h
theorem ax_t_icmp {k : ClassFile.Cond} (hE : ax_EO w X ρ E hp) (hT : ax_HT w hp) (hl : lv.map (ax_ev E.1 ρ) = lvc.map some)
    (h : (match st with | y :: x :: st' => ax_brs pc na lv st' E (ax_cn k) x y | _ => none) = some out) (hs : st.map (ax_ev E.1 ρ) = stc.map some) : ∃ σ, rx_h_icmp k K N pc na nb lvc stc hp [] 0 0 = some [σ] ∧ ax_Res w X md ρ E.1 hp out σ := by
  match st, h with
  | [], h => cases h
  | [_], h => cases h
  | y :: x :: st', h =>
    obtain ⟨yv, r1, rfl, hy, hr1⟩ := ax_evs_cons hs
    obtain ⟨xv, r, rfl, hx, hr⟩ := ax_evs_cons hr1
    exact ax_t_br hE hT hl hr hx hy h
end AXT
