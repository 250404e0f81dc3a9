theorem rx_kd_or (ins : Instr) : rx_kd ins = 0 ∨ ins = .ireturn ∨ ins = .lreturn ∨ ins = .areturn ∨ ins = .return_ ∨ (∃ i, ins = .invokevirtual i) ∨ (∃ i, ins = .invokespecial i) ∨ ∃ i, ins = .invokestatic i := by
  cases ins <;> first | exact Or.inl rfl | exact Or.inr (Or.inl rfl) | exact Or.inr (Or.inr (Or.inl rfl)) | exact Or.inr (Or.inr (Or.inr (Or.inl rfl))) | exact Or.inr (Or.inr (Or.inr (Or.inr (Or.inl rfl)))) | exact Or.inr (Or.inr (Or.inr (Or.inr (Or.inr (Or.inl ⟨_, rfl⟩))))) | exact Or.inr (Or.inr (Or.inr (Or.inr (Or.inr (Or.inr (Or.inl ⟨_, rfl⟩)))))) | exact Or.inr (Or.inr (Or.inr (Or.inr (Or.inr (Or.inr (Or.inr ⟨_, rfl⟩))))))
theorem rx_spl_ok : ∀ (n : Nat) (st acc as rest : List Nat), rx_spl n st acc = some (as, rest) → ∃ pre, st = pre ++ rest ∧ pre.length = n ∧ as = pre.reverse ++ acc
  | 0, st, acc, as, rest, h => by
    replace h : some (acc, st) = some (as, rest) := h
    cases h
    exact ⟨[], rfl, rfl, rfl⟩
  | n + 1, [], acc, as, rest, h => by cases h
  | n + 1, v :: st, acc, as, rest, h => by
    replace h : rx_spl n st (v :: acc) = some (as, rest) := h
    obtain ⟨pre, h1, h2, h3⟩ := rx_spl_ok n st (v :: acc) as rest h
    exact ⟨v :: pre, by rw [h1]; rfl, by simp [h2], by rw [h3]; simp⟩
theorem rx_split {b : Nat → Nat} {ad : List Nat} {en : List Int32} {as rest : List Nat} {stA : List Value} (h : (as.reverse ++ rest).map (rx_cv b ad en) = stA.map some) : ∃ asA restA : List Value, stA = asA.reverse ++ restA ∧ as.map (rx_cv b ad en) = asA.map some ∧ rest.map (rx_cv b ad en) = restA.map some := by
  rw [List.map_append] at h
  obtain ⟨x, y, h1, h2, h3⟩ := List.map_eq_append_iff.mp h.symm
  refine ⟨x.reverse, y, by rw [List.reverse_reverse]; exact h1, ?_, h3.symm⟩
  have : (as.reverse.map (rx_cv b ad en)).reverse = (x.map some).reverse := by rw [h2]
  simpa [List.map_reverse] using this
section RXD
variable {p : Program} {l : Launch} {e : Env} {R : Room} {s : State} {m : MethodId} {args : Array Value} {below : List Frame} {meth : Method} {c : Code} {Q : State → Prop}
variable {cy : Nat → ClassId} {D : va_G} {b : Nat → Nat} {A : Nat → Prop} {H0 : Heap} {ad0 : List Nat} {en0 : List Int32} {nL : Nat}
variable {P : List rx_M} {K : rx_K} {pc na nb cn sn : Nat} {g : rx_M → rx_S → Option (List rx_O)} {lv : rx_L} {st : List Nat} {hp : rx_H} {iv : rx_I} {r q : rx_M} {β : Type} {f : rx_M → rx_S → Option (List β)} {outs : List β}
theorem rx_s_inv1 {i : Nat} (C : rx_Cx cy D r p R s m args meth c) (hN : nL = rx_mL (rx_n r)) (hd : decode (rx_b r) pc = .ok (.invokespecial i, 3)) (w1 : Jvm.Cond.methodLink (rx_y r).cls i objectInit ∈ lw_G) (w2 : Jvm.Cond.instanceMethod objectInit ∈ lw_G) (w3 : Jvm.Cond.code objectInit ⟨#[0xb1]⟩ 1 none ∈ lw_G)
    (h : rx_inv1 f r pc lv st hp iv cn sn = some outs) (hG : ∀ σ, f r σ = some outs → rx_G p l e R s m args below meth c Q cy D b A H0 ad0 en0 nL σ) : rx_G p l e R s m args below meth c Q cy D b A H0 ad0 en0 nL (pc, lv, st, hp, iv, cn, sn) := by
  obtain ⟨hx, hb, hr, hml, hown, hts, hlocks, hmn, hK, hNest, hAO, hR1, hR2, hR3, hR4⟩ := C
  match st, h with
  | [], h => cases h
  | v :: st', h =>
    obtain ⟨hc, h⟩ := rx_cond h
    obtain ⟨c1, hc⟩ := rx_and2.mp hc
    obtain ⟨c2, hc⟩ := rx_and2.mp hc
    obtain ⟨c3, c4⟩ := rx_and2.mp hc
    intro ad en ls stA H locs ws hRl
    obtain ⟨h1, h2, h3, h4, h5, h6, h7, h8, h9⟩ := hRl
    obtain ⟨x, rA, rfl, hxv, h8n⟩ := rx_st_cons h8
    have hx2 : rx_isR v = true := rx_and2.mpr ⟨c1, rx_blt.mpr (Nat.lt_of_lt_of_le (by decide) (rx_ble.mp c2))⟩
    obtain ⟨a, rfl⟩ := rx_isR_cv hx2 hxv
    refine W.objInit hx hb hown (hts _ w1) (hts _ w2) (hts _ w3) rfl (by show ls.size = _; rw [hml, ← hN]; exact h7.2.1) rfl hd (Nat.le_trans (rx_ble.mp c3) hR1) ?_ ?_
    · show 2 * 0 + (rA.map fun v => v.category).sum + 12 ≤ R.locals
      rw [rx_cat_eq h8n]
      have : rx_cat st' + 12 ≤ rx_rl (rx_n r) := rx_ble.mp c4
      omega
    · exact hG _ h ad en ls rA H locs ws ⟨h1, h2, h3, h4, h5, h6, h7, h8n, h9⟩
/-- Math.max, Math.min -/
theorem rx_s_prim {i k : Nat} (C : rx_Cx cy D r p R s m args meth c) (hN : nL = rx_mL (rx_n r)) (hd : decode (rx_b r) pc = .ok (.invokestatic i, 3))
    (hw : (k = 1 ∧ Jvm.Cond.methodLink (rx_y r).cls i Lib.Math.max.name ∈ lw_G ∧ Jvm.Cond.static Lib.Math.max.name ∈ lw_G ∧ Jvm.Cond.initialized "java/lang/Math" ∈ lw_G ∧ Jvm.Cond.code Lib.Math.max.name Lib.Math.max.code 2 (some .int) ∈ lw_G) ∨ (k = 2 ∧ Jvm.Cond.methodLink (rx_y r).cls i Lib.Math.min.name ∈ lw_G ∧ Jvm.Cond.static Lib.Math.min.name ∈ lw_G ∧ Jvm.Cond.initialized "java/lang/Math" ∈ lw_G ∧ Jvm.Cond.code Lib.Math.min.name Lib.Math.min.code 2 (some .int) ∈ lw_G))
    (h : rx_invP f r pc k lv st hp iv cn sn = some outs) (hG : ∀ σ, f r σ = some outs → rx_G p l e R s m args below meth c Q cy D b A H0 ad0 en0 nL σ) : rx_G p l e R s m args below meth c Q cy D b A H0 ad0 en0 nL (pc, lv, st, hp, iv, cn, sn) := by
  obtain ⟨hx, hb, hr, hml, hown, hts, hlocks, hmn, hK, hNest, hAO, hR1, hR2, hR3, hR4⟩ := C
  unfold rx_invP at h
  cases hpr : rx_prim k st with
  | none => rw [hpr] at h; cases h
  | some st2 =>
    rw [hpr] at h
    dsimp only at h
    obtain ⟨hc, h⟩ := rx_cond h
    obtain ⟨c1, hc⟩ := rx_and2.mp hc
    obtain ⟨c2, hc⟩ := rx_and2.mp hc
    obtain ⟨c3, c4⟩ := rx_and2.mp hc
    obtain ⟨c4, c5⟩ := rx_and2.mp c4
    have c2 : 40 ≤ rx_rl (rx_n r) := rx_ble.mp c2
    have c3 : rx_cat st2 ≤ 9 := rx_ble.mp c3
    match st, hpr with
    | [], hpr => cases hpr
    | [_], hpr => cases hpr
    | y :: x :: st', hpr =>
      obtain ⟨hk, hpr⟩ := rx_cond hpr
      obtain ⟨kx, ky⟩ := rx_and2.mp hk
      intro ad en ls stA H locs ws hRl
      obtain ⟨h1, h2, h3, h4, h5, h6, h7, h8, h9⟩ := hRl
      obtain ⟨yv, r1, rfl, hyv, h8a⟩ := rx_st_cons h8
      obtain ⟨xv, rA, rfl, hxv, h8b⟩ := rx_st_cons h8a
      have ex := (rx_cv0 (b := b) (ad := ad) (en := en) (rx_beq.mp kx)).symm.trans hxv
      have ey := (rx_cv0 (b := b) (ad := ad) (en := en) (rx_beq.mp ky)).symm.trans hyv
      have ex := Option.some.inj ex
      have ey := Option.some.inj ey
      have bx : rx_bias (Int32.ofNat (x / 4)) = rx_bi (x / 4) := rx_bias_ofNat _
      have bY : rx_bias (Int32.ofNat (y / 4)) = rx_bi (y / 4) := rx_bias_ofNat _
      have hlen : ∀ z : Nat, z = y ∨ z = x → rx_cat st' + 1 ≤ rx_cat (z :: st') := by
        intro z _
        show rx_cat st' + 1 ≤ (bif rx_isJ z then Nat.add (rx_cat st') 2 else Nat.succ (rx_cat st'))
        cases rx_isJ z with
        | true => show rx_cat st' + 1 ≤ rx_cat st' + 2; omega
        | false => exact Nat.le_refl _
      have hsum : (rA.map fun v => v.category).sum + 13 ≤ R.locals := by
        rw [rx_cat_eq h8b]
        rcases hw with ⟨rfl, -⟩ | ⟨rfl, -⟩
        · have e : (bif Nat.blt (rx_bi (rx_pl x)) (rx_bi (rx_pl y)) then y else x) :: st' = st2 := Option.some.inj hpr
          rw [← e] at c3
          have := hlen (bif Nat.blt (rx_bi (rx_pl x)) (rx_bi (rx_pl y)) then y else x) (by cases Nat.blt (rx_bi (rx_pl x)) (rx_bi (rx_pl y)) <;> simp)
          omega
        · have e : (bif Nat.blt (rx_bi (rx_pl y)) (rx_bi (rx_pl x)) then y else x) :: st' = st2 := Option.some.inj hpr
          rw [← e] at c3
          have := hlen (bif Nat.blt (rx_bi (rx_pl y)) (rx_bi (rx_pl x)) then y else x) (by cases Nat.blt (rx_bi (rx_pl y)) (rx_bi (rx_pl x)) <;> simp)
          omega
      have hml2 : c.maxLocals = ls.size := by rw [hml, ← hN]; exact h7.2.1.symm
      subst ex
      subst ey
      rcases hw with ⟨rfl, w1, w2, w3, w4⟩ | ⟨rfl, w1, w2, w3, w4⟩
      · have e : (bif Nat.blt (rx_bi (rx_pl x)) (rx_bi (rx_pl y)) then y else x) :: st' = st2 := Option.some.inj hpr
        refine va_mmax hx hb hml2 hown (hts _ w1) (hts _ w2) (hts _ w3) (hts _ w4) (Nat.le_trans (rx_ble.mp c1) hR1) hsum (Nat.le_trans (rx_ble.mp c4) hR3) (Nat.le_trans (rx_ble.mp c5) hR4) hd ?_
        refine hG _ h ad en ls _ H locs ws ⟨h1, h2, h3, h4, h5, h6, h7, ?_, h9⟩
        show st2.map _ = _
        rw [← e]
        by_cases hlt : Int32.ofNat (x / 4) < Int32.ofNat (y / 4)
        · rw [if_pos hlt]
          rw [show Nat.blt (rx_bi (rx_pl x)) (rx_bi (rx_pl y)) = true from rx_blt.mpr (by have := rx_bias_lt.mp hlt; rw [bx, bY] at this; exact this)]
          exact rx_st_push hyv h8b
        · rw [if_neg hlt]
          rw [show Nat.blt (rx_bi (rx_pl x)) (rx_bi (rx_pl y)) = false from Bool.eq_false_iff.mpr (fun z => hlt (rx_bias_lt.mpr (by rw [bx, bY]; exact rx_blt.mp z)))]
          exact rx_st_push hxv h8b
      · have e : (bif Nat.blt (rx_bi (rx_pl y)) (rx_bi (rx_pl x)) then y else x) :: st' = st2 := Option.some.inj hpr
        refine va_mmin hx hb hml2 hown (hts _ w1) (hts _ w2) (hts _ w3) (hts _ w4) (Nat.le_trans (rx_ble.mp c1) hR1) hsum (Nat.le_trans (rx_ble.mp c4) hR3) (Nat.le_trans (rx_ble.mp c5) hR4) hd ?_
        refine hG _ h ad en ls _ H locs ws ⟨h1, h2, h3, h4, h5, h6, h7, ?_, h9⟩
        show st2.map _ = _
        rw [← e]
        by_cases hlt : Int32.ofNat (y / 4) < Int32.ofNat (x / 4)
        · rw [if_pos hlt]
          rw [show Nat.blt (rx_bi (rx_pl y)) (rx_bi (rx_pl x)) = true from rx_blt.mpr (by have := rx_bias_lt.mp hlt; rw [bx, bY] at this; exact this)]
          exact rx_st_push hyv h8b
        · rw [if_neg hlt]
          rw [show Nat.blt (rx_bi (rx_pl y)) (rx_bi (rx_pl x)) = false from Bool.eq_false_iff.mpr (fun z => hlt (rx_bias_lt.mpr (by rw [bx, bY]; exact rx_blt.mp z)))]
          exact rx_st_push hxv h8b
theorem rx_wrd_ok {v : Nat} {l : List Nat} (h : rx_wrd v = some l) : ∃ j, j < 8 ∧ v = 4 * (1000 + j) + 2 ∧ rx_sbyt[j]? = some l := by
  unfold rx_wrd at h
  obtain ⟨hw, h⟩ := rx_cond h
  obtain ⟨e1, d1⟩ := rx_and2.mp hw
  obtain ⟨e2, e3⟩ := rx_and2.mp d1
  have e1 : v % 4 = 2 := rx_beq.mp e1
  have e2 : 1000 ≤ v / 4 := rx_ble.mp e2
  have e3 : v / 4 < 1008 := rx_blt.mp e3
  rw [rx_nth_eq] at h
  exact ⟨v / 4 - 1000, by omega, by omega, h⟩
theorem rx_wrd_len {j : Nat} {l : List Nat} (h : rx_sbyt[j]? = some l) : rx_sln.getD j 0 = l.length := by
  unfold rx_sln
  rw [List.getD_eq_getElem?_getD, List.getElem?_map, h]
  rfl
theorem rx_wrd_byt {j k c : Nat} {l : List Nat} (h : rx_sbyt[j]? = some l) (hk : l[k]? = some c) : (rx_sb32.getD j []).getD k 0 = Int32.ofNat c := by
  have e1 : rx_sb32.getD j [] = l.map Int32.ofNat := by
    unfold rx_sb32
    rw [List.getD_eq_getElem?_getD, List.getElem?_map, h]
    rfl
  rw [e1, List.getD_eq_getElem?_getD, List.getElem?_map, hk]
  rfl
/-- String.length, String.charAt -/
theorem rx_s_primS {i k : Nat} (C : rx_Cx cy D r p R s m args meth c) (hN : nL = rx_mL (rx_n r)) (hH0 : H0 = s.heap) (hZt : rx_Zt b A s) (hA : ∀ z, H0.size ≤ z → A z) (hd : decode (rx_b r) pc = .ok (.invokevirtual i, 3))
    (hw : (k = 3 ∧ Jvm.Cond.methodLink (rx_y r).cls i yJ0_length_8abf5 ∈ lw_G) ∨ (k = 4 ∧ Jvm.Cond.methodLink (rx_y r).cls i yJ0_charAt_5068e ∈ lw_G))
    (h : rx_invS f r pc k lv st hp iv cn sn = some outs) (hG : ∀ σ, f r σ = some outs → rx_G p l e R s m args below meth c Q cy D b A H0 ad0 en0 nL σ) : rx_G p l e R s m args below meth c Q cy D b A H0 ad0 en0 nL (pc, lv, st, hp, iv, cn, sn) := by
  obtain ⟨hx, hb, hr, hml, hown, hts, hlocks, hmn, hK, hNest, hAO, hR1, hR2, hR3, hR4⟩ := C
  unfold rx_invS at h
  cases hpr : rx_primS k st with
  | none => rw [hpr] at h; cases h
  | some st2 =>
    rw [hpr] at h
    dsimp only at h
    obtain ⟨hc, h⟩ := rx_cond h
    obtain ⟨c1, hc⟩ := rx_and2.mp hc
    obtain ⟨c2, hc⟩ := rx_and2.mp hc
    obtain ⟨c3, c4⟩ := rx_and2.mp hc
    obtain ⟨c4, c5⟩ := rx_and2.mp c4
    have c1 : 8 ≤ rx_rf (rx_n r) := rx_ble.mp c1
    have c2 : 400 ≤ rx_rl (rx_n r) := rx_ble.mp c2
    have c3 : rx_cat st2 ≤ 9 := rx_ble.mp c3
    have c4 : cn ≤ rx_rc (rx_n r) := rx_ble.mp c4
    have c5 : sn ≤ rx_rs (rx_n r) := rx_ble.mp c5
    have hA' : ∀ z, s.heap.size ≤ z → A z := by rw [← hH0]; exact hA
    have hcs : cn ≤ R.cells ∧ sn ≤ R.slots := ⟨Nat.le_trans c4 hR3, Nat.le_trans c5 hR4⟩
    have fix : CallFix p m c (rx_b r) (rx_mL (rx_n r)) s args lw_G (rx_y r).cls := ⟨hx, hb, hml, hown, hts⟩
    have hcatI : ∀ (n : Nat) (st' : List Nat), rx_cat (rx_int n :: st') = rx_cat st' + 1 := by
      intro n st'
      show (bif rx_isJ (rx_int n) then Nat.add (rx_cat st') 2 else Nat.succ (rx_cat st')) = _
      rw [show rx_isJ (rx_int n) = false from Bool.eq_false_iff.mpr (fun z => by have z : 4 * n % 4 = 1 := rx_beq.mp z; omega)]
      rfl
    have fin : ∀ (ad : List Nat) (en : List Int32) (ls : Array Slot) (H H1 : Heap) (locs1 : List Loc) (ws : va_W) (n : Nat) (st' : List Nat) (rA : List Value), rx_int n :: st' = st2 → ad0 <+: ad → en0 <+: en → rx_RW cy b ad en hp ws → va_P D vwCl ws H → va_D A ws → rx_RL b ad en nL lv ls → rx_RI iv en → st'.map (rx_cv b ad en) = rA.map some → (∀ q : Nat, q < H.size → H1[q]? = H[q]?) → va_S A s.heap H1 locs1 → W p l e R s m args below meth c H1 locs1 cn sn Q (F0 m (pc + 3) ls (.int (Int32.ofNat n) :: rA)) := by
      intro ad en ls H H1 locs1 ws n st' rA est h1 h2 h3 h4 h5 h7 h9 h8 hk hS1
      refine hG _ h ad en ls (.int (Int32.ofNat n) :: rA) H1 locs1 ws ⟨h1, h2, h3, h4.kept (fun k q hq => hk q.1 (h4 k q hq).lt), h5, ?_, h7, ?_, h9⟩
      · rw [hH0]; exact hS1
      · show st2.map _ = _
        rw [← est]
        exact rx_st_push (rx_int_cv b ad en n) h8
    have ref : ∀ (ad : List Nat) (en : List Int32) (v j : Nat) (xv : Value), v = 4 * (1000 + j) + 2 → rx_cv b ad en v = some xv → xv = .ref (b (j + 1)) := by
      intro ad en v j xv hv hxv
      rw [rx_cvS (by omega) (by omega), show v / 4 - 999 = j + 1 by omega] at hxv
      exact (Option.some.inj hxv).symm
    rcases hw with ⟨rfl, w1⟩ | ⟨rfl, w1⟩
    · match st, hpr with
      | [], hpr => cases hpr
      | v :: st', hpr =>
        replace hpr : rx_primL v st' = some st2 := hpr
        unfold rx_primL at hpr
        cases hwd : rx_wrd v with
        | none => rw [hwd] at hpr; cases hpr
        | some l' =>
          rw [hwd] at hpr
          have hpr : rx_int (rx_len l') :: st' = st2 := Option.some.inj hpr
          obtain ⟨j, hj, hv, hjl⟩ := rx_wrd_ok hwd
          intro ad en ls stA H locs ws hRl
          obtain ⟨h1, h2, h3, h4, h5, h6, h7, h8, h9⟩ := hRl
          obtain ⟨xv, rA, rfl, hxv, h8a⟩ := rx_st_cons h8
          have hxr := ref ad en v j xv hv hxv
          subst hxr
          have hS : va_S A s.heap H locs := by rw [← hH0]; exact h6
          have hcat : (rA.map fun v => v.category).sum ≤ 8 := by
            rw [rx_cat_eq h8a]
            rw [← hpr, hcatI] at c3
            omega
          have rc := vk_recv (i := j) hZt.1 hj hS
          refine rx_zV (As := []) (rest := rA) fix (rx_z_len hj) w1 rx_w_i_len rx_w_s_len rx_w_n_0 rx_w_c_len ⟨by decide, by decide, by show _ = some 0; decide +kernel⟩ ⟨by omega, by omega⟩ hZt hS hA' rc (by rw [← hN]; exact h7.2.1) hcat hcs hd (fun H1 locs1 _ q2 q3 => ?_)
          have fz := fin ad en ls H H1 locs1 ws _ st' rA hpr h1 h2 h3 h4 h5 h7 h9 h8a q2 q3
          rw [rx_len_eq] at fz
          rw [rx_wrd_len hjl]
          exact fz
    · match st, hpr with
      | [], hpr => cases hpr
      | [_], hpr => cases hpr
      | ix :: v :: st', hpr =>
        replace hpr : rx_primC ix (v :: st') = some st2 := hpr
        unfold rx_primC at hpr
        dsimp only at hpr
        cases hwd : rx_wrd v with
        | none => rw [hwd] at hpr; cases hpr
        | some l' =>
          rw [hwd] at hpr
          dsimp only at hpr
          obtain ⟨hi0, hpr⟩ := rx_cond hpr
          rw [rx_nth_eq] at hpr
          cases hch : l'[rx_pl ix]? with
          | none => rw [hch] at hpr; cases hpr
          | some ch =>
            rw [hch] at hpr
            have hpr : rx_int ch :: st' = st2 := Option.some.inj hpr
            obtain ⟨j, hj, hv, hjl⟩ := rx_wrd_ok hwd
            intro ad en ls stA H locs ws hRl
            obtain ⟨h1, h2, h3, h4, h5, h6, h7, h8, h9⟩ := hRl
            obtain ⟨iv0, r1, rfl, hiv, h8b⟩ := rx_st_cons h8
            obtain ⟨xv, rA, rfl, hxv, h8a⟩ := rx_st_cons h8b
            have hxr := ref ad en v j xv hv hxv
            subst hxr
            have hir := (rx_cv0 (b := b) (ad := ad) (en := en) (rx_beq.mp hi0)).symm.trans hiv
            have hir := Option.some.inj hir
            subst hir
            have hS : va_S A s.heap H locs := by rw [← hH0]; exact h6
            have hcat : (rA.map fun v => v.category).sum ≤ 8 := by
              rw [rx_cat_eq h8a]
              rw [← hpr, hcatI] at c3
              omega
            have hlt : ix / 4 < rx_sln.getD j 0 := by
              rw [rx_wrd_len hjl]
              exact (List.getElem?_eq_some_iff.mp hch).1
            have rc := vk_recv (i := j) hZt.1 hj hS
            refine rx_zV (As := [.int (Int32.ofNat (ix / 4))]) (rest := rA) fix (rx_z_ca hj hlt) w1 rx_w_i_ca rx_w_s_ca rx_w_n_0 rx_w_c_ca ⟨by decide, by decide, by show _ = some 1; decide +kernel⟩ ⟨by omega, by omega⟩ hZt hS hA' rc (by rw [← hN]; exact h7.2.1) hcat hcs hd (fun H1 locs1 _ q2 q3 => ?_)
            rw [show (rx_sb32.getD j []).getD (ix / 4) 0 = Int32.ofNat ch from rx_wrd_byt hjl hch]
            exact fin ad en ls H H1 locs1 ws _ st' rA hpr h1 h2 h3 h4 h5 h7 h9 h8a q2 q3
set_option maxHeartbeats 1000000 in
/-- a call of a method of the table, of any of the three kinds -/
theorem rx_s_inv {ins : Instr} {stat : Bool} (hP : ∀ q ∈ P, rx_QW q ∧ rx_ST P K q) (ih : rx_SndG P K l cy D g) (C : rx_Cx cy D r p R s m args meth c) (hN : nL = rx_mL (rx_n r)) (hH0 : H0 = s.heap) (hZt : rx_Zt b A s) (hA : ∀ z, H0.size ≤ z → A z) (hd : decode (rx_b r) pc = .ok (ins, 3)) (hS : rx_site P (rx_y r).cls na nb ins) (hn1 : nb ≠ 1) (hn2 : nb ≠ 2) (hn3 : nb % 4 ≠ 1)
    (hk : (∃ i, ins = .invokevirtual i ∧ stat = false) ∨ (∃ i, ins = .invokespecial i ∧ stat = false) ∨ (∃ i, ins = .invokestatic i ∧ stat = true))
    (h : rx_inv stat P g f r pc na (Nat.div nb 4) lv st hp iv cn sn = some outs)
    (hG : ∀ (σ : rx_S) (o : List β), f r σ = some o → (∀ y ∈ o, y ∈ outs) → rx_G p l e R s m args below meth c Q cy D b A H0 ad0 en0 nL σ) : rx_G p l e R s m args below meth c Q cy D b A H0 ad0 en0 nL (pc, lv, st, hp, iv, cn, sn) := by
  obtain ⟨hx, hb, hr, hml, hown, hts, hlocks, hmn, hK, hNest, hAO, hR1, hR2, hR3, hR4⟩ := C
  unfold rx_inv at h
  cases hq : rx_nth P na with
  | none => rw [hq] at h; cases h
  | some q =>
    rw [hq] at h
    dsimp only at h
    cases hs : rx_spl (bif stat then rx_np (rx_n q) else Nat.succ (rx_np (rx_n q))) st [] with
    | none => rw [hs] at h; cases h
    | some w =>
      obtain ⟨as, rest⟩ := w
      rw [hs] at h
      dsimp only at h
      obtain ⟨hc, h⟩ := rx_cond h
      obtain ⟨hcr, hck⟩ := rx_and2.mp hc
      unfold rx_cok at hck
      obtain ⟨k1, hck⟩ := rx_and2.mp hck
      obtain ⟨k2, hck⟩ := rx_and2.mp hck
      obtain ⟨k3, hck⟩ := rx_and2.mp hck
      obtain ⟨k4, hck⟩ := rx_and2.mp hck
      obtain ⟨k5, k6⟩ := rx_and2.mp hck
      have k1 : rx_cat rest ≤ 8 := rx_ble.mp k1
      have k2 : rx_rf (rx_n q) + 1 ≤ rx_rf (rx_n r) := rx_ble.mp k2
      have k3 : 19 + rx_mL (rx_n q) + rx_rl (rx_n q) ≤ rx_rl (rx_n r) := rx_ble.mp k3
      have k4 : cn + rx_rc (rx_n q) ≤ rx_rc (rx_n r) := rx_ble.mp k4
      have k5 : sn + rx_rs (rx_n q) ≤ rx_rs (rx_n r) := rx_ble.mp k5
      have k6 : rx_cat as ≤ rx_mL (rx_n q) := rx_ble.mp k6
      unfold rx_inv3 at h
      cases hrun : g q (0, rx_args as (rx_mL (rx_n q)), [], hp, iv, 0, 0) with
      | none => rw [hrun] at h; cases h
      | some os =>
        rw [hrun] at h
        dsimp only at h
        have hall := rx_all_ok h
        obtain ⟨pre, hp1, hp2, hp3⟩ := rx_spl_ok _ _ _ _ _ hs
        rw [List.append_nil] at hp3
        have hpre : pre = as.reverse := by rw [hp3, List.reverse_reverse]
        subst hpre
        have hqm : q ∈ P := by rw [rx_nth_eq] at hq; exact List.mem_of_getElem? hq
        obtain ⟨hQ, hSTq⟩ := hP q hqm
        have hQ' := hQ
        obtain ⟨v1, v2, v3, v4, v5, v6, v7, v8⟩ := hQ'
        intro ad en ls stA H locs ws hRl
        obtain ⟨h1, h2, h3, h4, h5, h6, h7, h8, h9⟩ := hRl
        replace h8 : st.map (rx_cv b ad en) = stA.map some := h8
        rw [hp1] at h8
        obtain ⟨asA, restA, rfl, has, hrest⟩ := rx_split h8
        have hM := rx_met hQ (ih q hSTq v8 _ _ hrun) H.size has k6 h3 h9
        have hGw : GoodIn lw_G (rx_ws q) := lw_G_good (fun w hw => by rcases List.mem_cons.mp hw with rfl | hw; exact v2; exact hw)
        have hRm : (rx_room q).frames + 1 ≤ R.frames ∧ 8 + (rx_mL (rx_n q) + 11) + (rx_room q).locals ≤ R.locals := ⟨Nat.le_trans k2 hR1, by show 8 + (rx_mL (rx_n q) + 11) + rx_rl (rx_n q) ≤ R.locals; omega⟩
        have hf : cn + rx_rc (rx_n q) ≤ R.cells ∧ sn + rx_rs (rx_n q) ≤ R.slots := ⟨Nat.le_trans k4 hR3, Nat.le_trans k5 hR4⟩
        have hroom : 2 * (F0 m pc ls (asA.reverse ++ restA)).monitorRoom + (restA.map fun v => v.category).sum ≤ 8 := by
          show 2 * 0 + _ ≤ 8
          rw [rx_cat_eq hrest]
          omega
        have hPc : ∀ U : State, U.heap = H → s.WarmedH U.vm → rx_Pc cy D b asA ws H.size asA.toArray U := fun U hU hW => ⟨rfl, by rw [hU], by rw [hU]; exact h4, va_K.moved hW.alike hK, h5.weaken (fun _ _ _ _ => trivial), lw_nest_warm hW hNest, va_AO.moved hW.alike hAO, hZt.call hW hU (by rw [← hH0]; exact h6) (rx_AA h5 h6 hA)⟩
        have hsize : (F0 m pc ls (asA.reverse ++ restA)).locals.size = rx_mL (rx_n r) := by rw [← hN]; exact h7.2.1
        have hlenA : asA.length = as.length := rx_map_len has
        have hlen : as.length = bif stat then rx_np (rx_n q) else Nat.succ (rx_np (rx_n q)) := by rw [← hp2, List.length_reverse]
        have fix : CallFix p m c (rx_b r) (rx_mL (rx_n r)) s args lw_G (rx_y r).cls := ⟨hx, hb, hml, hown, hts⟩
        have fin : ∀ {aa : Array Value}, va_Run p l e R s m args below meth c H locs cn sn (rx_rc (rx_n q)) (rx_rs (rx_n q)) (F0 m pc ls (asA.reverse ++ restA)) restA (rx_Qc cy D b ad en (va_A ws H.size) (rx_rk (rx_n q)) os aa) (va_A ws H.size) → W p l e R s m args below meth c H locs cn sn Q (F0 m pc ls (asA.reverse ++ restA)) := fun hR =>
          rx_back hR h1 h2 h5 h6 hA h7 hrest (fun o ho => by obtain ⟨o', ho', hsub⟩ := hall o ho; exact hG _ o' ho' hsub)
        rcases hk with ⟨i, rfl, rfl⟩ | ⟨i, rfl, rfl⟩ | ⟨i, rfl, rfl⟩
        · rcases hS with ⟨z, -⟩ | ⟨z, -⟩ | ⟨-, -, -, q', hq', u1, u2, u3, ⟨T, Nf, u4⟩, u5⟩
          · rw [z] at hn3; exact absurd rfl hn3
          · rw [z] at hn3; exact absurd rfl hn3
          cases hq.symm.trans hq'
          match as, hlen, has, hcr with
          | [], hlen, _, _ => cases hlen
          | v :: as', hlen, has, hcr =>
            obtain ⟨x, As, rfl, hxv, hAs⟩ := rx_st_cons has
            replace hcr : rx_obj hp (Nat.div nb 4) v = true := hcr
            unfold rx_obj at hcr
            obtain ⟨j1, hcr⟩ := rx_and2.mp hcr
            obtain ⟨j2, hcr⟩ := rx_and2.mp hcr
            cases hgo : rx_hg hp (Nat.sub (rx_pl v) 2) with
            | none => rw [hgo] at hcr; cases hcr
            | some cl =>
              obtain ⟨t2, n2, f2⟩ := cl
              rw [hgo] at hcr
              have ht2 : t2 = nb / 4 := rx_beq.mp hcr
              subst ht2
              obtain ⟨a2, e2, rfl, ha2, hw2, hc2⟩ := rx_ref_at h3 (rx_and2.mpr ⟨j1, j2⟩) hxv hgo
              obtain ⟨fs, rfl, hfs⟩ := hc2.obj u5
              have hAl : As.length = rx_np (rx_n q) := by
                have e1 : As.length = as'.length := rx_map_len hAs
                have e2 : as'.length + 1 = Nat.succ (rx_np (rx_n q)) := hlen
                omega
              refine fin (va_runV (As := As) (rest := restA) (b := a2) (C := (rx_y q).cls) fix hM (cwV (rx_np (rx_n q)) hts (lw_G_good (fun w hw => ?_)) rfl rfl rfl ⟨rfl, v4, v5, v6⟩ hRm) ⟨rx_Pc_blind, va_recv hK h4 u4 hw2, hPc⟩ rfl hAl hsize ?_ hroom hd hf)
              · rcases List.mem_append.mp hw with hw | hw
                · simp only [List.mem_cons, List.not_mem_nil, or_false] at hw
                  rcases hw with rfl | rfl | rfl | rfl
                  · exact u1
                  · exact u2
                  · exact u3
                  · exact v3
                · exact (hGw w hw).1
              · show (Value.ref a2 :: As).reverse ++ restA = As.reverse ++ .ref a2 :: restA
                simp
        · rcases hS with ⟨z, -⟩ | ⟨-, -, -, q', hq', u1, u2, u3, u4⟩
          · exact absurd z hn1
          cases hq.symm.trans hq'
          match as, hlen, has, hcr with
          | [], hlen, _, _ => cases hlen
          | v :: as', hlen, has, hcr =>
            obtain ⟨x, As, rfl, hxv, hAs⟩ := rx_st_cons has
            replace hcr : rx_obj hp (Nat.div nb 4) v = true := hcr
            unfold rx_obj at hcr
            obtain ⟨j1, hcr⟩ := rx_and2.mp hcr
            obtain ⟨j2, hcr⟩ := rx_and2.mp hcr
            have hx2 : rx_isR v = true := rx_and2.mpr ⟨j1, rx_blt.mpr (Nat.lt_of_lt_of_le (by decide) (rx_ble.mp j2))⟩
            obtain ⟨a2, rfl⟩ := rx_isR_cv hx2 hxv
            have hAl : As.length = rx_np (rx_n q) := by
              have e1 : As.length = as'.length := rx_map_len hAs
              have e2 : as'.length + 1 = Nat.succ (rx_np (rx_n q)) := hlen
              omega
            have hstk : (Value.ref a2 :: As).reverse ++ restA = As.reverse ++ .ref a2 :: restA := by simp
            have hwn : rx_ws q = Jvm.Cond.code (rx_y q) (rx_b q) (rx_mL (rx_n q)) none :: lw_G := by unfold rx_ws; rw [u2]
            rcases u4 with u4 | ⟨host, u4⟩
            · exact fin (va_runI (As := As) (rest := restA) (b := a2) fix hM (cwI (rx_np (rx_n q)) hts hGw hwn rfl rfl (hts _ v3) (hts _ u4) (hts _ u3) u1 ⟨v4, v5, v6⟩ hRm) ⟨rx_Pc_blind, hPc⟩ rfl hAl hsize hstk hroom hd hf)
            · exact fin (va_runIN (As := As) (rest := restA) (b := a2) fix hM ⟨va_cnB (host := host) (rx_np (rx_n q)) hts hGw hwn rfl rfl (hNest _ u4) (hts _ v3) ⟨v4, v5, v6⟩ hRm, u1, hts _ u3⟩ ⟨rx_Pc_blind, hPc⟩ rfl hAl hsize hstk hroom hd hf)
        · rcases hS with ⟨z, -⟩ | ⟨-, -, -, q', hq', u1, u2⟩ | ⟨z, -⟩ | ⟨z, -⟩
          · exact absurd z hn2
          rotate_left
          · rw [z] at hn3; exact absurd rfl hn3
          · rw [z] at hn3; exact absurd rfl hn3
          cases hq.symm.trans hq'
          have hAl : asA.length = rx_np (rx_n q) := hlenA.trans hlen
          refine fin (va_runS (As := asA) (rest := restA) fix hM (va_cwS (rx_np (rx_n q)) hts (lw_G_good (fun w hw => ?_)) rfl rfl rfl ⟨v4, v5, v6⟩ hRm) ⟨rx_Pc_blind, hPc⟩ rfl hAl hsize rfl hroom hd hf)
          rcases List.mem_append.mp hw with hw | hw
          · simp only [List.mem_cons, List.not_mem_nil, or_false] at hw
            rcases hw with rfl | rfl | rfl
            · exact u1
            · exact u2
            · exact v3
          · exact (hGw w hw).1
end RXD
