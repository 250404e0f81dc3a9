/-! fx: an instruction's step -/
theorem fx_d_int (n : Nat) : fx_d (rx_int n) = (0, n) := by
  show ((4 * n) % 4, (4 * n) / 4) = (0, n)
  rw [Nat.mul_mod_right, Nat.mul_div_cancel_left n (by decide)]
theorem fx_d_lng (n : Nat) : fx_d (rx_lng n) = (1, n) := by
  show ((4 * n + 1) % 4, (4 * n + 1) / 4) = (1, n)
  have e1 : (4 * n + 1) % 4 = 1 := by omega
  have e2 : (4 * n + 1) / 4 = n := by omega
  rw [e1, e2]
theorem fx_wv_int {n : Nat} (h : n < 4294967296) : fx_wv (rx_int n) := ⟨by show (4 * n) % 4 ≠ 3; omega, fun _ => by show (4 * n) / 4 < _; omega⟩
theorem fx_wv_lng {n : Nat} : fx_wv (rx_lng n) := ⟨by show (4 * n + 1) % 4 ≠ 3; omega, fun z => by have z : (4 * n + 1) % 4 = 0 := z; omega⟩
theorem fx_wv_2 : fx_wv 2 := ⟨by decide, fun z => absurd z (by decide)⟩
theorem fx_ws_cons {v : Nat} {l : List Nat} (hv : fx_wv v) (h : fx_ws l) : fx_ws (v :: l) := by
  intro x hx
  rcases List.mem_cons.mp hx with e | e
  · rw [e]; exact hv
  · exact h x e
theorem fx_ws_hd {v : Nat} {l : List Nat} (h : fx_ws (v :: l)) : fx_wv v := h v List.mem_cons_self
theorem fx_ws_tl {v : Nat} {l : List Nat} (h : fx_ws (v :: l)) : fx_ws l := fun x hx => h x (List.mem_cons_of_mem _ hx)
theorem fx_ws_set {l : List Nat} (h : fx_ws l) {i v : Nat} (hv : fx_wv v) : fx_ws (l.set i v) := by
  intro x hx
  rcases List.mem_or_eq_of_mem_set hx with e | e
  · exact h x e
  · rw [e]; exact hv
theorem fx_ws_low {l : List Nat} (h : fx_ws l) (i : Nat) : fx_ws (rx_low l i) := by
  unfold rx_low
  cases i with
  | zero => exact h
  | succ j =>
    show fx_ws (match rx_nth l j with | some v => bif rx_isJ v then rx_upd l j 2 else l | none => l)
    cases rx_nth l j with
    | none => exact h
    | some v =>
      dsimp only
      cases rx_isJ v with
      | false => exact h
      | true => rw [cond_true, rx_upd_eq]; exact fx_ws_set h fx_wv_2
theorem fx_ws_put {l : List Nat} (h : fx_ws l) {i v : Nat} (hv : fx_wv v) : fx_ws (rx_put l i v) := by
  unfold rx_put
  rw [rx_upd_eq]
  exact fx_ws_set (fx_ws_low h i) hv
theorem fx_L.set {lv : List fx_V} {lc : List Nat} (h : fx_L lv lc) (i : Nat) {u : fx_V} {v : Nat} (huv : u.1 = 3 ∨ u = fx_d v) : fx_L (lv.set i u) (lc.set i v) := by
  refine ⟨by rw [List.length_set, List.length_set]; exact h.1, fun j a b ha hb => ?_⟩
  rw [List.getElem?_set] at ha hb
  by_cases hij : i = j
  · rw [if_pos hij] at ha hb
    by_cases hl : i < lv.length
    · rw [if_pos hl] at ha
      rw [if_pos (by rw [← h.1]; exact hl)] at hb
      cases ha
      cases hb
      exact huv
    · rw [if_neg hl] at ha; cases ha
  · rw [if_neg hij] at ha hb
    exact h.2 j a b ha hb
theorem fx_L.low {lv : List fx_V} {lc : List Nat} (h : fx_L lv lc) (i : Nat) : fx_L (fx_low lv i) (rx_low lc i) := by
  unfold fx_low rx_low
  cases i with
  | zero => exact h
  | succ j =>
    show fx_L (match rx_nth lv j with | some v => bif Nat.beq v.1 1 then rx_upd lv j (3, 0) else lv | none => lv) (match rx_nth lc j with | some v => bif rx_isJ v then rx_upd lc j 2 else lc | none => lc)
    rw [rx_nth_eq, rx_nth_eq, rx_upd_eq, rx_upd_eq]
    cases ha : lv[j]? with
    | none =>
      have hb : lc[j]? = none := by rw [List.getElem?_eq_none_iff] at ha ⊢; rw [← h.1]; exact ha
      rw [hb]
      exact h
    | some u =>
      have hl : j < lc.length := by
        rw [← h.1]
        rcases Nat.lt_or_ge j lv.length with q | q
        · exact q
        · rw [List.getElem?_eq_none_iff.mpr q] at ha; cases ha
      have hb : lc[j]? = some lc[j] := List.getElem?_eq_getElem hl
      rw [hb]
      dsimp only
      rcases h.2 j u _ ha hb with e | e
      · rw [show Nat.beq u.1 1 = false by rw [e]; rfl]
        rw [cond_false]
        cases rx_isJ lc[j] with
        | false => exact h
        | true =>
          rw [cond_true]
          have := h.set j (u := u) (v := 2) (Or.inl e)
          rw [show lv.set j u = lv by
            apply List.ext_getElem?
            intro z
            rw [List.getElem?_set]
            by_cases hz : j = z
            · rw [if_pos hz, if_pos (by rw [h.1]; exact hl), ← hz, ha]
            · rw [if_neg hz]] at this
          exact this
      · rw [e]
        show fx_L (bif Nat.beq (lc[j] % 4) 1 then _ else _) (bif Nat.beq (lc[j] % 4) 1 then _ else _)
        cases Nat.beq (lc[j] % 4) 1 with
        | false => exact h
        | true => exact h.set j (Or.inl rfl)
theorem fx_L.put {lv : List fx_V} {lc : List Nat} (h : fx_L lv lc) (i : Nat) {u : fx_V} {v : Nat} (huv : u.1 = 3 ∨ u = fx_d v) : fx_L (fx_put lv i u) (rx_put lc i v) := by
  unfold fx_put rx_put
  rw [rx_upd_eq, rx_upd_eq]
  exact (h.low i).set i huv
section FXS
variable {w : ax_W} {FZ : List (List (Nat × Nat))} {K : rx_K} {N : rx_N} {pc na nb : Nat} {lc sc : List Nat} {hp : rx_H} {l' : List rx_S}
noncomputable def fx_wf (w : ax_W) (FK : List (List Nat)) (FZ : List (List (Nat × Nat))) (σ : rx_S) : Prop := fx_ws σ.2.1 ∧ fx_ws σ.2.2.1 ∧ fx_H w FK FZ σ.2.2.2.1 ∧ σ.2.2.2.2 = ([], 0, 0)
noncomputable def fx_Nx (σ : rx_S) (NX : fx_N) : Prop := ∀ lv, fx_L lv σ.2.1 → NX σ.1 lv (σ.2.2.1.map fx_d) (fx_hp σ.2.2.2.1)
noncomputable def fx_Re (w : ax_W) (FK : List (List Nat)) (FZ : List (List (Nat × Nat))) (G : fx_N → List fx_V → Prop) (lc : List Nat) (hp : rx_H) (l' : List rx_S) : Prop := ∃ σ, l' = [σ] ∧ fx_wf w FK FZ σ ∧ σ.2.2.2.1.1 = hp.1 ∧ ∀ (NX : fx_N) (lv : List fx_V), fx_L lv lc → fx_Nx σ NX → G NX lv
theorem fx_r1 {FK : List (List Nat)} {pc' : Nat} {st' : List Nat} {G : fx_N → List fx_V → Prop} (hl : fx_ws lc) (hs : fx_ws st') (hH : fx_H w FK FZ hp) (hG : ∀ (NX : fx_N) (lv : List fx_V), NX pc' lv (st'.map fx_d) (fx_hp hp) → G NX lv) : fx_Re w FK FZ G lc hp [(pc', lc, st', hp, [], 0, 0)] :=
  ⟨_, rfl, ⟨hl, hs, hH, rfl⟩, rfl, fun NX lv hL hN => hG NX lv (hN lv hL)⟩
theorem fx_t_ld {FK : List (List Nat)} {ok : Nat → Bool} {i n t : Nat} (ht : t ≠ 3) (hl : fx_ws lc) (hs : fx_ws sc) (hH : fx_H w FK FZ hp) (h : rx_h_ld ok i n K N pc na nb lc sc hp [] 0 0 = some l') : fx_Re w FK FZ (fun NX lv => match rx_nth lv i with
    | some v => bif Nat.beq v.1 t then NX (Nat.add pc n) lv (v :: sc.map fx_d) (fx_hp hp) else True
    | none => True) lc hp l' := by
  unfold rx_h_ld at h
  rw [rx_nth_eq] at h
  cases hv : lc[i]? with
  | none => rw [hv] at h; cases h
  | some v =>
    rw [hv] at h
    obtain ⟨-, h⟩ := rx_cond h
    cases h
    refine ⟨_, rfl, ⟨hl, fx_ws_cons (hl v (List.mem_of_getElem? hv)) hs, hH, rfl⟩, rfl, fun NX lv hL hN => ?_⟩
    dsimp only
    rw [rx_nth_eq]
    cases hu : lv[i]? with
    | none => trivial
    | some u =>
      dsimp only
      cases hb : Nat.beq u.1 t with
      | false => trivial
      | true =>
        rcases hL.2 i u v hu hv with e | e
        · exact absurd ((rx_beq.mp hb).symm.trans e) ht
        · rw [cond_true, e]; exact hN lv hL
theorem fx_t_sto {FK : List (List Nat)} {ok : Nat → Bool} {i n : Nat} (hl : fx_ws lc) (hs : fx_ws sc) (hH : fx_H w FK FZ hp) (h : rx_h_sto ok i n K N pc na nb lc sc hp [] 0 0 = some l') : fx_Re w FK FZ (fun NX lv => match sc.map fx_d with
    | v :: st' => NX (Nat.add pc n) (fx_put lv i v) st' (fx_hp hp)
    | [] => True) lc hp l' := by
  unfold rx_h_sto at h
  match sc, hs, h with
  | [], hs, h => cases h
  | v :: st', hs, h =>
    obtain ⟨-, h⟩ := rx_cond h
    cases h
    exact ⟨_, rfl, ⟨fx_ws_put hl (fx_ws_hd hs), fx_ws_tl hs, hH, rfl⟩, rfl, fun NX lv hL hN => hN _ (hL.put i (Or.inr rfl))⟩
theorem fx_t_stJ {FK : List (List Nat)} {i n : Nat} (hl : fx_ws lc) (hs : fx_ws sc) (hH : fx_H w FK FZ hp) (h : rx_h_stJ i n K N pc na nb lc sc hp [] 0 0 = some l') : fx_Re w FK FZ (fun NX lv => match sc.map fx_d with
    | v :: st' => NX (Nat.add pc n) (rx_upd (fx_put lv i v) (Nat.succ i) (3, 0)) st' (fx_hp hp)
    | [] => True) lc hp l' := by
  unfold rx_h_stJ at h
  match sc, hs, h with
  | [], hs, h => cases h
  | v :: st', hs, h =>
    obtain ⟨-, h⟩ := rx_cond h
    cases h
    have e : rx_putJ lc i v = (rx_put lc i v).set (Nat.succ i) 2 := by unfold rx_putJ rx_put; rw [rx_upd_eq]
    rw [e]
    refine ⟨_, rfl, ⟨fx_ws_set (fx_ws_put hl (fx_ws_hd hs)) fx_wv_2, fx_ws_tl hs, hH, rfl⟩, rfl, fun NX lv hL hN => ?_⟩
    show NX _ (rx_upd (fx_put lv i (fx_d v)) (Nat.succ i) (3, 0)) _ _
    rw [rx_upd_eq]
    exact hN _ ((hL.put i (Or.inr rfl)).set (Nat.succ i) (Or.inl rfl))
theorem fx_t_inc {FK : List (List Nat)} {i : Nat} (hl : fx_ws lc) (hs : fx_ws sc) (hH : fx_H w FK FZ hp) (h : rx_h_inc i K N pc na nb lc sc hp [] 0 0 = some l') : fx_Re w FK FZ (fun NX lv => match rx_nth lv i with
    | some v => bif Nat.beq v.1 0 then NX (Nat.add pc 3) (fx_put lv i (0, i_add v.2 na)) (sc.map fx_d) (fx_hp hp) else True
    | none => True) lc hp l' := by
  unfold rx_h_inc at h
  rw [rx_nth_eq] at h
  cases hv : lc[i]? with
  | none => rw [hv] at h; cases h
  | some v =>
    rw [hv] at h
    obtain ⟨-, h⟩ := rx_cond h
    cases h
    refine ⟨_, rfl, ⟨fx_ws_put hl (fx_wv_int (Nat.mod_lt _ (by decide))), hs, hH, rfl⟩, rfl, fun NX lv hL hN => ?_⟩
    dsimp only
    rw [rx_nth_eq]
    cases hu : lv[i]? with
    | none => trivial
    | some u =>
      dsimp only
      cases hb : Nat.beq u.1 0 with
      | false => trivial
      | true =>
        rcases hL.2 i u v hu hv with e | e
        · exact absurd ((rx_beq.mp hb).symm.trans e) (by decide)
        · rw [cond_true, e]
          exact hN _ (hL.put i (Or.inr (by rw [i_add_eq, fx_d_int]; rfl)))
theorem fx_t_psh {FK : List (List Nat)} {n : Nat} (hna : na < 4294967296) (hl : fx_ws lc) (hs : fx_ws sc) (hH : fx_H w FK FZ hp) (h : rx_h_psh n K N pc na nb lc sc hp [] 0 0 = some l') : fx_Re w FK FZ (fun NX lv => NX (Nat.add pc n) lv ((0, na) :: sc.map fx_d) (fx_hp hp)) lc hp l' := by
  cases h
  refine fx_r1 hl (fx_ws_cons (fx_wv_int hna) hs) hH (fun NX lv h => ?_)
  rw [List.map_cons, fx_d_int] at h
  exact h
theorem fx_t_ldc {FK : List (List Nat)} (hl : fx_ws lc) (hs : fx_ws sc) (hH : fx_H w FK FZ hp) (h : rx_h_ldc K N pc na nb lc sc hp [] 0 0 = some l') : fx_Re w FK FZ (fun NX lv => NX (Nat.add pc 2) lv ((Nat.mod na 4, Nat.div na 4) :: sc.map fx_d) (fx_hp hp)) lc hp l' := by
  unfold rx_h_ldc at h
  obtain ⟨hk, h⟩ := rx_cond h
  cases h
  have hw : fx_wv na := by
    rcases rx_or2.mp hk with hk | hk
    · obtain ⟨h1, h2⟩ := rx_and2.mp hk
      have h1 : na % 4 = 0 := rx_beq.mp h1
      have h2 : na / 4 < 4294967296 := rx_blt.mp h2
      exact ⟨by omega, fun _ => h2⟩
    · obtain ⟨h1, h2⟩ := rx_and2.mp hk
      have h1 : na % 4 = 2 := rx_beq.mp h1
      exact ⟨by omega, fun z => by omega⟩
  exact fx_r1 hl (fx_ws_cons hw hs) hH (fun NX lv h => h)
theorem fx_t_pshJ {FK : List (List Nat)} {n : Nat} (hl : fx_ws lc) (hs : fx_ws sc) (hH : fx_H w FK FZ hp) (h : rx_h_pshJ n K N pc na nb lc sc hp [] 0 0 = some l') : fx_Re w FK FZ (fun NX lv => NX (Nat.add pc n) lv ((1, na) :: sc.map fx_d) (fx_hp hp)) lc hp l' := by
  cases h
  refine fx_r1 hl (fx_ws_cons fx_wv_lng hs) hH (fun NX lv h => ?_)
  rw [List.map_cons, fx_d_lng] at h
  exact h
theorem fx_b_ok {o x y r : Nat} (h : ax_f o x y = some r) : fx_b o x y = r ∧ (x < 4294967296 → r < 4294967296) := by
  have m : ∀ z : Nat, Nat.mod z 4294967296 < 4294967296 := fun z => Nat.mod_lt _ (by decide)
  have i32 : ∀ z : Int32, rx_i32 z < 4294967296 := fun z => z.toBitVec.isLt
  match o, h with
  | 0, h => cases h; exact ⟨i_add_eq x y, fun _ => m _⟩
  | 1, h => cases h; exact ⟨i_sub_eq x y, fun _ => m _⟩
  | 2, h => cases h; exact ⟨i_mul_eq x y, fun _ => m _⟩
  | 3, h => cases h; exact ⟨i_and_eq x y, fun _ => m _⟩
  | 4, h => cases h; exact ⟨i_or_eq x y, fun _ => m _⟩
  | 5, h => cases h; exact ⟨i_xor_eq x y, fun _ => m _⟩
  | 6, h => cases h; exact ⟨i_shl_eq x y, fun _ => m _⟩
  | 7, h => cases h; exact ⟨i_shr_eq x y, fun _ => i32 _⟩
  | 8, h => cases h; exact ⟨i_ushr_eq x y, fun _ => Nat.lt_of_le_of_lt (Nat.div_le_self _ _) (m _)⟩
  | 9, h =>
    replace h : (bif Nat.beq (Nat.mod y 4294967296) 0 then none else some (rx_i32 (Int32.ofNat x / Int32.ofNat y))) = some r := h
    cases hb : Nat.beq (Nat.mod y 4294967296) 0 with
    | true => rw [hb] at h; cases h
    | false => rw [hb] at h; cases h; exact ⟨i_div_eq x y, fun _ => i32 _⟩
  | 10, h =>
    replace h : (bif Nat.beq (Nat.mod y 4294967296) 0 then none else some (rx_i32 (Int32.ofNat x - Int32.ofNat x / Int32.ofNat y * Int32.ofNat y))) = some r := h
    cases hb : Nat.beq (Nat.mod y 4294967296) 0 with
    | true => rw [hb] at h; cases h
    | false => rw [hb] at h; cases h; exact ⟨i_rem_eq x y, fun _ => i32 _⟩
  | (o + 11), h => cases h
theorem fx_bp_ok {o x y : Nat} {k : Nat → Prop} (h : k (fx_b o x y)) : fx_bp o k x y := by
  unfold fx_bp
  unfold fx_b at h
  cases h0 : Nat.beq o 0 with
  | true => rw [h0] at h; exact h
  | false =>
    rw [h0] at h
    cases h1 : Nat.beq o 1 with
    | true => rw [h1] at h; exact h
    | false =>
      rw [h1] at h
      cases h2 : Nat.beq o 2 with
      | true => rw [h2] at h; exact h
      | false =>
        rw [h2] at h
        cases h3 : Nat.beq o 3 with
        | true => rw [h3] at h; exact h
        | false =>
          rw [h3] at h
          cases h4 : Nat.beq o 4 with
          | true => rw [h4] at h; exact h
          | false =>
            rw [h4] at h
            cases h5 : Nat.beq o 5 with
            | true => rw [h5] at h; exact h
            | false =>
              rw [h5] at h
              cases h6 : Nat.beq o 6 with
              | true => rw [h6] at h; exact h
              | false =>
                rw [h6] at h
                cases h7 : Nat.beq o 7 with
                | true => rw [h7] at h; exact h
                | false =>
                  rw [h7] at h
                  cases h8 : Nat.beq o 8 with
                  | true => rw [h8] at h; exact h
                  | false =>
                    rw [h8] at h
                    cases h9 : Nat.beq o 9 with
                    | true => rw [h9] at h; exact h
                    | false => rw [h9] at h; exact h
theorem fx_sml {v : Nat} (h : fx_wv v) : rx_sml [] v = false := by
  unfold rx_sml
  rw [show Nat.beq (rx_tk v) 3 = false from Bool.eq_false_iff.mpr (fun z => h.1 (rx_beq.mp z))]
  rfl
theorem fx_isI {v : Nat} (h : fx_wv v) (hi : rx_isI v = true) : v % 4 = 0 := by
  rcases rx_or2.mp hi with z | z
  · exact rx_beq.mp z
  · exact absurd (rx_beq.mp z) h.1
theorem fx_eint {v : Nat} (h0 : v % 4 = 0) : fx_d v = (0, v / 4) := by
  show (v % 4, v / 4) = _
  rw [h0]
theorem fx_t_bin {FK : List (List Nat)} {i : Nat} {l0 : Option (List rx_S)} (hh : l0 = some l' → ∃ (x y r : Nat) (s' : List Nat), sc = y :: x :: s' ∧ x % 4 = 0 ∧ y % 4 = 0 ∧ ax_f i (x / 4) (y / 4) = some r ∧ l' = [(Nat.add pc 1, lc, rx_int r :: s', hp, [], 0, 0)]) (hl : fx_ws lc) (hs : fx_ws sc) (hH : fx_H w FK FZ hp) (h : l0 = some l') : fx_Re w FK FZ (fun NX lv => match sc.map fx_d with
    | y :: x :: st' => fx_bp i (fun z => NX (Nat.add pc 1) lv ((0, z) :: st') (fx_hp hp)) x.2 y.2
    | _ => True) lc hp l' := by
  obtain ⟨x, y, r, s', rfl, hx, hy, hr, rfl⟩ := hh h
  obtain ⟨e1, e2⟩ := fx_b_ok hr
  have wx := fx_ws_hd (fx_ws_tl hs)
  refine fx_r1 hl (fx_ws_cons (fx_wv_int (e2 (wx.2 hx))) (fx_ws_tl (fx_ws_tl hs))) hH (fun NX lv h => ?_)
  rw [List.map_cons, fx_d_int, ← e1] at h
  exact fx_bp_ok h
theorem fx_ar {f : Nat → Nat → Option Nat} {g : Nat → Nat × Nat} (hs : fx_ws sc) (h : rx_h_ar f g K N pc na nb lc sc hp [] 0 0 = some l') : ∃ (x y r : Nat) (s' : List Nat), sc = y :: x :: s' ∧ x % 4 = 0 ∧ y % 4 = 0 ∧ f (x / 4) (y / 4) = some r ∧ l' = [(Nat.add pc 1, lc, rx_int r :: s', hp, [], 0, 0)] := by
  unfold rx_h_ar at h
  match sc, hs, h with
  | [], hs, h => cases h
  | [_], hs, h => cases h
  | y :: x :: s', hs, h =>
    dsimp only at h
    rw [ax_kn, ax_kn] at h
    have wy := fx_ws_hd hs
    have wx := fx_ws_hd (fx_ws_tl hs)
    rcases ax_condY h with ⟨hb, h⟩ | ⟨hb, h⟩
    · obtain ⟨b1, b2⟩ := rx_and2.mp hb
      cases hr : f (rx_pl x) (rx_pl y) with
      | none => rw [hr] at h; cases h
      | some r => rw [hr] at h; cases h; exact ⟨x, y, r, s', rfl, rx_beq.mp b1, rx_beq.mp b2, hr, rfl⟩
    · rw [fx_sml wy, fx_sml wx] at h
      dsimp only [cond_false] at h
      obtain ⟨hi, -⟩ := rx_cond h
      obtain ⟨i1, i2⟩ := rx_and2.mp hi
      rw [show Nat.beq (rx_tk x) 0 = true from rx_beq.mpr (fx_isI wx i1), show Nat.beq (rx_tk y) 0 = true from rx_beq.mpr (fx_isI wy i2)] at hb
      cases hb
theorem fx_ark {f : Nat → Nat → Option Nat} (h : rx_h_ark f K N pc na nb lc sc hp [] 0 0 = some l') : ∃ (x y r : Nat) (s' : List Nat), sc = y :: x :: s' ∧ x % 4 = 0 ∧ y % 4 = 0 ∧ f (x / 4) (y / 4) = some r ∧ l' = [(Nat.add pc 1, lc, rx_int r :: s', hp, [], 0, 0)] := by
  unfold rx_h_ark at h
  match sc, h with
  | [], h => cases h
  | [_], h => cases h
  | y :: x :: s', h =>
    obtain ⟨hb, h⟩ := rx_cond h
    obtain ⟨b1, b2⟩ := rx_and2.mp hb
    cases hr : f (rx_pl x) (rx_pl y) with
    | none => rw [hr] at h; cases h
    | some r => rw [hr] at h; cases h; exact ⟨x, y, r, s', rfl, rx_beq.mp b1, rx_beq.mp b2, hr, rfl⟩
end FXS
