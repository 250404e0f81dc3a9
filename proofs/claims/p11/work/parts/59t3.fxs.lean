section FXT
variable {w : ax_W} {FZ : List (List (Nat × Nat))} {K : rx_K} {N : rx_N} {pc na nb : Nat} {lc sc : List Nat} {hp : rx_H} {l' : List rx_S}
theorem fx_i32 (z : Int32) : rx_i32 z < 4294967296 := z.toBitVec.isLt
theorem fx_t_un {FK : List (List Nat)} {f : Nat → Nat} {i : Nat} (hf : ∀ x, (bif Nat.beq i 0 then i_neg x else i_2b x) = f x) (hf2 : ∀ x, f x < 4294967296) (hl : fx_ws lc) (hs : fx_ws sc) (hH : fx_H w FK FZ hp) (h : rx_h_un f K N pc na nb lc sc hp [] 0 0 = some l') : fx_Re w FK FZ (fun NX lv => fx_s2 NX pc 11 i na [] lv (sc.map fx_d) (fx_hp hp)) lc hp l' := by
  unfold rx_h_un at h
  match sc, hs, h with
  | [], hs, h => cases h
  | x :: s', hs, h =>
    obtain ⟨hb, h⟩ := rx_cond h
    cases h
    refine fx_r1 hl (fx_ws_cons (fx_wv_int (hf2 _)) (fx_ws_tl hs)) hH (fun NX lv h => ?_)
    rw [List.map_cons, fx_d_int] at h
    show NX (Nat.add pc 1) lv ((0, bif Nat.beq i 0 then i_neg (x / 4) else i_2b (x / 4)) :: s'.map fx_d) (fx_hp hp)
    rw [hf]
    exact h
theorem fx_t_arJ {FK : List (List Nat)} {f : Nat → Nat → Nat} {i : Nat} (hf : ∀ x y, fx_j i x y = f x y) (hl : fx_ws lc) (hs : fx_ws sc) (hH : fx_H w FK FZ hp) (h : rx_h_arJ f K N pc na nb lc sc hp [] 0 0 = some l') : fx_Re w FK FZ (fun NX lv => fx_s2 NX pc 12 i na [] lv (sc.map fx_d) (fx_hp hp)) lc hp l' := by
  unfold rx_h_arJ at h
  match sc, hs, h with
  | [], hs, h => cases h
  | [_], hs, h => cases h
  | y :: x :: s', hs, h =>
    obtain ⟨hb, h⟩ := rx_cond h
    cases h
    refine fx_r1 hl (fx_ws_cons fx_wv_lng (fx_ws_tl (fx_ws_tl hs))) hH (fun NX lv h => ?_)
    rw [List.map_cons, fx_d_lng] at h
    show NX (Nat.add pc 1) lv ((1, fx_j i (x / 4) (y / 4)) :: s'.map fx_d) (fx_hp hp)
    rw [hf]
    exact h
theorem fx_t_shJ {FK : List (List Nat)} {f : Nat → Nat → Nat} {i : Nat} (hf : ∀ x y, (bif Nat.beq i 0 then rx_j_shl x y else rx_j_shr x y) = f x y) (hl : fx_ws lc) (hs : fx_ws sc) (hH : fx_H w FK FZ hp) (h : rx_h_shJ f K N pc na nb lc sc hp [] 0 0 = some l') : fx_Re w FK FZ (fun NX lv => fx_s2 NX pc 13 i na [] lv (sc.map fx_d) (fx_hp hp)) lc hp l' := by
  unfold rx_h_shJ at h
  match sc, hs, h with
  | [], hs, h => cases h
  | [_], hs, h => cases h
  | y :: x :: s', hs, h =>
    obtain ⟨hb, h⟩ := rx_cond h
    cases h
    refine fx_r1 hl (fx_ws_cons fx_wv_lng (fx_ws_tl (fx_ws_tl hs))) hH (fun NX lv h => ?_)
    rw [List.map_cons, fx_d_lng] at h
    show NX (Nat.add pc 1) lv ((1, bif Nat.beq i 0 then rx_j_shl (x / 4) (y / 4) else rx_j_shr (x / 4) (y / 4)) :: s'.map fx_d) (fx_hp hp)
    rw [hf]
    exact h
theorem fx_t_lcmp {FK : List (List Nat)} {i : Nat} (hl : fx_ws lc) (hs : fx_ws sc) (hH : fx_H w FK FZ hp) (h : rx_h_lcmp K N pc na nb lc sc hp [] 0 0 = some l') : fx_Re w FK FZ (fun NX lv => fx_s2 NX pc 14 i na [] lv (sc.map fx_d) (fx_hp hp)) lc hp l' := by
  unfold rx_h_lcmp at h
  match sc, hs, h with
  | [], hs, h => cases h
  | [_], hs, h => cases h
  | y :: x :: s', hs, h =>
    obtain ⟨hb, h⟩ := rx_cond h
    cases h
    refine fx_r1 hl (fx_ws_cons (fx_wv_int (fx_i32 _)) (fx_ws_tl (fx_ws_tl hs))) hH (fun NX lv h => ?_)
    rw [List.map_cons, fx_d_int] at h
    exact h
theorem fx_condN {α : Type} {b : Bool} {x y : α} (h : (bif b then none else some x) = some y) : y = x := by
  cases b
  · cases h; rfl
  · cases h
theorem fx_t_dup {FK : List (List Nat)} {i : Nat} (hl : fx_ws lc) (hs : fx_ws sc) (hH : fx_H w FK FZ hp) (h : rx_h_dup K N pc na nb lc sc hp [] 0 0 = some l') : fx_Re w FK FZ (fun NX lv => fx_s2 NX pc 15 i na [] lv (sc.map fx_d) (fx_hp hp)) lc hp l' := by
  unfold rx_h_dup at h
  match sc, hs, h with
  | [], hs, h => cases h
  | x :: s', hs, h =>
    rw [fx_condN h]
    exact fx_r1 hl (fx_ws_cons (fx_ws_hd hs) hs) hH (fun NX lv h => h)
theorem fx_t_pop {FK : List (List Nat)} {i : Nat} (hl : fx_ws lc) (hs : fx_ws sc) (hH : fx_H w FK FZ hp) (h : rx_h_pop K N pc na nb lc sc hp [] 0 0 = some l') : fx_Re w FK FZ (fun NX lv => fx_s2 NX pc 16 i na [] lv (sc.map fx_d) (fx_hp hp)) lc hp l' := by
  unfold rx_h_pop at h
  match sc, hs, h with
  | [], hs, h => cases h
  | x :: s', hs, h =>
    rw [fx_condN h]
    exact fx_r1 hl (fx_ws_tl hs) hH (fun NX lv h => h)
theorem fx_t_dup2 {FK : List (List Nat)} {i : Nat} (hl : fx_ws lc) (hs : fx_ws sc) (hH : fx_H w FK FZ hp) (h : rx_h_dup2 K N pc na nb lc sc hp [] 0 0 = some l') : fx_Re w FK FZ (fun NX lv => fx_s2 NX pc 17 i na [] lv (sc.map fx_d) (fx_hp hp)) lc hp l' := by
  unfold rx_h_dup2 at h
  match sc, hs, h with
  | [], hs, h => cases h
  | [_], hs, h => cases h
  | x :: y :: s', hs, h =>
    rw [fx_condN h]
    exact fx_r1 hl (fx_ws_cons (fx_ws_hd hs) (fx_ws_cons (fx_ws_hd (fx_ws_tl hs)) hs)) hH (fun NX lv h => h)
theorem fx_t_goto {FK : List (List Nat)} {i : Nat} (hl : fx_ws lc) (hs : fx_ws sc) (hH : fx_H w FK FZ hp) (h : rx_h_goto K N pc na nb lc sc hp [] 0 0 = some l') : fx_Re w FK FZ (fun NX lv => fx_s2 NX pc 18 i na [] lv (sc.map fx_d) (fx_hp hp)) lc hp l' := by
  cases h
  exact fx_r1 hl hs hH (fun NX lv h => h)
theorem fx_bi_inj {x y : Nat} (hx : x < 4294967296) (hy : y < 4294967296) (h : rx_bi x = rx_bi y) : x = y := by
  rw [ax_bi_def, ax_bi_def] at h
  omega
theorem fx_c_ok {k x y : Nat} (hx : x < 4294967296) (hy : y < 4294967296) (hk : k < 6) : fx_c k x y ↔ ax_cnd k (rx_bi x) (rx_bi y) := by
  match k, hk with
  | 0, _ => exact ⟨fun h => congrArg rx_bi h, fun h => fx_bi_inj hx hy h⟩
  | 1, _ => exact ⟨fun h z => h (fx_bi_inj hx hy z), fun h z => h (congrArg rx_bi z)⟩
  | 2, _ => exact iff_of_eq (s_lt_eq x y)
  | 3, _ => exact iff_of_eq (s_le_eq y x)
  | 4, _ => exact iff_of_eq (s_lt_eq y x)
  | 5, _ => exact iff_of_eq (s_le_eq x y)
theorem fx_cnd_not {k x y : Nat} (hk : k < 6) (h : ¬ ax_cnd k x y) : ax_cnd (ax_not k) x y := by
  match k, hk, h with
  | 0, _, h => exact h
  | 1, _, h => exact Classical.not_not.mp h
  | 2, _, h => exact Nat.le_of_not_lt h
  | 3, _, h => exact Nat.lt_of_not_le h
  | 4, _, h => exact Nat.le_of_not_lt h
  | 5, _, h => exact Nat.lt_of_not_le h
/-- a branch: which way it goes -/
theorem fx_t_br {FK : List (List Nat)} {k : ClassFile.Cond} {x y : Nat} {st st' : List Nat} (hx : fx_wv x) (hy : fx_wv y) (hl : fx_ws lc) (hs : fx_ws st') (hH : fx_H w FK FZ hp) (h : rx_br k na pc x y st st' lc hp [] 0 0 = some l') : fx_Re w FK FZ (fun NX lv => (fx_c (ax_cn k) (x / 4) (y / 4) → NX na lv (st'.map fx_d) (fx_hp hp)) ∧ (fx_c (ax_not (ax_cn k)) (x / 4) (y / 4) → NX (Nat.add pc 3) lv (st'.map fx_d) (fx_hp hp))) lc hp l' := by
  have int : ∀ v, fx_wv v → ∀ q, rx_io [] v = some q → v % 4 = 0 ∧ q = (rx_bi (v / 4), rx_bi (v / 4)) := by
    intro v hv q hq
    unfold rx_io at hq
    rcases ax_condY hq with ⟨hb, hq⟩ | ⟨hb, hq⟩
    · exact ⟨rx_beq.mp hb, (Option.some.inj hq).symm⟩
    · rw [show Nat.beq (rx_tk v) 3 = false from Bool.eq_false_iff.mpr (fun z => hv.1 (rx_beq.mp z))] at hq
      cases hq
  unfold rx_br at h
  cases hax : rx_io [] x with
  | none => rw [hax] at h; cases h
  | some a =>
    cases hay : rx_io [] y with
    | none => rw [hax, hay] at h; cases h
    | some b =>
      obtain ⟨x0, ea⟩ := int x hx a hax
      obtain ⟨y0, eb⟩ := int y hy b hay
      rw [hax, hay] at h
      dsimp only at h
      rw [ea, eb] at h
      have bx := hx.2 x0
      have by' := hy.2 y0
      have k6 := ax_cn_lt k
      rcases ax_tri k (rx_bi (x / 4)) (rx_bi (y / 4)) with ⟨hc, ht⟩ | ⟨hc, ht⟩
      · rw [ht] at h
        cases h
        refine fx_r1 hl hs hH (fun NX lv h => ⟨fun _ => h, fun z => ?_⟩)
        exact absurd ((fx_c_ok bx by' (ax_not_lt k6)).mp z) (fun z => ax_cnd_no k6 hc z)
      · rw [ht] at h
        cases h
        refine fx_r1 hl hs hH (fun NX lv h => ⟨fun z => ?_, fun _ => h⟩)
        exact absurd ((fx_c_ok bx by' k6).mp z) hc
theorem fx_t_if {FK : List (List Nat)} {k : ClassFile.Cond} (hl : fx_ws lc) (hs : fx_ws sc) (hH : fx_H w FK FZ hp) (h : rx_h_if k K N pc na nb lc sc hp [] 0 0 = some l') : fx_Re w FK FZ (fun NX lv => fx_s2 NX pc 19 (ax_cn k) na [] lv (sc.map fx_d) (fx_hp hp)) lc hp l' := by
  unfold rx_h_if at h
  match sc, hs, h with
  | [], hs, h => cases h
  | x :: s', hs, h => exact fx_t_br (y := 0) (fx_ws_hd hs) ⟨by decide, fun _ => by decide⟩ hl (fx_ws_tl hs) hH h
theorem fx_t_icmp {FK : List (List Nat)} {k : ClassFile.Cond} (hl : fx_ws lc) (hs : fx_ws sc) (hH : fx_H w FK FZ hp) (h : rx_h_icmp k K N pc na nb lc sc hp [] 0 0 = some l') : fx_Re w FK FZ (fun NX lv => fx_s2 NX pc 20 (ax_cn k) na [] lv (sc.map fx_d) (fx_hp hp)) lc hp l' := by
  unfold rx_h_icmp at h
  match sc, hs, h with
  | [], hs, h => cases h
  | [_], hs, h => cases h
  | y :: x :: s', hs, h => exact fx_t_br (fx_ws_hd (fx_ws_tl hs)) (fx_ws_hd hs) hl (fx_ws_tl (fx_ws_tl hs)) hH h
theorem fx_sw_one {D : Nat → Prop} {x : Nat} : ∀ {tg : List Nat} {j k t : Nat}, x = j + k → tg[k]? = some t → D t → fx_sw D x tg j
  | [], j, k, t, _, ht, _ => by cases ht
  | t0 :: tg, j, 0, t, hx, ht, hD => by
    cases ht
    refine ⟨fun _ => hD, ?_⟩
    have : ∀ (tg : List Nat) (i : Nat), x < i → fx_sw D x tg i := by
      intro tg
      induction tg with
      | nil => intro i _; trivial
      | cons a tg ih => intro i hi; exact ⟨fun z => by omega, ih (Nat.succ i) (by omega)⟩
    exact this tg (Nat.succ j) (by omega)
  | t0 :: tg, j, k + 1, t, hx, ht, hD => ⟨fun z => by omega, fx_sw_one (tg := tg) (j := Nat.succ j) (k := k) (by omega) ht hD⟩
theorem fx_sw_out {D : Nat → Prop} {x : Nat} : ∀ {tg : List Nat} {j : Nat}, (x < j ∨ j + tg.length ≤ x) → fx_sw D x tg j
  | [], _, _ => trivial
  | t :: tg, j, h => ⟨fun z => by rw [List.length_cons] at h; omega, fx_sw_out (tg := tg) (j := Nat.succ j) (by rw [List.length_cons] at h; omega)⟩
theorem fx_t_tsw {FK : List (List Nat)} {lo hi : Int} {offs : Array Int} {i : Nat} {tg : List Nat} (hn : (bif decide (0 ≤ lo) && (decide (hi = lo + offs.toList.length - 1) && offs.toList.all (fun o => decide (0 ≤ (pc : Int) + o))) then some (21, lo.toNat, 0, ax_tgs pc offs.toList) else none) = some ((21 : Nat), i, (0 : Nat), tg)) (hsm : i + tg.length < 100000) (hl : fx_ws lc) (hs : fx_ws sc) (hH : fx_H w FK FZ hp) (h : rx_h_tsw lo hi offs K N pc na nb lc sc hp [] 0 0 = some l') : fx_Re w FK FZ (fun NX lv => fx_s2 NX pc 21 i na tg lv (sc.map fx_d) (fx_hp hp)) lc hp l' := by
  obtain ⟨hc, hn⟩ := rx_cond hn
  obtain ⟨c1, hc⟩ := rx_and2.mp hc
  obtain ⟨c2, c3⟩ := rx_and2.mp hc
  have c1 : 0 ≤ lo := of_decide_eq_true c1
  have c2 : hi = lo + offs.toList.length - 1 := of_decide_eq_true c2
  cases hn
  unfold rx_h_tsw at h
  match sc, hs, h with
  | [], hs, h => cases h
  | x :: s', hs, h =>
    dsimp only at h
    have wx := fx_ws_hd hs
    obtain ⟨l0, rfl⟩ := Int.eq_ofNat_of_zero_le c1
    have ei : ((l0 : Nat) : Int).toNat = l0 := rfl
    rw [ei] at hsm ⊢
    have htl : (ax_tgs pc offs.toList).length = offs.toList.length := by unfold ax_tgs; rw [List.length_map]
    rw [htl] at hsm
    unfold rx_tsw2 at h
    cases hq : rx_io [] x with
    | none => rw [hq] at h; cases h
    | some q =>
      rw [hq] at h
      have x0 : x % 4 = 0 ∧ q = (rx_bi (x / 4), rx_bi (x / 4)) := by
        unfold rx_io at hq
        rcases ax_condY hq with ⟨hb, hq⟩ | ⟨hb, hq⟩
        · exact ⟨rx_beq.mp hb, (Option.some.inj hq).symm⟩
        · rw [show Nat.beq (rx_tk x) 3 = false from Bool.eq_false_iff.mpr (fun z => wx.1 (rx_beq.mp z))] at hq
          cases hq
      obtain ⟨x0, rfl⟩ := x0
      have xb := wx.2 x0
      have hbi := ax_bi_def (x / 4)
      cases hi with
      | negSucc m => cases h
      | ofNat h0 =>
        replace h : rx_tsw1 (Nat.add l0 2147483648) (Nat.add h0 2147483648) offs pc na x (rx_bi (x / 4)) (rx_bi (x / 4)) lc s' hp [] 0 0 = some l' := h
        have hh : h0 + 1 = l0 + offs.toList.length := by
          rw [Int.ofNat_eq_natCast] at c2
          omega
        unfold rx_tsw1 at h
        rcases ax_condY h with ⟨hb, h⟩ | ⟨hb, h⟩
        · cases h
          have hout : x / 4 < l0 ∨ l0 + offs.toList.length ≤ x / 4 := by
            rcases rx_or2.mp hb with z | z
            · have z : rx_bi (x / 4) < l0 + 2147483648 := rx_blt.mp z
              omega
            · have z : h0 + 2147483648 < rx_bi (x / 4) := rx_blt.mp z
              omega
          refine fx_r1 hl (fx_ws_tl hs) hH (fun NX lv h => ?_)
          exact ⟨fun _ => h, fx_sw_out (by rw [htl]; exact hout)⟩
        · have n1 : l0 + 2147483648 ≤ rx_bi (x / 4) := by
            rcases Nat.lt_or_ge (rx_bi (x / 4)) (l0 + 2147483648) with z | z
            · rw [show Nat.blt (rx_bi (x / 4)) (Nat.add l0 2147483648) = true from rx_blt.mpr z] at hb; cases hb
            · exact z
          have n2 : rx_bi (x / 4) ≤ h0 + 2147483648 := by
            rcases Nat.lt_or_ge (h0 + 2147483648) (rx_bi (x / 4)) with z | z
            · rw [show Nat.blt (Nat.add h0 2147483648) (rx_bi (x / 4)) = true from rx_blt.mpr z, Bool.or_true] at hb; cases hb
            · exact z
          rw [Nat.beq_refl, cond_true] at h
          obtain ⟨k, hk⟩ : ∃ k, x / 4 = l0 + k := ⟨x / 4 - l0, by omega⟩
          have e1 : Nat.sub (rx_bi (x / 4)) (Nat.add l0 2147483648) = k := by show rx_bi (x / 4) - (l0 + 2147483648) = k; omega
          rw [e1, ← Array.getElem?_toList] at h
          cases ho : offs.toList[k]? with
          | none => rw [ho] at h; cases h
          | some o =>
            rw [ho] at h
            dsimp only at h
            have hkl : k < offs.toList.length := by
              rcases Nat.lt_or_ge k offs.toList.length with z | z
              · exact z
              · rw [List.getElem?_eq_none_iff.mpr z] at ho; cases ho
            cases ht : (pc : Int) + o with
            | negSucc m => rw [ht] at h; cases h
            | ofNat t =>
              rw [ht] at h
              cases h
              have htg : (ax_tgs pc offs.toList)[k]? = some t := by
                unfold ax_tgs
                rw [List.getElem?_map, ho]
                show some ((pc : Int) + o).toNat = some t
                rw [ht]
                rfl
              refine fx_r1 hl (fx_ws_tl hs) hH (fun NX lv h => ?_)
              refine ⟨fun z => ?_, fx_sw_one hk htg h⟩
              replace z : x / 4 < l0 ∨ l0 + rx_len (ax_tgs pc offs.toList) ≤ x / 4 := z
              rw [rx_len_eq, htl] at z
              omega
end FXT
