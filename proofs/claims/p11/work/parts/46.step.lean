noncomputable def ax_cn (k : ClassFile.Cond) : Nat := match k with
  | .eq => 0 | .ne => 1 | .lt => 2 | .ge => 3 | .gt => 4 | .le => 5
/-- where a switch goes -/
noncomputable def ax_tgs (pc : Nat) (l : List Int) : List Nat := l.map (fun o => ((pc : Int) + o).toNat)
/-- an instruction by numbers -/
noncomputable def ax_num (pc : Nat) (ins : Instr) : Option (Nat × Nat × Nat × List Nat) := match ins with
  | .iload_n k => some (1, k.val, 1, []) | .aload_n k => some (2, k.val, 1, []) | .lload_n k => some (3, k.val, 1, [])
  | .iload i => some (1, i, 2, []) | .lload i => some (3, i, 2, [])
  | .istore_n k => some (4, k.val, 1, []) | .astore_n k => some (5, k.val, 1, []) | .istore i => some (4, i, 2, [])
  | .lstore_n k => some (6, k.val, 1, []) | .lstore i => some (6, i, 2, [])
  | .iconst _ => some (7, 0, 1, []) | .bipush _ => some (7, 0, 2, []) | .sipush _ => some (7, 0, 3, []) | .ldc_w _ => some (7, 0, 3, []) | .ldc _ => some (7, 1, 2, [])
  | .lconst _ => some (8, 0, 1, []) | .ldc2_w _ => some (8, 0, 3, [])
  | .iinc i _ => some (9, i, 0, [])
  | .iadd => some (10, 0, 0, []) | .isub => some (10, 1, 0, []) | .imul => some (10, 2, 0, []) | .iand => some (10, 3, 0, []) | .ior => some (10, 4, 0, []) | .ixor => some (10, 5, 0, []) | .ishl => some (10, 6, 0, []) | .ishr => some (10, 7, 0, []) | .iushr => some (10, 8, 0, []) | .idiv => some (10, 9, 0, []) | .irem => some (10, 10, 0, [])
  | .ineg => some (11, 0, 0, []) | .i2b => some (11, 1, 0, [])
  | .ladd => some (12, 0, 0, []) | .lsub => some (12, 1, 0, []) | .lmul => some (12, 2, 0, []) | .land => some (12, 3, 0, []) | .lor => some (12, 4, 0, []) | .lxor => some (12, 5, 0, [])
  | .lshl => some (13, 0, 0, []) | .lshr => some (13, 1, 0, []) | .lcmp => some (14, 0, 0, [])
  | .dup => some (15, 0, 0, []) | .pop => some (16, 0, 0, []) | .dup2 => some (17, 0, 0, []) | .goto _ => some (18, 0, 0, [])
  | .ifCond k _ => some (19, ax_cn k, 0, []) | .if_icmp k _ => some (20, ax_cn k, 0, [])
  | .tableswitch _ lo hi offs => bif decide (0 ≤ lo) && (decide (hi = lo + offs.toList.length - 1) && offs.toList.all (fun o => decide (0 ≤ (pc : Int) + o))) then some (21, lo.toNat, 0, ax_tgs pc offs.toList) else none
  | .getfield _ => some (22, 0, 0, []) | .putfield _ => some (23, 0, 0, [])
  | .arraylength => some (24, 0, 0, [])
  | .iaload => some (24, 13, 0, []) | .baload => some (24, 12, 0, []) | .laload => some (24, 14, 0, []) | .aaload => some (24, 16, 0, [])
  | .iastore => some (25, 13, 0, []) | .bastore => some (25, 12, 0, []) | .lastore => some (25, 14, 0, []) | .aastore => some (25, 16, 0, [])
  | _ => none
/-- one of these states is the machine's -/
noncomputable def ax_Res (w : ax_W) (X : ax_X) (md : List (Nat × Nat)) (ρ : Nat → Nat) (n : Nat) (hp : rx_H) (out : List ax_A) (σ : rx_S) : Prop :=
  ∃ a ∈ out, ∃ (ρ' : Nat → Nat) (hp' : rx_H), (∀ k, k < n → ρ' k = ρ k) ∧ n ≤ a.2.2.2.1 ∧ ax_R w X ρ' a hp' σ ∧ ax_HR w md hp hp'
theorem ax_kn (v : Nat) : rx_kn [] v = v := by
  unfold rx_kn
  cases Nat.beq (rx_tk v) 3 <;> rfl
section AXS
variable {w : ax_W} {X : ax_X} {md : List (Nat × Nat)} {ρ : Nat → Nat} {E : ax_E} {hp : rx_H} {K : rx_K} {N : rx_N} {pc na nb : Nat} {lv st lvc stc : List Nat} {out : List ax_A}
/-- nothing but pc, locals and stack has changed -/
theorem ax_one (hE : ax_EO w X ρ E hp) (hT : ax_HT w hp) {p : Nat} {lv' st' lvc' stc' : List Nat} (hl : lv'.map (ax_ev E.1 ρ) = lvc'.map some) (hs : st'.map (ax_ev E.1 ρ) = stc'.map some) (hm : (p, lv', st', E) ∈ out) : ax_Res w X md ρ E.1 hp out (p, lvc', stc', hp, [], 0, 0) :=
  ⟨_, hm, ρ, hp, fun _ _ => rfl, Nat.le_refl _, ⟨rfl, hl, hs, rfl, hE, hT⟩, ax_HR.rf⟩
/-- a new value -/
theorem ax_new1 (hT : ax_HT w hp) {E' : ax_E} {ρ' : Nat → Nat} (hn : E.1 ≤ E'.1) (hρ : ∀ k, k < E.1 → ρ' k = ρ k) (hE' : ax_EO w X ρ' E' hp) {p : Nat} {lv' st' lvc' stc' : List Nat} (hl : lv'.map (ax_ev E'.1 ρ') = lvc'.map some) (hs : st'.map (ax_ev E'.1 ρ') = stc'.map some) (hm : (p, lv', st', E') ∈ out) : ax_Res w X md ρ E.1 hp out (p, lvc', stc', hp, [], 0, 0) :=
  ⟨_, hm, ρ', hp, hρ, hn, ⟨rfl, hl, hs, rfl, hE', hT⟩, ax_HR.rf⟩
theorem ax_isJ_eq (hE : ax_EO w X ρ E hp) {v x : Nat} (hx : ax_ev E.1 ρ v = some x) : ax_isK E 1 v = rx_isJ x := by
  cases h : ax_isK E 1 v with
  | true => exact (rx_beq.mpr (ax_isK1 hE h hx)).symm
  | false =>
    refine (Bool.eq_false_iff.mpr (fun z => ?_)).symm
    have z : x % 4 = 1 := rx_beq.mp z
    unfold ax_isK at h
    cases ht : ax_typ E v with
    | some t =>
      rw [ht] at h
      rcases ax_typ_ok hE ht hx with ⟨-, p, -⟩ | ⟨p, -⟩ | ⟨-, p, -⟩ | ⟨-, -, p⟩
      · omega
      · replace h : Nat.beq t.1 1 = false := h
        rw [p] at h; cases h
      · omega
      · omega
    | none =>
      unfold ax_typ at ht
      unfold ax_ev at hx
      by_cases h3 : v % 4 = 3
      · rw [if_pos h3] at hx
        by_cases hl : v / 4 < E.1
        · rw [rx_beq.mpr (show rx_tk v = 3 from h3), cond_true, rx_blt.mpr (show rx_pl v < ax_n E from hl), cond_true, rx_nth_eq] at ht
          have := List.getElem?_eq_none_iff.mp ht
          rw [show (ax_ty E).length = E.1 from hE.1] at this
          replace this : E.1 ≤ E.1 - 1 - v / 4 := this
          omega
        · rw [if_neg hl] at hx; cases hx
      · rw [if_neg h3] at hx
        cases hx
        rw [show Nat.beq (rx_tk v) 3 = false from Bool.eq_false_iff.mpr (fun q => h3 (rx_beq.mp q)), cond_false, show Nat.beq (rx_tk v) 0 = false from Bool.eq_false_iff.mpr (fun q => by have : v % 4 = 0 := rx_beq.mp q; omega), cond_false, rx_beq.mpr (show rx_tk v = 1 from z)] at ht
        cases ht
theorem ax_low_ok (hE : ax_EO w X ρ E hp) (hl : lv.map (ax_ev E.1 ρ) = lvc.map some) (i : Nat) : (ax_low E lv i).map (ax_ev E.1 ρ) = (rx_low lvc i).map some := by
  unfold ax_low rx_low
  cases i with
  | zero => exact hl
  | succ j =>
    show List.map _ (match rx_nth lv j with | some v => bif ax_isK E 1 v then rx_upd lv j 2 else lv | none => lv) = List.map some (match rx_nth lvc j with | some v => bif rx_isJ v then rx_upd lvc j 2 else lvc | none => lvc)
    rw [rx_nth_eq, rx_nth_eq]
    cases e : lv[j]? with
    | none =>
      have e2 : lvc[j]? = none := by rw [List.getElem?_eq_none_iff, ax_evs_len hl]; exact List.getElem?_eq_none_iff.mp e
      rw [e2]
      exact hl
    | some v =>
      obtain ⟨x, e2, hx⟩ := ax_evs_nth hl e
      rw [e2]
      show List.map _ (bif ax_isK E 1 v then rx_upd lv j 2 else lv) = List.map some (bif rx_isJ x then rx_upd lvc j 2 else lvc)
      rw [ax_isJ_eq hE hx]
      cases rx_isJ x with
      | true => rw [cond_true, cond_true, rx_upd_eq, rx_upd_eq]; exact ax_evs_set hl (ax_ev_c (by decide))
      | false => exact hl
theorem ax_put_ok (hE : ax_EO w X ρ E hp) (hl : lv.map (ax_ev E.1 ρ) = lvc.map some) {i v x : Nat} (hv : ax_ev E.1 ρ v = some x) : (ax_put E lv i v).map (ax_ev E.1 ρ) = (rx_put lvc i x).map some := by
  unfold ax_put rx_put
  rw [rx_upd_eq, rx_upd_eq]
  exact ax_evs_set (ax_low_ok hE hl i) hv
theorem ax_t_ld {ok : Nat → Bool} {i n : Nat} {q : Nat → Bool} (hok : ∀ v x, q v = true → ax_ev E.1 ρ v = some x → ok x = true) (hE : ax_EO w X ρ E hp) (hT : ax_HT w hp) (hl : lv.map (ax_ev E.1 ρ) = lvc.map some) (hs : st.map (ax_ev E.1 ρ) = stc.map some)
    (h : (match rx_nth lv i with | some v => bif q v then some [(Nat.add pc n, lv, v :: st, E)] else none | none => none) = some out) : ∃ σ, rx_h_ld ok i n K N pc na nb lvc stc hp [] 0 0 = some [σ] ∧ ax_Res w X md ρ E.1 hp out σ := by
  rw [rx_nth_eq] at h
  cases e : lv[i]? with
  | none => rw [e] at h; cases h
  | some v =>
    rw [e] at h
    obtain ⟨hq, h⟩ := rx_cond h
    cases h
    obtain ⟨x, e2, hx⟩ := ax_evs_nth hl e
    refine ⟨_, ?_, ax_one hE hT hl (ax_evs_push hx hs) List.mem_cons_self⟩
    unfold rx_h_ld
    rw [rx_nth_eq, e2]
    show (bif ok x then _ else none) = _
    rw [hok v x hq hx]
    rfl
theorem ax_t_sto {ok : Nat → Bool} {i n : Nat} {q : Nat → Bool} (hok : ∀ v x, q v = true → ax_ev E.1 ρ v = some x → ok x = true) (hE : ax_EO w X ρ E hp) (hT : ax_HT w hp) (hl : lv.map (ax_ev E.1 ρ) = lvc.map some)
    (h : (match st with | v :: st' => bif q v && Nat.blt i (rx_mL N) then some [(Nat.add pc n, ax_put E lv i v, st', E)] else none | [] => none) = some out) (hs : st.map (ax_ev E.1 ρ) = stc.map some) : ∃ σ, rx_h_sto ok i n K N pc na nb lvc stc hp [] 0 0 = some [σ] ∧ ax_Res w X md ρ E.1 hp out σ := by
  match st, h with
  | [], h => cases h
  | v :: st', h =>
    obtain ⟨hq, h⟩ := rx_cond h
    obtain ⟨hq, hi⟩ := rx_and2.mp hq
    cases h
    obtain ⟨x, r, rfl, hx, hr⟩ := ax_evs_cons hs
    refine ⟨_, ?_, ax_one hE hT (ax_put_ok hE hl hx) hr List.mem_cons_self⟩
    show (bif ok x && Nat.blt i (rx_mL N) then _ else none) = _
    rw [hok v x hq hx, hi]
    rfl
theorem ax_t_stJ {i n : Nat} (hE : ax_EO w X ρ E hp) (hT : ax_HT w hp) (hl : lv.map (ax_ev E.1 ρ) = lvc.map some)
    (h : (match st with | v :: st' => bif ax_isK E 1 v && Nat.blt (Nat.succ i) (rx_mL N) then some [(Nat.add pc n, rx_upd (ax_put E lv i v) (Nat.succ i) 2, st', E)] else none | [] => none) = some out) (hs : st.map (ax_ev E.1 ρ) = stc.map some) : ∃ σ, rx_h_stJ i n K N pc na nb lvc stc hp [] 0 0 = some [σ] ∧ ax_Res w X md ρ E.1 hp out σ := by
  match st, h with
  | [], h => cases h
  | v :: st', h =>
    obtain ⟨hq, h⟩ := rx_cond h
    obtain ⟨hq, hi⟩ := rx_and2.mp hq
    cases h
    obtain ⟨x, r, rfl, hx, hr⟩ := ax_evs_cons hs
    have hp1 := ax_put_ok (i := i) hE hl hx
    refine ⟨_, ?_, ax_one hE hT (lvc' := rx_putJ lvc i x) ?_ hr List.mem_cons_self⟩
    · show (bif rx_isJ x && Nat.blt (Nat.succ i) (rx_mL N) then _ else none) = _
      rw [show rx_isJ x = true from rx_beq.mpr (ax_isK1 hE hq hx), hi]
      rfl
    · show List.map _ (rx_upd (ax_put E lv i v) (Nat.succ i) 2) = List.map some (rx_upd (rx_put lvc i x) (Nat.succ i) 2)
      rw [rx_upd_eq, rx_upd_eq]
      exact ax_evs_set hp1 (ax_ev_c (v := 2) (by decide))
theorem ax_int_lt {n : Nat} (h : n < 4294967296) : rx_int n % 4 = 0 ∧ rx_int n / 4 = n ∧ rx_int n / 4 < 4294967296 := by
  have : rx_int n = 4 * n := rfl
  omega
theorem ax_t_psh {n : Nat} (hE : ax_EO w X ρ E hp) (hT : ax_HT w hp) (hl : lv.map (ax_ev E.1 ρ) = lvc.map some) (hs : st.map (ax_ev E.1 ρ) = stc.map some)
    (h : (bif Nat.blt na 4294967296 then some [(Nat.add pc n, lv, rx_int na :: st, E)] else none) = some out) : ∃ σ, rx_h_psh n K N pc na nb lvc stc hp [] 0 0 = some [σ] ∧ ax_Res w X md ρ E.1 hp out σ := by
  obtain ⟨hq, h⟩ := rx_cond h
  cases h
  have := (ax_int_lt (rx_blt.mp hq)).1
  exact ⟨_, rfl, ax_one hE hT hl (ax_evs_push (ax_ev_c (by omega)) hs) List.mem_cons_self⟩
theorem ax_t_ldc (hE : ax_EO w X ρ E hp) (hT : ax_HT w hp) (hl : lv.map (ax_ev E.1 ρ) = lvc.map some) (hs : st.map (ax_ev E.1 ρ) = stc.map some)
    (h : (bif rx_lok na then some [(Nat.add pc 2, lv, na :: st, E)] else none) = some out) : ∃ σ, rx_h_ldc K N pc na nb lvc stc hp [] 0 0 = some [σ] ∧ ax_Res w X md ρ E.1 hp out σ := by
  obtain ⟨hq, h⟩ := rx_cond h
  cases h
  refine ⟨(Nat.add pc 2, lvc, na :: stc, hp, [], 0, 0), ?_, ax_one hE hT hl (ax_evs_push (ax_ev_c ?_) hs) List.mem_cons_self⟩
  · show (bif rx_lok na then _ else _) = _
    rw [hq]
    rfl
  · rcases rx_or2.mp hq with h | h
    · have : na % 4 = 0 := rx_beq.mp (rx_and2.mp h).1
      omega
    · have : na % 4 = 2 := rx_beq.mp (rx_and2.mp h).1
      omega
theorem ax_t_pshJ {n : Nat} (hE : ax_EO w X ρ E hp) (hT : ax_HT w hp) (hl : lv.map (ax_ev E.1 ρ) = lvc.map some) (hs : st.map (ax_ev E.1 ρ) = stc.map some)
    (h : some [(Nat.add pc n, lv, rx_lng na :: st, E)] = some out) : ∃ σ, rx_h_pshJ n K N pc na nb lvc stc hp [] 0 0 = some [σ] ∧ ax_Res w X md ρ E.1 hp out σ := by
  cases h
  have : rx_lng na = 4 * na + 1 := rfl
  exact ⟨_, rfl, ax_one hE hT hl (ax_evs_push (ax_ev_c (by omega)) hs) List.mem_cons_self⟩
theorem ax_t_inc {i : Nat} (hE : ax_EO w X ρ E hp) (hT : ax_HT w hp) (hl : lv.map (ax_ev E.1 ρ) = lvc.map some) (hs : st.map (ax_ev E.1 ρ) = stc.map some)
    (h : (match rx_nth lv i with
    | some v => bif Nat.blt i (rx_mL N) && Nat.blt na 4294967296 then (match ax_bin E 0 v (rx_int na) with
      | some (r, E1) => some [(Nat.add pc 3, ax_put E1 lv i r, st, E1)]
      | none => none) else none
    | none => none) = some out) : ∃ σ, rx_h_inc i K N pc na nb lvc stc hp [] 0 0 = some [σ] ∧ ax_Res w X md ρ E.1 hp out σ := by
  rw [rx_nth_eq] at h
  cases e : lv[i]? with
  | none => rw [e] at h; cases h
  | some v =>
    rw [e] at h
    obtain ⟨hq, h⟩ := rx_cond h
    obtain ⟨hi, hna⟩ := rx_and2.mp hq
    obtain ⟨x, e2, hx⟩ := ax_evs_nth hl e
    cases eb : ax_bin E 0 v (rx_int na) with
    | none => rw [eb] at h; cases h
    | some z =>
      obtain ⟨r, E1⟩ := z
      rw [eb] at h
      cases h
      obtain ⟨n1, n2, n3⟩ := ax_int_lt (rx_blt.mp hna)
      obtain ⟨p0, q0, p1, q1, r0, f1, f2, f3, ρ', a1, a2, a3⟩ := ax_bin_ok hE hx (ax_ev_c (v := rx_int na) (by omega)) eb
      have f1 : (x / 4 + rx_int na / 4) % 4294967296 = r0 := Option.some.inj f1
      refine ⟨_, ?_, ax_new1 hT f3 a1 a2 (ax_put_ok a2 (ax_evs_mono f3 a1 hl) a3) (ax_evs_mono f3 a1 hs) List.mem_cons_self⟩
      unfold rx_h_inc
      rw [rx_nth_eq, e2]
      show (bif Nat.beq (rx_tk x) 0 && Nat.blt i (rx_mL N) then some [(Nat.add pc 3, rx_put lvc i (rx_int (Nat.mod (Nat.add (rx_pl x) na) 4294967296)), stc, hp, [], 0, 0)] else none) = _
      rw [rx_beq.mpr (show rx_tk x = 0 from p0), hi]
      have e3 : Nat.mod (Nat.add (rx_pl x) na) 4294967296 = r0 := by
        rw [← f1, n2]; rfl
      rw [e3]
      rfl
/-- of two ints -/
theorem ax_t_bin {i : Nat} {hd : rx_Hd} (hh : ∀ (x y r : Nat) (s' : List Nat), x % 4 = 0 → y % 4 = 0 → ax_f i (x / 4) (y / 4) = some r → hd K N pc na nb lvc (y :: x :: s') hp [] 0 0 = some [(Nat.add pc 1, lvc, rx_int r :: s', hp, [], 0, 0)]) (hE : ax_EO w X ρ E hp) (hT : ax_HT w hp) (hl : lv.map (ax_ev E.1 ρ) = lvc.map some)
    (h : (match st with
    | y :: x :: st' => ax_psh (Nat.add pc 1) lv st' (ax_bin E i x y)
    | _ => none) = some out) (hs : st.map (ax_ev E.1 ρ) = stc.map some) : ∃ σ, hd K N pc na nb lvc stc hp [] 0 0 = some [σ] ∧ ax_Res w X md ρ E.1 hp out σ := by
  match st, h with
  | [], h => cases h
  | [_], h => cases h
  | y :: x :: st', h =>
    replace h : ax_psh (Nat.add pc 1) lv st' (ax_bin E i x y) = some out := h
    cases eb : ax_bin E i x y with
    | none => rw [eb] at h; cases h
    | some z =>
      obtain ⟨r, E1⟩ := z
      rw [eb] at h
      cases h
      obtain ⟨yv, r1, rfl, hy, hr1⟩ := ax_evs_cons hs
      obtain ⟨xv, r2, rfl, hx, hr2⟩ := ax_evs_cons hr1
      obtain ⟨p0, q0, p1, q1, r0, f1, f2, f3, ρ', a1, a2, a3⟩ := ax_bin_ok hE hx hy eb
      exact ⟨_, hh xv yv r0 r2 p0 q0 f1, ax_new1 hT f3 a1 a2 (ax_evs_mono f3 a1 hl) (ax_evs_push a3 (ax_evs_mono f3 a1 hr2)) List.mem_cons_self⟩
theorem ax_ar {f : Nat → Nat → Option Nat} {g : Nat → Nat × Nat} {x y r : Nat} {s' : List Nat} (hx : x % 4 = 0) (hy : y % 4 = 0) (h : f (x / 4) (y / 4) = some r) : rx_h_ar f g K N pc na nb lvc (y :: x :: s') hp [] 0 0 = some [(Nat.add pc 1, lvc, rx_int r :: s', hp, [], 0, 0)] := by
  unfold rx_h_ar
  show (bif Nat.beq (rx_tk (rx_kn [] x)) 0 && Nat.beq (rx_tk (rx_kn [] y)) 0 then (match f (rx_pl (rx_kn [] x)) (rx_pl (rx_kn [] y)) with
      | some n => some [(Nat.add pc 1, lvc, rx_int n :: s', hp, [], 0, 0)]
      | none => none) else _) = _
  rw [ax_kn, ax_kn, rx_beq.mpr (show rx_tk x = 0 from hx), rx_beq.mpr (show rx_tk y = 0 from hy), show f (rx_pl x) (rx_pl y) = some r from h]
  rfl
theorem ax_ark {f : Nat → Nat → Option Nat} {x y r : Nat} {s' : List Nat} (hx : x % 4 = 0) (hy : y % 4 = 0) (h : f (x / 4) (y / 4) = some r) : rx_h_ark f K N pc na nb lvc (y :: x :: s') hp [] 0 0 = some [(Nat.add pc 1, lvc, rx_int r :: s', hp, [], 0, 0)] := by
  unfold rx_h_ark
  show (bif Nat.beq (rx_tk x) 0 && Nat.beq (rx_tk y) 0 then (match f (rx_pl x) (rx_pl y) with
      | some n => some [(Nat.add pc 1, lvc, rx_int n :: s', hp, [], 0, 0)]
      | none => none) else _) = _
  rw [rx_beq.mpr (show rx_tk x = 0 from hx), rx_beq.mpr (show rx_tk y = 0 from hy), show f (rx_pl x) (rx_pl y) = some r from h]
  rfl
/-- a value of a type is pushed -/
theorem ax_t_val {t : ax_Y} {x p : Nat} {st' stc' : List Nat} (hE : ax_EO w X ρ E hp) (hT : ax_HT w hp) (hl : lv.map (ax_ev E.1 ρ) = lvc.map some) (hs : st'.map (ax_ev E.1 ρ) = stc'.map some) (hx : ax_ok w t x) (h : ax_psh p lv st' (some (ax_val E t)) = some out) : ax_Res w X md ρ E.1 hp out (p, lvc, x :: stc', hp, [], 0, 0) := by
  obtain ⟨n1, ρ', a1, a2, a3⟩ := ax_val_ok hE hx
  cases h
  exact ax_new1 hT n1 a1 a2 (ax_evs_mono n1 a1 hl) (ax_evs_push a3 (ax_evs_mono n1 a1 hs)) List.mem_cons_self
theorem ax_int_ok {lo hi n : Nat} (h : n < 4294967296) (h1 : lo ≤ rx_bi n) (h2 : rx_bi n ≤ hi) : ax_ok w (0, lo, hi) (rx_int n) := by
  obtain ⟨p1, p2, p3⟩ := ax_int_lt h
  exact Or.inl ⟨rfl, p1, p3, by rw [p2]; exact h1, by rw [p2]; exact h2⟩
end AXS
