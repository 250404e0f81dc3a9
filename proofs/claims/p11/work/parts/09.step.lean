noncomputable def lw_G : List Cond := lw_tbl.filter goodWord
theorem lw_G_of {w : Cond} (h : w ∈ lw_tbl) (hg : goodWord w = true) : w ∈ lw_G := List.mem_filter.mpr ⟨h, hg⟩
noncomputable def rx_tys (cy : Nat → ClassId) : List (ClassId × FieldType) := [(cy 12, .byte), (cy 13, .int), (cy 14, .long), (cy 15, .boolean), (cy 16, .object "TurnNet$State")]
/-- a state of the interpreter, and one of the machine -/
noncomputable def rx_Rl (cy : Nat → ClassId) (D : va_G) (b : Nat → Nat) (A : Nat → Prop) (H0 : Heap) (ad0 : List Nat) (en0 : List Int32) (nL : Nat) (σ : rx_S) (ad : List Nat) (en : List Int32) (ls : Array Slot) (stA : List Value) (H : Heap) (locs : List Loc) (ws : va_W) : Prop :=
  ad0 <+: ad ∧ en0 <+: en ∧ rx_RW cy b ad en σ.2.2.2.1 ws ∧ va_P D vwCl ws H ∧ va_D A ws ∧ va_S A H0 H locs ∧ rx_RL b ad en nL σ.2.1 ls ∧ σ.2.2.1.map (rx_cv b ad en) = stA.map some ∧ rx_RI σ.2.2.2.2.1 en
/-- from all states of the machine that a state of the interpreter stands for, the machine comes to Q -/
noncomputable def rx_G (p : Program) (l : Launch) (e : Env) (R : Room) (s : State) (m : MethodId) (args : Array Value) (below : List Frame) (meth : Method) (c : Code) (Q : State → Prop) (cy : Nat → ClassId) (D : va_G) (b : Nat → Nat) (A : Nat → Prop) (H0 : Heap) (ad0 : List Nat) (en0 : List Int32) (nL : Nat) (σ : rx_S) : Prop :=
  ∀ (ad : List Nat) (en : List Int32) (ls : Array Slot) (stA : List Value) (H : Heap) (locs : List Loc) (ws : va_W), rx_Rl cy D b A H0 ad0 en0 nL σ ad en ls stA H locs ws → W p l e R s m args below meth c H locs σ.2.2.2.2.2.1 σ.2.2.2.2.2.2 Q (F0 m σ.1 ls stA)
theorem rx_st_cons {b : Nat → Nat} {ad : List Nat} {en : List Int32} {v : Nat} {st : List Nat} {stA : List Value} (h : (v :: st).map (rx_cv b ad en) = stA.map some) : ∃ (x : Value) (r : List Value), stA = x :: r ∧ rx_cv b ad en v = some x ∧ st.map (rx_cv b ad en) = r.map some := by
  cases stA with
  | nil => cases h
  | cons x r =>
    simp only [List.map_cons, List.cons.injEq] at h
    exact ⟨x, r, rfl, h.1, h.2⟩
theorem rx_st_push {b : Nat → Nat} {ad : List Nat} {en : List Int32} {v : Nat} {st : List Nat} {x : Value} {r : List Value} (hv : rx_cv b ad en v = some x) (h : st.map (rx_cv b ad en) = r.map some) : (v :: st).map (rx_cv b ad en) = (x :: r).map some := by
  simp only [List.map_cons, hv, h]
section RXS
variable {p : Program} {l : Launch} {e : Env} {R : Room} {s : State} {m : MethodId} {args : Array Value} {below : List Frame} {meth : Method} {c : Code} {Q : State → Prop} {cc : ByteArray}
variable {cy : Nat → ClassId} {D : va_G} {b : Nat → Nat} {A : Nat → Prop} {H0 : Heap} {ad0 : List Nat} {en0 : List Int32} {nL : Nat}
variable {K : rx_K} {N : rx_N} {pc na nb cn sn : Nat} {lv : rx_L} {st : List Nat} {hp : rx_H} {iv : rx_I} {out : List rx_S}
theorem rx_s_two {q : Option (rx_I × rx_I)} {v mm : Nat} (hq : q = rx_cut iv v mm) (h : rx_two pc lv st hp q cn sn = some out) (hG : ∀ σ ∈ out, rx_G p l e R s m args below meth c Q cy D b A H0 ad0 en0 nL σ) : rx_G p l e R s m args below meth c Q cy D b A H0 ad0 en0 nL (pc, lv, st, hp, iv, cn, sn) := by
  intro ad en ls stA H locs ws hR
  obtain ⟨h1, h2, h3, h4, h5, h6, h7, h8, h9⟩ := hR
  cases hc : q with
  | none => rw [hc] at h; cases h
  | some w =>
    obtain ⟨i1, i2⟩ := w
    rw [hc] at h
    cases h
    rcases rx_cut_ok h9 (hq.symm.trans hc) with h9 | h9
    · exact hG (pc, lv, st, hp, i1, cn, sn) List.mem_cons_self ad en ls stA H locs ws ⟨h1, h2, h3, h4, h5, h6, h7, h8, h9⟩
    · exact hG (pc, lv, st, hp, i2, cn, sn) (List.mem_cons_of_mem _ List.mem_cons_self) ad en ls stA H locs ws ⟨h1, h2, h3, h4, h5, h6, h7, h8, h9⟩
theorem rx_s_half {v : Nat} (h : rx_half pc lv st hp iv cn sn v = some out) (hG : ∀ σ ∈ out, rx_G p l e R s m args below meth c Q cy D b A H0 ad0 en0 nL σ) : rx_G p l e R s m args below meth c Q cy D b A H0 ad0 en0 nL (pc, lv, st, hp, iv, cn, sn) := by
  unfold rx_half at h
  cases hi : rx_io iv v with
  | none => rw [hi] at h; cases h
  | some w =>
    obtain ⟨x, y⟩ := w
    rw [hi] at h
    exact rx_s_two rfl h hG
/-- loads -/
theorem rx_s_ld {ok : Nat → Bool} {i n : Nat} {T : Value → Prop} (hok : ∀ (ad : List Nat) (en : List Int32) (v : Nat) (x : Value), ok v = true → rx_cv b ad en v = some x → T x) (h2 : ok 2 = false)
    (row : ∀ {H : Heap} {locs : List Loc} {cells slots : Nat} {ls : Array Slot} {rest : List Value} {x : Value}, T x → ls[i]? = some (Slot.val x) → W p l e R s m args below meth c H locs cells slots Q (F0 m (pc + n) ls (x :: rest)) → W p l e R s m args below meth c H locs cells slots Q (F0 m pc ls rest))
    (h : rx_h_ld ok i n K N pc na nb lv st hp iv cn sn = some out) (hG : ∀ σ ∈ out, rx_G p l e R s m args below meth c Q cy D b A H0 ad0 en0 nL σ) : rx_G p l e R s m args below meth c Q cy D b A H0 ad0 en0 nL (pc, lv, st, hp, iv, cn, sn) := by
  intro ad en ls stA H locs ws hR
  obtain ⟨h1, h2', h3, h4, h5, h6, h7, h8, h9⟩ := hR
  unfold rx_h_ld at h
  rw [rx_nth_eq] at h
  cases hv : lv[i]? with
  | none => rw [hv] at h; cases h
  | some v =>
    rw [hv] at h
    obtain ⟨hk, h⟩ := rx_cond h
    cases h
    obtain ⟨x, hx, hl⟩ := h7.2.2.2 i v hv (fun z => by rw [z, h2] at hk; cases hk)
    exact row (hok ad en v x hk hx) hl (hG _ List.mem_cons_self ad en ls (x :: stA) H locs ws ⟨h1, h2', h3, h4, h5, h6, h7, rx_st_push hx h8, h9⟩)
/-- stores -/
theorem rx_s_sto {ok : Nat → Bool} {i n : Nat} {T : Value → Prop} (hN : nL = rx_mL N) (hok : ∀ (ad : List Nat) (en : List Int32) (v : Nat) (x : Value), ok v = true → rx_cv b ad en v = some x → T x)
    (row : ∀ {H : Heap} {locs : List Loc} {cells slots : Nat} {ls : Array Slot} {rest : List Value} {x : Value} {lw : List (Nat × Value)}, T x → i < nL → lv_has ls nL lw → (∀ ls' : Array Slot, lv_has ls' nL ((i, x) :: lw.filter (fun q => !(q.1 == i) && !(q.1 + 1 == i && q.2.category == 2))) → W p l e R s m args below meth c H locs cells slots Q (F0 m (pc + n) ls' rest)) → W p l e R s m args below meth c H locs cells slots Q (F0 m pc ls (x :: rest)))
    (h : rx_h_sto ok i n K N pc na nb lv st hp iv cn sn = some out) (hG : ∀ σ ∈ out, rx_G p l e R s m args below meth c Q cy D b A H0 ad0 en0 nL σ) : rx_G p l e R s m args below meth c Q cy D b A H0 ad0 en0 nL (pc, lv, st, hp, iv, cn, sn) := by
  intro ad en ls stA H locs ws hR
  obtain ⟨h1, h2, h3, h4, h5, h6, h7, h8, h9⟩ := hR
  cases st with
  | nil => cases h
  | cons v st' =>
    obtain ⟨hk, h⟩ := rx_cond h
    cases h
    obtain ⟨hk, hi⟩ := rx_and2.mp hk
    obtain ⟨x, r, rfl, hx, h8⟩ := rx_st_cons h8
    refine row (hok ad en v x hk hx) (by rw [hN]; exact rx_blt.mp hi) h7.has (fun ls' hl' => ?_)
    exact hG _ List.mem_cons_self ad en ls' r H locs ws ⟨h1, h2, h3, h4, h5, h6, rx_RL.put h7.1 hx (fun j w hj hw => by obtain ⟨y, hy, -⟩ := h7.2.2.2 j w hj hw; exact ⟨y, hy⟩) hl', h8, h9⟩
theorem rx_s_stJ {i n : Nat} (hN : nL = rx_mL N)
    (row : ∀ {H : Heap} {locs : List Loc} {cells slots : Nat} {ls : Array Slot} {rest : List Value} {x : Int64} {lw : List (Nat × Value)}, i + 1 < nL → lv_has ls nL lw → (∀ ls' : Array Slot, lv_has ls' nL ((i, .long x) :: lw.filter (fun q => !(q.1 == i) && (!(q.1 == i + 1) && !(q.1 + 1 == i && q.2.category == 2)))) → W p l e R s m args below meth c H locs cells slots Q (F0 m (pc + n) ls' rest)) → W p l e R s m args below meth c H locs cells slots Q (F0 m pc ls (.long x :: rest)))
    (h : rx_h_stJ i n K N pc na nb lv st hp iv cn sn = some out) (hG : ∀ σ ∈ out, rx_G p l e R s m args below meth c Q cy D b A H0 ad0 en0 nL σ) : rx_G p l e R s m args below meth c Q cy D b A H0 ad0 en0 nL (pc, lv, st, hp, iv, cn, sn) := by
  intro ad en ls stA H locs ws hR
  obtain ⟨h1, h2, h3, h4, h5, h6, h7, h8, h9⟩ := hR
  cases st with
  | nil => cases h
  | cons v st' =>
    obtain ⟨hk, h⟩ := rx_cond h
    cases h
    obtain ⟨hk, hi⟩ := rx_and2.mp hk
    obtain ⟨x, r, rfl, hx, h8n⟩ := rx_st_cons h8
    have hx' := rx_isJ_cv hk hx
    subst hx'
    refine row (by rw [hN]; exact rx_blt.mp hi) h7.has (fun ls' hl' => ?_)
    exact hG _ List.mem_cons_self ad en ls' r H locs ws ⟨h1, h2, h3, h4, h5, h6, rx_RL.putJ h7.1 hx (fun j w hj hw => by obtain ⟨y, hy, -⟩ := h7.2.2.2 j w hj hw; exact ⟨y, hy⟩) hl', h8n, h9⟩
/-- what is pushed -/
theorem rx_s_psh {n : Nat} (row : ∀ {H : Heap} {locs : List Loc} {cells slots : Nat} {ls : Array Slot} {rest : List Value}, W p l e R s m args below meth c H locs cells slots Q (F0 m (pc + n) ls (.int (Int32.ofNat na) :: rest)) → W p l e R s m args below meth c H locs cells slots Q (F0 m pc ls rest))
    (h : rx_h_psh n K N pc na nb lv st hp iv cn sn = some out) (hG : ∀ σ ∈ out, rx_G p l e R s m args below meth c Q cy D b A H0 ad0 en0 nL σ) : rx_G p l e R s m args below meth c Q cy D b A H0 ad0 en0 nL (pc, lv, st, hp, iv, cn, sn) := by
  intro ad en ls stA H locs ws hR
  obtain ⟨h1, h2, h3, h4, h5, h6, h7, h8, h9⟩ := hR
  cases h
  exact row (hG _ List.mem_cons_self ad en ls (.int (Int32.ofNat na) :: stA) H locs ws ⟨h1, h2, h3, h4, h5, h6, h7, rx_st_push (rx_int_cv b ad en na) h8, h9⟩)
theorem rx_s_pshJ {n : Nat} (row : ∀ {H : Heap} {locs : List Loc} {cells slots : Nat} {ls : Array Slot} {rest : List Value}, W p l e R s m args below meth c H locs cells slots Q (F0 m (pc + n) ls (.long (Int64.ofNat na) :: rest)) → W p l e R s m args below meth c H locs cells slots Q (F0 m pc ls rest))
    (h : rx_h_pshJ n K N pc na nb lv st hp iv cn sn = some out) (hG : ∀ σ ∈ out, rx_G p l e R s m args below meth c Q cy D b A H0 ad0 en0 nL σ) : rx_G p l e R s m args below meth c Q cy D b A H0 ad0 en0 nL (pc, lv, st, hp, iv, cn, sn) := by
  intro ad en ls stA H locs ws hR
  obtain ⟨h1, h2, h3, h4, h5, h6, h7, h8, h9⟩ := hR
  cases h
  exact row (hG _ List.mem_cons_self ad en ls (.long (Int64.ofNat na) :: stA) H locs ws ⟨h1, h2, h3, h4, h5, h6, h7, rx_st_push (rx_lng_cv b ad en na) h8, h9⟩)
/-- iinc -/
theorem rx_s_inc {i : Nat} {n : Int} (hN : nL = rx_mL N) (hn : Int32.ofInt n = Int32.ofNat na) (hx : p.tables.exec = Jvm.exec) (hb : c.code = cc) (hd : decode cc pc = .ok (.iinc i n, 3))
    (h : rx_h_inc i K N pc na nb lv st hp iv cn sn = some out) (hG : ∀ σ ∈ out, rx_G p l e R s m args below meth c Q cy D b A H0 ad0 en0 nL σ) : rx_G p l e R s m args below meth c Q cy D b A H0 ad0 en0 nL (pc, lv, st, hp, iv, cn, sn) := by
  intro ad en ls stA H locs ws hR
  obtain ⟨h1, h2, h3, h4, h5, h6, h7, h8, h9⟩ := hR
  unfold rx_h_inc at h
  rw [rx_nth_eq] at h
  cases hv : lv[i]? with
  | none => rw [hv] at h; cases h
  | some v =>
    rw [hv] at h
    obtain ⟨hk, h⟩ := rx_cond h
    cases h
    obtain ⟨hk, hi⟩ := rx_and2.mp hk
    have hk : v % 4 = 0 := rx_beq.mp hk
    have hcv : rx_cv b ad en v = some (.int (Int32.ofNat (v / 4))) := rx_cv0 hk
    have hmem := rx_lva_in (b := b) (ad := ad) (en := en) hv (by omega) hcv
    obtain ⟨k, hk2⟩ := List.getElem?_of_mem hmem
    have hw : Int32.ofNat (v / 4) + Int32.ofInt n = Int32.ofNat (Nat.mod (Nat.add (rx_pl v) na) 4294967296) := by
      rw [hn]
      show _ = Int32.ofNat ((v / 4 + na) % 4294967296)
      apply rx_bias_inj
      rw [rx_bias_ofNat, ← Int32.ofNat_add, rx_bias_ofNat]
      unfold rx_bi
      show (v / 4 + na + 2147483648) % 4294967296 = ((v / 4 + na) % 4294967296 + 2147483648) % 4294967296
      omega
    refine lv_iinc hx hb hd h7.has hk2 hw (by rw [hN]; exact rx_blt.mp hi) rfl (fun ls' hl' => ?_)
    exact hG _ List.mem_cons_self ad en ls' stA H locs ws ⟨h1, h2, h3, h4, h5, h6, rx_RL.put h7.1 (rx_int_cv b ad en _) (fun j w hj hw => by obtain ⟨y, hy, -⟩ := h7.2.2.2 j w hj hw; exact ⟨y, hy⟩) hl', h8, h9⟩
end RXS
