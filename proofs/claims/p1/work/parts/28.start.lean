/-- the numbers of the script that the law reads, and their intervals -/
noncomputable def rx_en (xs : Nat → Int32) : List Int32 := [xs 0, xs 1, xs 2, xs 3, xs 4, xs 5]
noncomputable def rx_iv0 : rx_I := [(0, 4294967295), (0, 4294967295), (0, 4294967295), (0, 4294967295), (0, 4294967295), (0, 4294967295)]
noncomputable def rx_s0 : rx_S := (0, rx_args [6] 4, [], rx_h0, rx_iv0, 0, 0)
theorem rx_RI0 (xs : Nat → Int32) : rx_RI rx_iv0 (rx_en xs) := by
  refine ⟨rfl, fun t a b x e1 e2 => ?_⟩
  have ht : t < 6 := (List.getElem?_eq_some_iff.mp e1).1
  have key : (a, b) = (0, 4294967295) := by
    match t, ht, e1 with
    | 0, _, e1 => exact (Option.some.inj e1).symm
    | 1, _, e1 => exact (Option.some.inj e1).symm
    | 2, _, e1 => exact (Option.some.inj e1).symm
    | 3, _, e1 => exact (Option.some.inj e1).symm
    | 4, _, e1 => exact (Option.some.inj e1).symm
    | 5, _, e1 => exact (Option.some.inj e1).symm
  cases key
  exact ⟨Nat.zero_le _, rx_bias_max x⟩
theorem rx_ar_K {s : State} {ty : FieldType} {args : Array Value} (h : (Jvm.Cond.arrayClass ty).before args s = true) (hno : ∀ C, ty ≠ .object C) : ∃ cA : ClassId, ArrOfT s cA ty ∧ va_RA s cA ty := by
  obtain ⟨cA, kA, comp, h1, h2, h3⟩ := Cond.arrayClass_spec h
  refine ⟨cA, fun n z => ⟨fun k h => (by cases h), kA, h2, comp, h3⟩, ?_⟩
  cases ty with
  | object C => exact absurd rfl (hno C)
  | _ => exact h1
theorem rx_ar_O {s : State} {C : String} {args : Array Value} (h : (Jvm.Cond.arrayOver (.object C)).before args s = true) : ∃ cA : ClassId, ArrOfT s cA (.object C) ∧ va_RA s cA (.object C) := by
  obtain ⟨comp, cA, kA, h1, -, h2, h3, h4⟩ := Cond.arrayOver_spec h
  exact ⟨cA, fun n z => ⟨fun k h => (by cases h), kA, h2, comp, h3⟩, kA, comp, h2, h3, h1, h4⟩
theorem lw_G_tbl {w : Jvm.Cond} (h : w ∈ lw_G) : w ∈ lw_tbl := (List.mem_filter.mp h).1
/-- a call by contract, in the law -/
noncomputable def rx_Rule (L : Nat) (G : rx_S → Prop) : Prop := ∀ (i : Nat) (q : rx_M) (as rest : List Nat) (os : List rx_O) (σ : rx_S), rx_nth rx_P i = some q → rx_cal rx_P (rxl L) i σ = some (as, rest) → (∀ (l : Launch) (cy : Nat → ClassId) (D : va_G), rx_At l cy D q (rx_ent q as σ) os) → (∀ o ∈ os, G (rx_bh q rest σ o)) → G σ
/-- THE LAW, from its entry: what every rule of the interpreter keeps holds of it -/
theorem rx_law_start {p : Program} {e : Env} {s : State} {m : MethodId} {below : List Frame} {meth : Method} {c : Code} (l : Launch) {b L : Nat} {xs : Nat → Int32} (hL : L ≤ 6) (C0 : lw_At p s m meth c b L xs)
    (hroom : rx_rf (rx_n (rxl L)) ≤ room_1.frames ∧ rx_rl (rx_n (rxl L)) ≤ room_1.locals ∧ rx_rc (rx_n (rxl L)) ≤ room_1.cells ∧ rx_rs (rx_n (rxl L)) ≤ room_1.slots) (hcs : rx_rc (rx_n (rxl L)) ≤ 600000 ∧ rx_rs (rx_n (rxl L)) ≤ 7302250)
    (hmain : ∀ G : rx_S → Prop, (∀ n σ outs, rx_run rx_P (rx_DF, rx_FK) n (rxl L) σ = some outs → (∀ o ∈ outs, o.1 = 4) → G σ) → (∀ n stop k σ l', rx_adv rx_P (rx_DF, rx_FK) n stop (rxl L) k σ = some l' → (∀ σ' ∈ l', G σ') → G σ) → rx_Rule L G → G rx_s0) :
    W p l e room_1 s m #[Value.ref b] below meth c s.heap [] 0 0 (lw_Z below #[Value.ref b] s) (entryFrame m ([Value.ref b] : List Value).toArray 4) := by
  obtain ⟨hx, hb, hr, hml, hown, hts, hX, hbl, hlocks, hgv⟩ := id C0
  have hcls : ∀ k : Nat, ∃ z : ClassId × (Nat → Nat), ∀ q : vw_C, vwCl[k]? = some q → u_Kn s q.1 q.2.1 q.2.2 z.1 z.2 := by
    intro k
    cases hq : vwCl[k]? with
    | none => exact ⟨(0, fun _ => 0), fun q h => by cases h⟩
    | some q =>
      have hk : k < 12 := (List.getElem?_eq_some_iff.mp hq).1
      obtain ⟨C, T, Nf, ty0, fs, l0, q1, q2, q3, q4, q5, q6, q7, q8, q9, q10, q11⟩ := rxc_all k hk
      cases hq.symm.trans q1
      obtain ⟨cC, iS, h⟩ := u_known (C := C) (T := T) (N := Nf) (n := Nf) hts (fun w hw => lw_G_tbl (q4 w hw)) (hts _ (lw_G_tbl q10))
      exact ⟨(cC, iS), fun q' h' => by cases h'; exact h⟩
  obtain ⟨dF, hdF⟩ := Classical.axiomOfChoice hcls
  obtain ⟨cB, hcB⟩ := rx_ar_K (hts _ rxa_byte) (fun C z => by cases z)
  obtain ⟨cI, hcI⟩ := rx_ar_K (hts _ rxa_int) (fun C z => by cases z)
  obtain ⟨cJ, hcJ⟩ := rx_ar_K (hts _ rxa_long) (fun C z => by cases z)
  obtain ⟨cZ, hcZ⟩ := rx_ar_K (hts _ rxa_boolean) (fun C z => by cases z)
  obtain ⟨cO, hcO⟩ := rx_ar_O (hts _ rxa_over)
  obtain ⟨cy, hy12, hy13, hy14, hy15, hy16⟩ : ∃ cy : Nat → ClassId, cy 12 = cB ∧ cy 13 = cI ∧ cy 14 = cJ ∧ cy 15 = cZ ∧ cy 16 = cO := ⟨fun k => if k = 12 then cB else if k = 13 then cI else if k = 14 then cJ else if k = 15 then cZ else cO, rfl, rfl, rfl, rfl, rfl⟩
  have hK : va_K (fun k => (dF k).1, fun k => (dF k).2) vwCl (rx_tys cy) s := by
    refine ⟨fun k q hq => hdF k q hq, fun k q hq => ?_⟩
    have hk : k < 5 := (List.getElem?_eq_some_iff.mp hq).1
    match k, hk, hq with
    | 0, _, hq => cases hq; rw [hy12]; exact hcB
    | 1, _, hq => cases hq; rw [hy13]; exact hcI
    | 2, _, hq => cases hq; rw [hy14]; exact hcJ
    | 3, _, hq => cases hq; rw [hy15]; exact hcZ
    | 4, _, hq => cases hq; rw [hy16]; exact hcO
  have hNest : ∀ w ∈ lw_nest, va_Nw w s := by
    intro w hw
    have h1 := List.mem_filter.mp hw
    have h2 := h1.2
    cases w with
    | methodLinkNest a i x hh => exact va_Nw.of rfl (hts _ h1.1)
    | _ => cases h2
  have C : rx_Cx cy (fun k => (dF k).1, fun k => (dF k).2) (rxl L) p room_1 s m #[Value.ref b] meth c := ⟨hx, hb, hr, hml, hown, fun w hw => hts w (lw_G_tbl hw), hlocks, fun z => absurd (show ("law" : String) = "<init>" from z) (by decide), hK, hNest, va_AO.of (hts _ rxa_over), hroom.1, hroom.2.1, hroom.2.2.1, hroom.2.2.2⟩
  have hA : ∀ q : Nat, s.heap.size ≤ q → (fun q : Nat => s.heap.size ≤ q) q := fun _ h => h
  have hSc : rx_Sc (rx_n (rxl L)) b (fun q : Nat => s.heap.size ≤ q) s.heap (rx_en xs) s := by
    intro L' hL'
    have : L' = L := by have : L + 1 = L' + 1 := hL'; omega
    subst this
    refine ⟨xs, hX, hbl, Nat.not_le.mpr hbl, by omega, fun j hj _ => ?_⟩
    match j, hj with
    | 0, _ => rfl
    | 1, _ => rfl
    | 2, _ => rfl
    | 3, _ => rfl
    | 4, _ => rfl
    | 5, _ => rfl
  have hret : ∀ o : rx_O, o.1 = 4 → rx_Ret p l e room_1 s m #[Value.ref b] below meth c (lw_Z below #[Value.ref b] s) cy (fun k => (dF k).1, fun k => (dF k).2) b (fun q : Nat => s.heap.size ≤ q) s.heap [] (rx_en xs) (rxl L) o := by
    intro o ho ad en ls stA H locs ws cn sn pc hk a1 a2 a3 a4 a5 a6 a7 a8 a9
    rcases hk with ⟨k1, -⟩ | ⟨-, k2, x, rfl, hxo, -⟩ | ⟨k1, -⟩
    · exact absurd (show 2 = 0 from k1) (by decide)
    · rw [ho] at hxo
      have h1 := Option.some.inj (hxo.symm.trans (rx_int_cv b ad en 1))
      cases h1
      refine W.widen (Nat.le_trans a8 hcs.1) (Nat.le_trans a9 hcs.2) ?_
      exact va_forget a6.2.2 (lw_ret hx hb hr hlocks k2)
    · exact absurd (show 2 = 3 from k1) (by decide)
  have hG := hmain (fun σ => rx_G p l e room_1 s m #[Value.ref b] below meth c (lw_Z below #[Value.ref b] s) cy (fun k => (dF k).1, fun k => (dF k).2) b (fun q : Nat => s.heap.size ≤ q) s.heap [] (rx_en xs) (rx_mL (rx_n (rxl L))) σ)
    (fun n σ outs hrun hall => rx_sound rxP_ok n (rxl L) (rxl_st L) (Or.inr (Or.inr (Or.inl ⟨rfl, rfl⟩))) σ outs hrun p e room_1 s m _ below meth c _ b _ s.heap [] (rx_en xs) C hSc hA (fun o ho => hret o (hall o ho)))
    (fun n stop k σ l' hadv hall => rx_adv_ok rxP_ok (rxl_st L) C hSc hA k σ l' hadv hall)
    (fun i q as rest os σ hq hc hat hall => rx_G_call rxP_ok (rxl_st L) C hA rfl hq hc (hat l _ _) hall)
  have hl := lv_entry ([.ref b]) (n := 4) (Nat.le_of_ble_eq_true rfl)
  rw [lg_entry_eq]
  generalize (lg_sl ([.ref b]) ++ List.replicate (4 - (lg_sl ([.ref b])).length) Slot.unset).toArray = ls at hl ⊢
  have has : ([6] : List Nat).map (rx_cv b [] (rx_en xs)) = ([.ref b] : List Value).map some := rfl
  obtain ⟨ha1, ha2⟩ := rx_args_ok (n := 4) (off := 0) has (Nat.le_of_ble_eq_true rfl)
  have hRL : rx_RL b [] (rx_en xs) 4 (rx_args [6] 4) ls := ⟨ha1, hl.1, hl.2.1, fun i v hv h2 => by
    obtain ⟨x, h3, h4⟩ := ha2 i v hv h2
    exact ⟨x, h3, by have := hl.2.2 _ h4; rwa [Nat.zero_add] at this⟩⟩
  exact hG [] (rx_en xs) ls [] s.heap [] [] ⟨List.prefix_refl _, List.prefix_refl _, ⟨Nat.zero_le _, rfl, rfl, fun q c h => absurd (rx_hg_lt h) (Nat.not_lt_zero _)⟩, fun k q h => by simp at h, ⟨fun i j p q h => by simp at h, fun k q h => by simp at h⟩, va_S.rf, hRL, rfl, rx_RI0 xs⟩
