/-- the law's start: no script read yet -/
noncomputable def rx_s0 : rx_S := (0, rx_args [6] 4, [], rx_h0, [], 0, 0)
theorem rx_ar_K {s : State} {ty : FieldType} {args : Array Value} (h : (Jvm.Cond.arrayClass ty).before args s = true) (hno : ∀ C, ty ≠ .object C) : ∃ cA : ClassId, ArrOfT s cA ty ∧ va_RA s cA ty := by
  obtain ⟨cA, kA, comp, h1, h2, h3⟩ := Cond.arrayClass_spec h
  refine ⟨cA, fun n z => ⟨fun k h => (by cases h), kA, h2, comp, h3⟩, ?_⟩
  cases ty with
  | object C => exact absurd rfl (hno C)
  | _ => exact h1
theorem rx_ar_O {s : State} {C : String} {args : Array Value} (h : (Jvm.Cond.arrayOver (.object C)).before args s = true) : ∃ cA : ClassId, ArrOfT s cA (.object C) ∧ va_RA s cA (.object C) := by
  obtain ⟨comp, cA, kA, h1, -, h2, h3, h4⟩ := Cond.arrayOver_spec h
  exact ⟨cA, fun n z => ⟨fun k h => (by cases h), kA, h2, comp, h3⟩, kA, comp, h2, h3, h1, h4⟩
theorem lw_G_tbl {w : Jvm.Cond} (h : w ∈ lw_G) : w ∈ lw_tbl := (List.mem_filter.mp h).1
noncomputable def rx_stm (i : Nat) : Term := .string "TurnNet$Reader" (rx_sidx.getD i 0)
noncomputable def rx_gvn : List Jvm.Cond := flatC (Jvm.Cond.and given_1 narrow_1)
theorem rx_gv_ex : ∀ i, i < 8 → Jvm.Cond.exactly (rx_stm i) "java/lang/String" ∈ rx_gvn := by decide +kernel
theorem rx_gv_co : ∀ i, i < 8 → Jvm.Cond.eq (.field (rx_stm i) "java/lang/String" "coder" "B") (.int 0) ∈ rx_gvn := by decide +kernel
theorem rx_gv_ar : ∀ i, i < 8 → Jvm.Cond.arrayOf (.field (rx_stm i) "java/lang/String" "value" "[B") .byte ∈ rx_gvn := by decide +kernel
theorem rx_gv_le : ∀ i, i < 8 → Jvm.Cond.eq (.length (.field (rx_stm i) "java/lang/String" "value" "[B")) (.int (Int32.ofNat (rx_sln.getD i 0))) ∈ rx_gvn := by decide +kernel
theorem rx_gv_el : ∀ i, i < 8 → ∀ j, j < rx_sln.getD i 0 → Jvm.Cond.eq (.elem (.field (rx_stm i) "java/lang/String" "value" "[B") (.int (Int32.ofNat j))) (.int ((rx_sb32.getD i []).getD j 0)) ∈ rx_gvn := by decide +kernel
theorem rx_gv_ne : ∀ i, i < 8 → ∀ j, j < 8 → i ≠ j → Jvm.Cond.not (Jvm.Cond.eq (rx_stm i) (rx_stm j)) ∈ rx_gvn ∨ Jvm.Cond.not (Jvm.Cond.eq (rx_stm j) (rx_stm i)) ∈ rx_gvn := by decide +kernel
theorem rx_gv_cs : Jvm.Cond.eq (.static "java/lang/String" "COMPACT_STRINGS" "Z") (.int 1) ∈ rx_gvn := by decide +kernel
theorem rx_gv_fm : Jvm.Cond.isRef (.static "jdk/internal/util/Preconditions" "SIOOBE_FORMATTER" "Ljava/util/function/BiFunction;") ∈ rx_gvn := by decide +kernel
theorem rx_gv_lt : ∀ i, i < 8 → rx_sln.getD i 0 < 2 ^ 31 := by decide +kernel
/-- the words, as the start has them -/
theorem rx_Zt_of {s : State} {args : Array Value} (b0 : Nat) (hts : ∀ w ∈ lw_tbl, w.before args s = true) (hgv : (Jvm.Cond.and given_1 narrow_1).before args s = true) : ∃ b : Nat → Nat, b 0 = b0 ∧ rx_Zt b (fun q => s.heap.size ≤ q) s := by
  have hs := flat_of_before _ hgv
  have hA : ∀ a : Nat, a < s.heap.size → ¬ (fun q => s.heap.size ≤ q) a := fun a h => Nat.not_le.mpr h
  obtain ⟨adK, adV, h1, h2⟩ := vk_Sof (args := args) (s := s) (N := 8) (tm := rx_stm) (len := rx_sln) (byt := rx_sb32) (A := fun q => s.heap.size ≤ q) rx_gv_lt (fun i hi => hs _ (rx_gv_ex i hi)) (fun i hi => hs _ (rx_gv_co i hi)) (fun i hi => hs _ (rx_gv_ar i hi)) (fun i hi => hs _ (rx_gv_le i hi)) (fun i hi j hj => hs _ (rx_gv_el i hi j hj))
    (fun i j hi hj hij => by
      rcases rx_gv_ne i hi j hj hij with h | h
      · exact Or.inl (hs _ h)
      · exact Or.inr (hs _ h)) hA
  refine ⟨fun n => if n = 0 then b0 else if n ≤ 8 then adK (n - 1) else adV (n - 9), if_pos rfl, ⟨fun i hi => ?_, fun i j hi hj e => ?_⟩, fun i hi => ?_, ?_, ?_⟩
  · have e1 : (fun n => if n = 0 then b0 else if n ≤ 8 then adK (n - 1) else adV (n - 9)) (i + 1) = adK i := by
      show (if i + 1 = 0 then b0 else if i + 1 ≤ 8 then adK (i + 1 - 1) else adV (i + 1 - 9)) = _
      rw [if_neg (by omega), if_pos (by omega), show i + 1 - 1 = i by omega]
    have e2 : (fun n => if n = 0 then b0 else if n ≤ 8 then adK (n - 1) else adV (n - 9)) (i + 9) = adV i := by
      show (if i + 9 = 0 then b0 else if i + 9 ≤ 8 then adK (i + 9 - 1) else adV (i + 9 - 9)) = _
      rw [if_neg (by omega), if_neg (by omega), show i + 9 - 9 = i by omega]
    rw [e1, e2]
    exact h1.1 i hi
  · have e1 : ∀ i, i < 8 → (if i + 1 = 0 then b0 else if i + 1 ≤ 8 then adK (i + 1 - 1) else adV (i + 1 - 9)) = adK i := by
      intro i hi
      rw [if_neg (by omega), if_pos (by omega), show i + 1 - 1 = i by omega]
    replace e : (if i + 1 = 0 then b0 else if i + 1 ≤ 8 then adK (i + 1 - 1) else adV (i + 1 - 9)) = (if j + 1 = 0 then b0 else if j + 1 ≤ 8 then adK (j + 1 - 1) else adV (j + 1 - 9)) := e
    rw [e1 i hi, e1 j hj] at e
    exact h1.2 i j hi hj e
  · have e1 : (fun n => if n = 0 then b0 else if n ≤ 8 then adK (n - 1) else adV (n - 9)) (i + 1) = adK i := by
      show (if i + 1 = 0 then b0 else if i + 1 ≤ 8 then adK (i + 1 - 1) else adV (i + 1 - 9)) = _
      rw [if_neg (by omega), if_pos (by omega), show i + 1 - 1 = i by omega]
    rw [e1]
    exact vk_R.of (hts _ (rx_sr i hi)) (h2 i hi)
  · exact va_Zof (hts _ rx_ls_cs) (hts _ (lw_G_tbl rx_w_n_0)) (va_eqt (hs _ rx_gv_cs)) hA
  · exact va_Zqof (hts _ rx_ls_fm) (hts _ (lw_G_tbl rx_w_n_3)) (hs _ rx_gv_fm) hA
/-- what the law's walk may use -/
noncomputable def lw_Rules (l : Launch) (cy : Nat → ClassId) (D : va_G) (r : rx_M) (G : rx_S → Prop) : Prop :=
  (∀ n σ outs, rx_run rx_P (rx_DF, rx_FK) n r σ = some outs → (∀ o ∈ outs, o.1 = 4) → G σ) ∧ (∀ n stop k σ l', rx_adv rx_P (rx_DF, rx_FK) n stop r k σ = some l' → (∀ σ' ∈ l', G σ') → G σ) ∧
  (∀ (i : Nat) (q : rx_M) (as rest : List Nat) (os : List rx_O) (σ : rx_S), rx_nth rx_P i = some q → rx_cal rx_P r i σ = some (as, rest) → rx_At l cy D q (rx_ent q as σ) os → (∀ o ∈ os, G (rx_bh q rest σ o)) → G σ)
/-- THE LAW, from its entry: what every rule of the interpreter keeps holds of it -/
theorem rx_law_start {p : Program} {e : Env} {s : State} {m : MethodId} {below : List Frame} {meth : Method} {c : Code} (l : Launch) {b0 L : Nat} {xs : Nat → Int32} (hL : L ≤ 3072) (C0 : lw_At p s m meth c b0 L xs)
    (hmain : ∀ (cy : Nat → ClassId) (D : va_G) (G : rx_S → Prop), lw_Rules l cy D (rxl L (fun j => rx_i32 (xs j))) G → G rx_s0) :
    W p l e room_1 s m #[Value.ref b0] below meth c s.heap [] 0 0 (lw_Z below #[Value.ref b0] s) (entryFrame m ([Value.ref b0] : List Value).toArray 4) := by
  obtain ⟨hx, hb, hr, hml, hown, hts, hX, hbl, hlocks, hgv⟩ := id C0
  have hcls : ∀ k : Nat, ∃ z : ClassId × (Nat → Nat), ∀ q : vw_C, vwCl[k]? = some q → u_Kn s q.1 q.2.1 q.2.2 z.1 z.2 := by
    intro k
    cases hq : vwCl[k]? with
    | none => exact ⟨(0, fun _ => 0), fun q h => by cases h⟩
    | some q =>
      have hk : k < 12 := (List.getElem?_eq_some_iff.mp hq).1
      obtain ⟨C, T, Nf, ty0, fs, l0, q1, q2, q3, q4, q5, q6, q7, q8, q9, q10, q11⟩ := rxc_all k hk
      cases hq.symm.trans q1
      obtain ⟨cC, iS, h⟩ := u_known (C := C) (T := T) (N := Nf) (n := Nf) hts (fun w hw => lw_G_tbl (q4 w hw)) (hts _ (lw_G_tbl q10))
      exact ⟨(cC, iS), fun q' h' => by cases h'; exact h⟩
  obtain ⟨dF, hdF⟩ := Classical.axiomOfChoice hcls
  obtain ⟨cB, hcB⟩ := rx_ar_K (hts _ rxa_byte) (fun C z => by cases z)
  obtain ⟨cI, hcI⟩ := rx_ar_K (hts _ rxa_int) (fun C z => by cases z)
  obtain ⟨cJ, hcJ⟩ := rx_ar_K (hts _ rxa_long) (fun C z => by cases z)
  obtain ⟨cZ, hcZ⟩ := rx_ar_K (hts _ rxa_boolean) (fun C z => by cases z)
  obtain ⟨cO, hcO⟩ := rx_ar_O (hts _ rxa_over)
  obtain ⟨cy, hy12, hy13, hy14, hy15, hy16⟩ : ∃ cy : Nat → ClassId, cy 12 = cB ∧ cy 13 = cI ∧ cy 14 = cJ ∧ cy 15 = cZ ∧ cy 16 = cO := ⟨fun k => if k = 12 then cB else if k = 13 then cI else if k = 14 then cJ else if k = 15 then cZ else cO, rfl, rfl, rfl, rfl, rfl⟩
  have hK : va_K (fun k => (dF k).1, fun k => (dF k).2) vwCl (rx_tys cy) s := by
    refine ⟨fun k q hq => hdF k q hq, fun k q hq => ?_⟩
    have hk : k < 5 := (List.getElem?_eq_some_iff.mp hq).1
    match k, hk, hq with
    | 0, _, hq => cases hq; rw [hy12]; exact hcB
    | 1, _, hq => cases hq; rw [hy13]; exact hcI
    | 2, _, hq => cases hq; rw [hy14]; exact hcJ
    | 3, _, hq => cases hq; rw [hy15]; exact hcZ
    | 4, _, hq => cases hq; rw [hy16]; exact hcO
  have hNest : ∀ w ∈ lw_nest, va_Nw w s := by
    intro w hw
    have h1 := List.mem_filter.mp hw
    have h2 := h1.2
    cases w with
    | methodLinkNest a i x hh => exact va_Nw.of rfl (hts _ h1.1)
    | _ => cases h2
  obtain ⟨b, hb0, hZt⟩ := rx_Zt_of b0 hts hgv
  have hroom : rx_rf (rx_n (rxl L (fun j => rx_i32 (xs j)))) ≤ room_1.frames ∧ rx_rl (rx_n (rxl L (fun j => rx_i32 (xs j)))) ≤ room_1.locals ∧ rx_rc (rx_n (rxl L (fun j => rx_i32 (xs j)))) ≤ room_1.cells ∧ rx_rs (rx_n (rxl L (fun j => rx_i32 (xs j)))) ≤ room_1.slots := ⟨Nat.le_of_ble_eq_true rfl, Nat.le_of_ble_eq_true rfl, Nat.le_of_ble_eq_true rfl, Nat.le_of_ble_eq_true rfl⟩
  have hcs : rx_rc (rx_n (rxl L (fun j => rx_i32 (xs j)))) ≤ 600000 ∧ rx_rs (rx_n (rxl L (fun j => rx_i32 (xs j)))) ≤ 7302250 := ⟨Nat.le_of_ble_eq_true rfl, Nat.le_of_ble_eq_true rfl⟩
  have C : rx_Cx cy (fun k => (dF k).1, fun k => (dF k).2) (rxl L (fun j => rx_i32 (xs j))) p room_1 s m #[Value.ref b0] meth c := ⟨hx, hb, hr, hml, hown, fun w hw => hts w (lw_G_tbl hw), hlocks, fun z => absurd (show ("law" : String) = "<init>" from z) (by decide), hK, hNest, va_AO.of (hts _ rxa_over), hroom.1, hroom.2.1, hroom.2.2.1, hroom.2.2.2⟩
  have hA : ∀ q : Nat, s.heap.size ≤ q → (fun q : Nat => s.heap.size ≤ q) q := fun _ h => h
  have hSc : rx_Sc (rx_n (rxl L (fun j => rx_i32 (xs j)))) b (fun q : Nat => s.heap.size ≤ q) s.heap [] s := by
    refine ⟨fun L' hL' => ?_, rfl, hZt⟩
    have : L' = L := by have : L + 1 = L' + 1 := hL'; omega
    subst this
    refine ⟨xs, by rw [hb0]; exact hX, by rw [hb0]; exact hbl, by rw [hb0]; exact Nat.not_le.mpr hbl, by omega, fun j _ => rx_i32_of (xs j)⟩
  have hret : ∀ o : rx_O, o.1 = 4 → rx_Ret p l e room_1 s m #[Value.ref b0] below meth c (lw_Z below #[Value.ref b0] s) cy (fun k => (dF k).1, fun k => (dF k).2) b (fun q : Nat => s.heap.size ≤ q) s.heap [] [] (rxl L (fun j => rx_i32 (xs j))) o := by
    intro o ho ad en ls stA H locs ws cn sn pc hk a1 a2 a3 a4 a5 a6 a7 a8 a9
    rcases hk with ⟨k1, -⟩ | ⟨-, k2, x, rfl, hxo, -⟩ | ⟨k1, -⟩ | ⟨k1, -⟩
    · exact absurd (show 2 = 0 from k1) (by decide)
    · rw [ho] at hxo
      have h1 := Option.some.inj (hxo.symm.trans (rx_int_cv b ad en 1))
      cases h1
      refine W.widen (Nat.le_trans a8 hcs.1) (Nat.le_trans a9 hcs.2) ?_
      exact va_forget a6.2.2 (lw_ret hx hb hr hlocks k2)
    · exact absurd (show 2 = 3 from k1) (by decide)
    · exact absurd (show 2 = 4 from k1) (by decide)
  have hG := hmain cy (fun k => (dF k).1, fun k => (dF k).2) (fun σ => rx_G p l e room_1 s m #[Value.ref b0] below meth c (lw_Z below #[Value.ref b0] s) cy (fun k => (dF k).1, fun k => (dF k).2) b (fun q : Nat => s.heap.size ≤ q) s.heap [] [] (rx_mL (rx_n (rxl L (fun j => rx_i32 (xs j))))) σ)
    ⟨fun n σ outs hrun hall => rx_sound rxP_ok n (rxl L (fun j => rx_i32 (xs j))) (rxl_st L _) (Or.inr (Or.inr (Or.inl ⟨rfl, rfl⟩))) σ outs hrun p e room_1 s m _ below meth c _ b _ s.heap [] [] C hSc hA (fun o ho => hret o (hall o ho)),
     fun n stop k σ l' hadv hall => rx_adv_ok rxP_ok (rxl_st L _) C hSc hA k σ l' hadv hall,
     fun i q as rest os σ hq hc hat hall => rx_G_call rxP_ok (rxl_st L _) C hSc.2.1 hSc.2.2 hA rfl hq hc hat hall⟩
  have hl := lv_entry ([.ref b0]) (n := 4) (Nat.le_of_ble_eq_true rfl)
  rw [lg_entry_eq]
  generalize (lg_sl ([.ref b0]) ++ List.replicate (4 - (lg_sl ([.ref b0])).length) Slot.unset).toArray = ls at hl ⊢
  have has : ([6] : List Nat).map (rx_cv b [] []) = ([.ref b0] : List Value).map some := by rw [← hb0]; rfl
  obtain ⟨ha1, ha2⟩ := rx_args_ok (n := 4) (off := 0) has (Nat.le_of_ble_eq_true rfl)
  have hRL : rx_RL b [] [] 4 (rx_args [6] 4) ls := ⟨ha1, hl.1, hl.2.1, fun i v hv h2 => by
    obtain ⟨x, h3, h4⟩ := ha2 i v hv h2
    exact ⟨x, h3, by have := hl.2.2 _ h4; rwa [Nat.zero_add] at this⟩⟩
  exact hG [] [] ls [] s.heap [] [] ⟨List.prefix_refl _, List.prefix_refl _, ⟨Nat.zero_le _, rfl, rfl, fun q c h => absurd (rx_hg_lt h) (Nat.not_lt_zero _)⟩, fun k q h => by simp at h, ⟨fun i j p q h => by simp at h, fun k q h => by simp at h⟩, va_S.rf, hRL, rfl, ⟨rfl, fun t a b x h => by
    have h : ([] : rx_I)[t]? = some (a, b) := h
    simp at h⟩⟩
