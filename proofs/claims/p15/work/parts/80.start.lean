section
/-- the law's start: no script read yet -/
noncomputable def rx_s0 : rx_S := (0, rx_args [6] 4, [], rx_h0, [], 0, 0)
theorem rx_ar_K {s : State} {ty : FieldType} {args : Array Value} (h : (Jvm.Cond.arrayClass ty).before args s = true) (hno : ∀ C, ty ≠ .object C) : ∃ cA : ClassId, ArrOfT s cA ty ∧ va_RA s cA ty := by
  obtain ⟨cA, kA, comp, h1, h2, h3⟩ := Cond.arrayClass_spec h
  refine ⟨cA, fun n z => ⟨fun k h => (by cases h), kA, h2, comp, h3⟩, ?_⟩
  cases ty with
  | object C => exact absurd rfl (hno C)
  | _ => exact h1
theorem rx_ar_O {s : State} {C : String} {args : Array Value} (h : (Jvm.Cond.arrayOver (.object C)).before args s = true) : ∃ cA : ClassId, ArrOfT s cA (.object C) ∧ va_RA s cA (.object C) := by
  obtain ⟨comp, cA, kA, h1, -, h2, h3, h4⟩ := Cond.arrayOver_spec h
  exact ⟨cA, fun n z => ⟨fun k h => (by cases h), kA, h2, comp, h3⟩, kA, comp, h2, h3, h1, h4⟩
theorem lw_G_tbl {w : Jvm.Cond} (h : w ∈ lw_G) : w ∈ lw_tbl := (List.mem_filter.mp h).1
noncomputable def rx_stm (i : Nat) : Term := .string "TurnNet$Reader" (rx_sidx.getD i 0)
noncomputable def rx_gvn : List Jvm.Cond := flatC (Jvm.Cond.and given_1 narrow_1)
theorem rx_gv_ex : ∀ i, i < 8 → Jvm.Cond.exactly (rx_stm i) "java/lang/String" ∈ rx_gvn := by decide +kernel
theorem rx_gv_co : ∀ i, i < 8 → Jvm.Cond.eq (.field (rx_stm i) "java/lang/String" "coder" "B") (.int 0) ∈ rx_gvn := by decide +kernel
theorem rx_gv_ar : ∀ i, i < 8 → Jvm.Cond.arrayOf (.field (rx_stm i) "java/lang/String" "value" "[B") .byte ∈ rx_gvn := by decide +kernel
theorem rx_gv_le : ∀ i, i < 8 → Jvm.Cond.eq (.length (.field (rx_stm i) "java/lang/String" "value" "[B")) (.int (Int32.ofNat (rx_sln.getD i 0))) ∈ rx_gvn := by decide +kernel
theorem rx_gv_el : ∀ i, i < 8 → ∀ j, j < rx_sln.getD i 0 → Jvm.Cond.eq (.elem (.field (rx_stm i) "java/lang/String" "value" "[B") (.int (Int32.ofNat j))) (.int ((rx_sb32.getD i []).getD j 0)) ∈ rx_gvn := by decide +kernel
theorem rx_gv_ne : ∀ i, i < 8 → ∀ j, j < 8 → i ≠ j → Jvm.Cond.not (Jvm.Cond.eq (rx_stm i) (rx_stm j)) ∈ rx_gvn ∨ Jvm.Cond.not (Jvm.Cond.eq (rx_stm j) (rx_stm i)) ∈ rx_gvn := by decide +kernel
theorem rx_gv_cs : Jvm.Cond.eq (.static "java/lang/String" "COMPACT_STRINGS" "Z") (.int 1) ∈ rx_gvn := by decide +kernel
theorem rx_gv_fm : Jvm.Cond.isRef (.static "jdk/internal/util/Preconditions" "SIOOBE_FORMATTER" "Ljava/util/function/BiFunction;") ∈ rx_gvn := by decide +kernel
theorem rx_gv_lt : ∀ i, i < 8 → rx_sln.getD i 0 < 2 ^ 31 := by decide +kernel
/-- the words, as the start has them -/
theorem rx_Zt_of {s : State} {args : Array Value} (b0 : Nat) (hts : ∀ w ∈ lw_tbl, w.before args s = true) (hgv : (Jvm.Cond.and given_1 narrow_1).before args s = true) : ∃ b : Nat → Nat, b 0 = b0 ∧ rx_Zt b (fun q => s.heap.size ≤ q) s := by
  have hs := flat_of_before _ hgv
  have hA : ∀ a : Nat, a < s.heap.size → ¬ (fun q => s.heap.size ≤ q) a := fun a h => Nat.not_le.mpr h
  obtain ⟨adK, adV, h1, h2⟩ := vk_Sof (args := args) (s := s) (N := 8) (tm := rx_stm) (len := rx_sln) (byt := rx_sb32) (A := fun q => s.heap.size ≤ q) rx_gv_lt (fun i hi => hs _ (rx_gv_ex i hi)) (fun i hi => hs _ (rx_gv_co i hi)) (fun i hi => hs _ (rx_gv_ar i hi)) (fun i hi => hs _ (rx_gv_le i hi)) (fun i hi j hj => hs _ (rx_gv_el i hi j hj))
    (fun i j hi hj hij => by
      rcases rx_gv_ne i hi j hj hij with h | h
      · exact Or.inl (hs _ h)
      · exact Or.inr (hs _ h)) hA
  refine ⟨fun n => if n = 0 then b0 else if n ≤ 8 then adK (n - 1) else adV (n - 9), if_pos rfl, ⟨fun i hi => ?_, fun i j hi hj e => ?_⟩, fun i hi => ?_, ?_, ?_⟩
  · have e1 : (fun n => if n = 0 then b0 else if n ≤ 8 then adK (n - 1) else adV (n - 9)) (i + 1) = adK i := by
      show (if i + 1 = 0 then b0 else if i + 1 ≤ 8 then adK (i + 1 - 1) else adV (i + 1 - 9)) = _
      rw [if_neg (by omega), if_pos (by omega), show i + 1 - 1 = i by omega]
    have e2 : (fun n => if n = 0 then b0 else if n ≤ 8 then adK (n - 1) else adV (n - 9)) (i + 9) = adV i := by
      show (if i + 9 = 0 then b0 else if i + 9 ≤ 8 then adK (i + 9 - 1) else adV (i + 9 - 9)) = _
      rw [if_neg (by omega), if_neg (by omega), show i + 9 - 9 = i by omega]
    rw [e1, e2]
    exact h1.1 i hi
  · have e1 : ∀ i, i < 8 → (if i + 1 = 0 then b0 else if i + 1 ≤ 8 then adK (i + 1 - 1) else adV (i + 1 - 9)) = adK i := by
      intro i hi
      rw [if_neg (by omega), if_pos (by omega), show i + 1 - 1 = i by omega]
    replace e : (if i + 1 = 0 then b0 else if i + 1 ≤ 8 then adK (i + 1 - 1) else adV (i + 1 - 9)) = (if j + 1 = 0 then b0 else if j + 1 ≤ 8 then adK (j + 1 - 1) else adV (j + 1 - 9)) := e
    rw [e1 i hi, e1 j hj] at e
    exact h1.2 i j hi hj e
  · have e1 : (fun n => if n = 0 then b0 else if n ≤ 8 then adK (n - 1) else adV (n - 9)) (i + 1) = adK i := by
      show (if i + 1 = 0 then b0 else if i + 1 ≤ 8 then adK (i + 1 - 1) else adV (i + 1 - 9)) = _
      rw [if_neg (by omega), if_pos (by omega), show i + 1 - 1 = i by omega]
    rw [e1]
    exact vk_R.of (hts _ (rx_sr i hi)) (h2 i hi)
  · exact va_Zof (hts _ rx_ls_cs) (hts _ (lw_G_tbl rx_w_n_0)) (va_eqt (hs _ rx_gv_cs)) hA
  · exact va_Zqof (hts _ rx_ls_fm) (hts _ (lw_G_tbl rx_w_n_3)) (hs _ rx_gv_fm) hA
/-- what the law's walk may use -/
noncomputable def lw_Rules (l : Launch) (cy : Nat → ClassId) (D : va_G) (r : rx_M) (G : rx_S → Prop) : Prop :=
  (∀ n σ outs, rx_run rx_P (rx_DF, rx_FK) n r σ = some outs → (∀ o ∈ outs, o.1 = 4) → G σ) ∧ (∀ n stop k σ l', rx_adv rx_P (rx_DF, rx_FK) n stop r k σ = some l' → (∀ σ' ∈ l', G σ') → G σ) ∧
  (∀ (i : Nat) (q : rx_M) (as rest : List Nat) (os : List rx_O) (σ : rx_S), rx_nth rx_P i = some q → rx_cal rx_P r i σ = some (as, rest) → rx_At l cy D q (rx_ent q as σ) os → (∀ o ∈ os, G (rx_bh q rest σ o)) → G σ)
/-- THE LAW, from its entry: what every rule of the interpreter keeps holds of it -/
theorem rx_law_start {p : Program} {e : Env} {s : State} {m : MethodId} {below : List Frame} {meth : Method} {c : Code} (l : Launch) {b0 L : Nat} {xs : Nat → Int32} (hL : L ≤ 3072) (C0 : lw_At p s m meth c b0 L xs)
    (hmain : ∀ (cy : Nat → ClassId) (D : va_G) (G : rx_S → Prop), lw_Rules l cy D (rxl L (fun j => rx_i32 (xs j))) G → G rx_s0) :
    W p l e room_1 s m #[Value.ref b0] below meth c s.heap [] 0 0 (lw_Z below #[Value.ref b0] s) (entryFrame m ([Value.ref b0] : List Value).toArray 4) := by
  obtain ⟨hx, hb, hr, hml, hown, hts, hX, hbl, hlocks, hgv⟩ := id C0
  have hcls : ∀ k : Nat, ∃ z : ClassId × (Nat → Nat), ∀ q : vw_C, vwCl[k]? = some q → u_Kn s q.1 q.2.1 q.2.2 z.1 z.2 := by
    intro k
    cases hq : vwCl[k]? with
    | none => exact ⟨(0, fun _ => 0), fun q h => by cases h⟩
    | some q =>
      have hk : k < 12 := (List.getElem?_eq_some_iff.mp hq).1
      obtain ⟨C, T, Nf, ty0, fs, l0, q1, q2, q3, q4, q5, q6, q7, q8, q9, q10, q11⟩ := rxc_all k hk
      cases hq.symm.trans q1
      obtain ⟨cC, iS, h⟩ := u_known (C := C) (T := T) (N := Nf) (n := Nf) hts (fun w hw => lw_G_tbl (q4 w hw)) (hts _ (lw_G_tbl q10))
      exact ⟨(cC, iS), fun q' h' => by cases h'; exact h⟩
  obtain ⟨dF, hdF⟩ := Classical.axiomOfChoice hcls
  obtain ⟨cB, hcB⟩ := rx_ar_K (hts _ rxa_byte) (fun C z => by cases z)
  obtain ⟨cI, hcI⟩ := rx_ar_K (hts _ rxa_int) (fun C z => by cases z)
  obtain ⟨cJ, hcJ⟩ := rx_ar_K (hts _ rxa_long) (fun C z => by cases z)
  obtain ⟨cZ, hcZ⟩ := rx_ar_K (hts _ rxa_boolean) (fun C z => by cases z)
  obtain ⟨cO, hcO⟩ := rx_ar_O (hts _ rxa_over)
  obtain ⟨cy, hy12, hy13, hy14, hy15, hy16⟩ : ∃ cy : Nat → ClassId, cy 12 = cB ∧ cy 13 = cI ∧ cy 14 = cJ ∧ cy 15 = cZ ∧ cy 16 = cO := ⟨fun k => if k = 12 then cB else if k = 13 then cI else if k = 14 then cJ else if k = 15 then cZ else cO, rfl, rfl, rfl, rfl, rfl⟩
  have hK : va_K (fun k => (dF k).1, fun k => (dF k).2) vwCl (rx_tys cy) s := by
    refine ⟨fun k q hq => hdF k q hq, fun k q hq => ?_⟩
    have hk : k < 5 := (List.getElem?_eq_some_iff.mp hq).1
    match k, hk, hq with
    | 0, _, hq => cases hq; rw [hy12]; exact hcB
    | 1, _, hq => cases hq; rw [hy13]; exact hcI
    | 2, _, hq => cases hq; rw [hy14]; exact hcJ
    | 3, _, hq => cases hq; rw [hy15]; exact hcZ
    | 4, _, hq => cases hq; rw [hy16]; exact hcO
  have hNest : ∀ w ∈ lw_nest, va_Nw w s := by
    intro w hw
    have h1 := List.mem_filter.mp hw
    have h2 := h1.2
    cases w with
    | methodLinkNest a i x hh => exact va_Nw.of rfl (hts _ h1.1)
    | _ => cases h2
  obtain ⟨b, hb0, hZt⟩ := rx_Zt_of b0 hts hgv
  have hroom : rx_rf (rx_n (rxl L (fun j => rx_i32 (xs j)))) ≤ room_1.frames ∧ rx_rl (rx_n (rxl L (fun j => rx_i32 (xs j)))) ≤ room_1.locals ∧ rx_rc (rx_n (rxl L (fun j => rx_i32 (xs j)))) ≤ room_1.cells ∧ rx_rs (rx_n (rxl L (fun j => rx_i32 (xs j)))) ≤ room_1.slots := ⟨Nat.le_of_ble_eq_true rfl, Nat.le_of_ble_eq_true rfl, Nat.le_of_ble_eq_true rfl, Nat.le_of_ble_eq_true rfl⟩
  have hcs : rx_rc (rx_n (rxl L (fun j => rx_i32 (xs j)))) ≤ 600000 ∧ rx_rs (rx_n (rxl L (fun j => rx_i32 (xs j)))) ≤ 7302250 := ⟨Nat.le_of_ble_eq_true rfl, Nat.le_of_ble_eq_true rfl⟩
  have C : rx_Cx cy (fun k => (dF k).1, fun k => (dF k).2) (rxl L (fun j => rx_i32 (xs j))) p room_1 s m #[Value.ref b0] meth c := ⟨hx, hb, hr, hml, hown, fun w hw => hts w (lw_G_tbl hw), hlocks, fun z => absurd (show ("law" : String) = "<init>" from z) (by decide), hK, hNest, va_AO.of (hts _ rxa_over), hroom.1, hroom.2.1, hroom.2.2.1, hroom.2.2.2⟩
  have hA : ∀ q : Nat, s.heap.size ≤ q → (fun q : Nat => s.heap.size ≤ q) q := fun _ h => h
  have hSc : rx_Sc (rx_n (rxl L (fun j => rx_i32 (xs j)))) b (fun q : Nat => s.heap.size ≤ q) s.heap [] s := by
    refine ⟨fun L' hL' => ?_, rfl, hZt⟩
    have : L' = L := by have : L + 1 = L' + 1 := hL'; omega
    subst this
    refine ⟨xs, by rw [hb0]; exact hX, by rw [hb0]; exact hbl, by rw [hb0]; exact Nat.not_le.mpr hbl, by omega, fun j _ => rx_i32_of (xs j)⟩
  have hret : ∀ o : rx_O, o.1 = 4 → rx_Ret p l e room_1 s m #[Value.ref b0] below meth c (lw_Z below #[Value.ref b0] s) cy (fun k => (dF k).1, fun k => (dF k).2) b (fun q : Nat => s.heap.size ≤ q) s.heap [] [] (rxl L (fun j => rx_i32 (xs j))) o := by
    intro o ho ad en ls stA H locs ws cn sn pc hk a1 a2 a3 a4 a5 a6 a7 a8 a9
    rcases hk with ⟨k1, -⟩ | ⟨-, k2, x, rfl, hxo, -⟩ | ⟨k1, -⟩ | ⟨k1, -⟩
    · exact absurd (show 2 = 0 from k1) (by decide)
    · rw [ho] at hxo
      have h1 := Option.some.inj (hxo.symm.trans (rx_int_cv b ad en 1))
      cases h1
      refine W.widen (Nat.le_trans a8 hcs.1) (Nat.le_trans a9 hcs.2) ?_
      exact va_forget a6.2.2 (lw_ret hx hb hr hlocks k2)
    · exact absurd (show 2 = 3 from k1) (by decide)
    · exact absurd (show 2 = 4 from k1) (by decide)
  have hG := hmain cy (fun k => (dF k).1, fun k => (dF k).2) (fun σ => rx_G p l e room_1 s m #[Value.ref b0] below meth c (lw_Z below #[Value.ref b0] s) cy (fun k => (dF k).1, fun k => (dF k).2) b (fun q : Nat => s.heap.size ≤ q) s.heap [] [] (rx_mL (rx_n (rxl L (fun j => rx_i32 (xs j))))) σ)
    ⟨fun n σ outs hrun hall => rx_sound rxP_ok n (rxl L (fun j => rx_i32 (xs j))) (rxl_st L _) (Or.inr (Or.inr (Or.inl ⟨rfl, rfl⟩))) σ outs hrun p e room_1 s m _ below meth c _ b _ s.heap [] [] C hSc hA (fun o ho => hret o (hall o ho)),
     fun n stop k σ l' hadv hall => rx_adv_ok rxP_ok (rxl_st L _) C hSc hA k σ l' hadv hall,
     fun i q as rest os σ hq hc hat hall => rx_G_call rxP_ok (rxl_st L _) C hSc.2.1 hSc.2.2 hA rfl hq hc hat hall⟩
  have hl := lv_entry ([.ref b0]) (n := 4) (Nat.le_of_ble_eq_true rfl)
  rw [lg_entry_eq]
  generalize (lg_sl ([.ref b0]) ++ List.replicate (4 - (lg_sl ([.ref b0])).length) Slot.unset).toArray = ls at hl ⊢
  have has : ([6] : List Nat).map (rx_cv b [] []) = ([.ref b0] : List Value).map some := by rw [← hb0]; rfl
  obtain ⟨ha1, ha2⟩ := rx_args_ok (n := 4) (off := 0) has (Nat.le_of_ble_eq_true rfl)
  have hRL : rx_RL b [] [] 4 (rx_args [6] 4) ls := ⟨ha1, hl.1, hl.2.1, fun i v hv h2 => by
    obtain ⟨x, h3, h4⟩ := ha2 i v hv h2
    exact ⟨x, h3, by have := hl.2.2 _ h4; rwa [Nat.zero_add] at this⟩⟩
  exact hG [] [] ls [] s.heap [] [] ⟨List.prefix_refl _, List.prefix_refl _, ⟨Nat.zero_le _, rfl, rfl, fun q c h => absurd (rx_hg_lt h) (Nat.not_lt_zero _)⟩, fun k q h => by simp at h, ⟨fun i j p q h => by simp at h, fun k q h => by simp at h⟩, va_S.rf, hRL, rfl, ⟨rfl, fun t a b x h => by
    have h : ([] : rx_I)[t]? = some (a, b) := h
    simp at h⟩⟩
end
section
/-! The law's own instructions, one at a time -/
theorem lw_tk (n : Nat) : rx_tk (rx_int n) = 0 := by show 4 * n % 4 = 0; omega
theorem lw_pl (n : Nat) : rx_pl (rx_int n) = n := by show 4 * n / 4 = n; omega
theorem lw_isI (n : Nat) : rx_isI (rx_int n) = true := rx_or2.mpr (Or.inl (rx_beq.mpr (lw_tk n)))
theorem lw_nJ {v : Nat} (h : v % 4 ≠ 1) : rx_isJ v = false := Bool.eq_false_iff.mpr (fun z => h (rx_beq.mp z))
theorem lw_int4 (n : Nat) : rx_int n % 4 = 0 := lw_tk n
theorem lw_int_ne (n : Nat) : rx_int n % 4 ≠ 1 := by rw [lw_int4]; decide
noncomputable def lw_LV (i : Nat) : List Nat := [6, 10, 702, rx_int i]
noncomputable def lw_at (pc : Nat) (h : rx_Hd) (a : Nat) : Prop := ∃ x : rx_E, rx_look (rx_cd rxm_332) pc = some x ∧ x.2.1 = 0 ∧ x.2.2.1 = h ∧ x.2.2.2.2.2.1 = a
section LWR
variable {l : Launch} {cy : Nat → ClassId} {D : va_G} {L : Nat} {sx : Nat → Nat} {G : rx_S → Prop} {hp : rx_H} {c s i pc : Nat} {st : List Nat}
theorem lw_step (R : lw_Rules l cy D (rxl L sx) G) {a : Nat} {h : rx_Hd} (hat : lw_at pc h a) {lv : List Nat} {σ' : rx_S} (hh : ∀ nb, h (rx_DF, rx_FK) (rx_n (rxl L sx)) pc a nb lv st hp [] c s = some [σ']) (hG : G σ') : G (pc, lv, st, hp, [], c, s) := by
  obtain ⟨x, h1, h2, h3, h4⟩ := hat
  refine R.2.1 0 (pc + 1) 1 _ [σ'] ?_ (fun σ'' hσ => by rw [List.mem_singleton.mp hσ]; exact hG)
  show (bif Nat.beq pc (pc + 1) then some [(pc, lv, st, hp, [], c, s)] else rx_go rx_P (rx_DF, rx_FK) (rx_run rx_P (rx_DF, rx_FK) 0) (fun _ σ' => some [σ']) (fun _ => none) (rxl L sx) (pc, lv, st, hp, [], c, s)) = some [σ']
  rw [show Nat.beq pc (pc + 1) = false from Bool.eq_false_iff.mpr (fun z => by have := rx_beq.mp z; omega), cond_false]
  unfold rx_go
  dsimp only
  rw [show rx_look (rx_cd (rxl L sx)) pc = some x from h1]
  dsimp only
  unfold rx_do
  rw [h2, h3, h4]
  show rx_nxt (fun _ σ' => some [σ']) (rxl L sx) (h (rx_DF, rx_FK) (rx_n (rxl L sx)) pc a x.2.2.2.2.2.2.1 lv st hp [] c s) = some [σ']
  rw [hh]
  rfl
theorem lw_ar {f : Nat → Nat → Option Nat} {g : Nat → Nat × Nat} {K : rx_K} {N : rx_N} {na nb x y r : Nat} {lv : List Nat} (h : f x y = some r) : rx_h_ar f g K N pc na nb lv (rx_int y :: rx_int x :: st) hp [] c s = some [(Nat.add pc 1, lv, rx_int r :: st, hp, [], c, s)] := by
  unfold rx_h_ar
  show (bif Nat.beq (rx_tk (rx_kn [] (rx_int x))) 0 && Nat.beq (rx_tk (rx_kn [] (rx_int y))) 0 then (match f (rx_pl (rx_kn [] (rx_int x))) (rx_pl (rx_kn [] (rx_int y))) with
      | some n => some [(Nat.add pc 1, lv, rx_int n :: st, hp, [], c, s)]
      | none => none) else _) = _
  rw [ax_kn, ax_kn, lw_tk, lw_tk, lw_pl, lw_pl, h]
  rfl
theorem lw_iload (R : lw_Rules l cy D (rxl L sx) G) (hat : lw_at pc (rx_h_ld rx_isI 3 1) 0) (hG : G (Nat.add pc 1, lw_LV i, rx_int i :: st, hp, [], c, s)) : G (pc, lw_LV i, st, hp, [], c, s) :=
  lw_step R hat (fun _ => by
    show (bif rx_isI (rx_int i) then some [(Nat.add pc 1, lw_LV i, rx_int i :: st, hp, [], c, s)] else none) = _
    rw [lw_isI]
    rfl) hG
theorem lw_scr (R : lw_Rules l cy D (rxl L sx) G) {j : Nat} {lv : List Nat} (hj : j < L) (hat : lw_at pc (rx_h_ald (fun t => Nat.beq t 13)) 0) (hG : G (Nat.add pc 1, lv, rx_int (sx j) :: st, hp, [], c, s)) : G (pc, lv, rx_int j :: 6 :: st, hp, [], c, s) :=
  lw_step R hat (fun _ => by
    show (bif Nat.beq (rx_tk (rx_kn [] (rx_int j))) 0 && (true && Nat.blt (Nat.succ (rx_pl (rx_kn [] (rx_int j)))) (L + 1)) then some [(Nat.add pc 1, lv, rx_int (sx (rx_pl (rx_kn [] (rx_int j)))) :: st, hp, [], c, s)] else none) = _
    rw [ax_kn, lw_tk, lw_pl, show Nat.blt (Nat.succ j) (L + 1) = true from rx_blt.mpr (by show j + 1 < L + 1; omega)]
    rfl) hG
theorem lw_add {i k : Nat} (h : i + k < 4294967296) : rx_f_add i k = some (i + k) := by
  show some ((i + k) % 4294967296) = _
  rw [Nat.mod_eq_of_lt h]
/-- script[i + k] is pushed -/
theorem lw_push (R : lw_Rules l cy D (rxl L sx) G) (hL : L ≤ 3072) {k : Nat} (hk : i + k < L) (a0 : lw_at pc (rx_h_ld rx_isR 0 1) 0) (a1 : lw_at (pc + 1) (rx_h_ld rx_isI 3 1) 0) (a2 : lw_at (pc + 2) (rx_h_psh 1) k) (a3 : lw_at (pc + 3) (rx_h_ar rx_f_add rx_g32) 0) (a4 : lw_at (pc + 4) (rx_h_ald (fun t => Nat.beq t 13)) 0)
    (hG : G (pc + 5, lw_LV i, rx_int (sx (i + k)) :: st, hp, [], c, s)) : G (pc, lw_LV i, st, hp, [], c, s) := by
  refine lw_step R (σ' := (pc + 1, lw_LV i, 6 :: st, hp, [], c, s)) a0 (fun _ => rfl) ?_
  refine lw_iload R a1 ?_
  refine lw_step R (pc := pc + 2) (σ' := (pc + 3, lw_LV i, rx_int k :: rx_int i :: 6 :: st, hp, [], c, s)) a2 (fun _ => rfl) ?_
  refine lw_step R (σ' := (pc + 4, lw_LV i, rx_int (i + k) :: 6 :: st, hp, [], c, s)) a3 (fun _ => lw_ar (lw_add (by omega))) ?_
  exact lw_scr R hk a4 hG
theorem lw_pop (R : lw_Rules l cy D (rxl L sx) G) {v : Nat} {lv : List Nat} (hv : v % 4 ≠ 1) (hat : lw_at pc rx_h_pop 0) (hG : G (pc + 1, lv, st, hp, [], c, s)) : G (pc, lv, v :: st, hp, [], c, s) :=
  lw_step R hat (fun _ => by
    show (bif rx_isJ v then none else some [(Nat.add pc 1, lv, st, hp, [], c, s)]) = _
    rw [lw_nJ hv]
    rfl) hG
theorem lw_pop2 (R : lw_Rules l cy D (rxl L sx) G) {v : Nat} {lv : List Nat} (hv : v % 4 = 1) (hat : lw_at pc rx_h_pop2 0) (hG : G (pc + 1, lv, st, hp, [], c, s)) : G (pc, lv, v :: st, hp, [], c, s) :=
  lw_step R hat (fun _ => by
    show (bif rx_isJ v then some [(Nat.add pc 1, lv, st, hp, [], c, s)] else none) = _
    rw [show rx_isJ v = true from rx_beq.mpr hv]
    rfl) hG
theorem lw_goto (R : lw_Rules l cy D (rxl L sx) G) {t : Nat} {lv : List Nat} (hat : lw_at pc rx_h_goto t) (hG : G (t, lv, st, hp, [], c, s)) : G (pc, lv, st, hp, [], c, s) := lw_step R hat (fun _ => rfl) hG
/-- a comparison of two ints -/
theorem lw_cmp (R : lw_Rules l cy D (rxl L sx) G) {k : ClassFile.Cond} {t x y : Nat} {lv : List Nat} (hx : x % 4 = 0) (hy : y % 4 = 0) (hat : lw_at pc (rx_h_icmp k) t) (hG : ax_cnd (ax_cn k) (rx_bi (x / 4)) (rx_bi (y / 4)) → G (t, lv, st, hp, [], c, s)) (hG' : ¬ ax_cnd (ax_cn k) (rx_bi (x / 4)) (rx_bi (y / 4)) → G (pc + 3, lv, st, hp, [], c, s)) : G (pc, lv, y :: x :: st, hp, [], c, s) := by
  rcases ax_tri k (rx_bi (x / 4)) (rx_bi (y / 4)) with ⟨h1, h2⟩ | ⟨h1, h2⟩
  · refine lw_step R hat (fun _ => ?_) (hG h1)
    show rx_br k t pc x y (y :: x :: st) st lv hp [] c s = _
    unfold rx_br
    rw [ax_io hx, ax_io hy]
    dsimp only
    rw [h2]
  · refine lw_step R hat (fun _ => ?_) (hG' h1)
    show rx_br k t pc x y (y :: x :: st) st lv hp [] c s = _
    unfold rx_br
    rw [ax_io hx, ax_io hy]
    dsimp only
    rw [h2]
/-- a comparison of two longs that are alike -/
theorem lw_cmpJ (R : lw_Rules l cy D (rxl L sx) G) {t v : Nat} {lv : List Nat} (hv : v % 4 = 1) (h1 : lw_at pc rx_h_lcmp 0) (h2 : lw_at (pc + 1) (rx_h_if .eq) t) (hG : G (t, lv, st, hp, [], c, s)) : G (pc, lv, v :: v :: st, hp, [], c, s) := by
  have e : rx_f_lcmp (rx_pl v) (rx_pl v) = 0 := by
    show rx_i32 (lg_cmp (Int64.ofNat (rx_pl v)) (Int64.ofNat (rx_pl v))) = 0
    unfold lg_cmp
    rw [if_neg (fun z => Int64.lt_irrefl z), if_pos rfl]
    rfl
  refine lw_step R h1 (σ' := (pc + 1, lv, rx_int 0 :: st, hp, [], c, s)) (fun _ => ?_) ?_
  · show (bif rx_isJ v && rx_isJ v then some [(Nat.add pc 1, lv, rx_int (rx_f_lcmp (rx_pl v) (rx_pl v)) :: st, hp, [], c, s)] else none) = _
    rw [show rx_isJ v = true from rx_beq.mpr hv, e]
    rfl
  · refine lw_step R h2 (σ' := (t, lv, st, hp, [], c, s)) (fun _ => ?_) hG
    show rx_br .eq t (pc + 1) (rx_int 0) 0 (rx_int 0 :: st) st lv hp [] c s = _
    unfold rx_br
    rw [ax_io (show rx_int 0 % 4 = 0 from rfl), ax_io (show 0 % 4 = 0 from rfl)]
    dsimp only
    rcases ax_tri .eq (rx_bi (rx_int 0 / 4)) (rx_bi (0 / 4)) with ⟨_, k2⟩ | ⟨k1, _⟩
    · rw [k2]
    · exact absurd rfl k1
theorem rx_spl_mk : ∀ (pre acc rest : List Nat), rx_spl pre.length (pre ++ rest) acc = some (pre.reverse ++ acc, rest)
  | [], acc, rest => rfl
  | v :: pre, acc, rest => by
    show rx_spl pre.length (pre ++ rest) (v :: acc) = _
    rw [rx_spl_mk pre (v :: acc) rest]
    simp
theorem lw_cat : ∀ vals : List Nat, rx_cat (vals.map rx_int) = vals.length
  | [] => rfl
  | v :: vals => by
    show (bif rx_isJ (rx_int v) then Nat.add (rx_cat (vals.map rx_int)) 2 else Nat.succ (rx_cat (vals.map rx_int))) = _
    rw [lw_nJ (lw_int_ne v), lw_cat vals]
    rfl
/-- a call by contract -/
theorem lw_call (R : lw_Rules l cy D (rxl L sx) G) {j nb ref : Nat} {q : rx_M} (vals : List Nat) (rest : List Nat) {lv : List Nat} {Po : rx_O → Prop} (hx : ∃ x : rx_E, rx_look (rx_cd rxm_332) pc = some x ∧ x.2.1 = 4 ∧ x.2.2.2.2.2.1 = j ∧ x.2.2.2.2.2.2.1 = nb)
    (hnb : (!(Nat.beq nb 1) && (!(Nat.beq nb 2) && !(Nat.beq (Nat.mod nb 4) 1))) = true) (hq : rx_nth rx_P j = some q) (hn : rx_np (rx_n q) = vals.length) (hJ : ref % 4 ≠ 1) (hrc : rx_obj hp (Nat.div nb 4) ref = true)
    (hroom : (Nat.ble (Nat.succ (rx_rf (rx_n q))) 34 && (Nat.ble (Nat.add (Nat.add 19 (rx_mL (rx_n q))) (rx_rl (rx_n q))) 988 && (Nat.beq (rx_rc (rx_n q)) 0 && (Nat.beq (rx_rs (rx_n q)) 0 && Nat.ble (Nat.succ vals.length) (rx_mL (rx_n q)))))) = true) (hrest : rx_cat rest ≤ 8)
    (hW : ax_Wp rx_P (rx_DF, rx_FK) q (0, rx_args (ref :: vals.map rx_int) (rx_mL (rx_n q)), [], hp, [], 0, 0) Po) (hG : ∀ o, Po o → G (Nat.add pc 3, lv, (bif Nat.beq (rx_rk (rx_n q)) 0 then rest else o.1 :: rest), o.2.1, o.2.2, 205, 8956)) : G (pc, lv, (vals.map rx_int).reverse ++ ref :: rest, hp, [], 205, 8956) := by
  obtain ⟨o, h1, h2⟩ := ax_wp_at (l := l) (cy := cy) (D := D) rxP_ok (ax_nth_mem hq) hW
  obtain ⟨x, x1, x2, x3, x4⟩ := hx
  obtain ⟨n1, hnb⟩ := rx_and2.mp hnb
  obtain ⟨n2, n3⟩ := rx_and2.mp hnb
  obtain ⟨r1, hroom⟩ := rx_and2.mp hroom
  obtain ⟨r2, hroom⟩ := rx_and2.mp hroom
  obtain ⟨r3, hroom⟩ := rx_and2.mp hroom
  obtain ⟨r4, r5⟩ := rx_and2.mp hroom
  have r3 : rx_rc (rx_n q) = 0 := rx_beq.mp r3
  have r4 : rx_rs (rx_n q) = 0 := rx_beq.mp r4
  have hcat : rx_cat (ref :: vals.map rx_int) = Nat.succ vals.length := by
    show (bif rx_isJ ref then Nat.add (rx_cat (vals.map rx_int)) 2 else Nat.succ (rx_cat (vals.map rx_int))) = _
    rw [lw_nJ hJ, lw_cat vals]
    rfl
  have hok : rx_cok (rx_n (rxl L sx)) (rx_n q) (ref :: vals.map rx_int) rest 205 8956 = true := by
    unfold rx_cok
    rw [hcat, r3, r4]
    show (Nat.ble (rx_cat rest) 8 && (Nat.ble (Nat.succ (rx_rf (rx_n q))) 34 && (Nat.ble (Nat.add (Nat.add 19 (rx_mL (rx_n q))) (rx_rl (rx_n q))) 988 && (true && (true && Nat.ble (Nat.succ vals.length) (rx_mL (rx_n q))))))) = true
    rw [rx_ble.mpr hrest, r1, r2, r5]
    rfl
  have hspl : rx_spl (Nat.succ (rx_np (rx_n q))) ((vals.map rx_int).reverse ++ ref :: rest) [] = some (ref :: vals.map rx_int, rest) := by
    have e := rx_spl_mk ((vals.map rx_int).reverse ++ [ref]) [] rest
    rw [show ((vals.map rx_int).reverse ++ [ref]).length = Nat.succ (rx_np (rx_n q)) by rw [hn]; simp] at e
    rw [show (vals.map rx_int).reverse ++ ref :: rest = ((vals.map rx_int).reverse ++ [ref]) ++ rest by simp, e]
    simp
  have hc : rx_cal rx_P (rxl L sx) j (pc, lv, (vals.map rx_int).reverse ++ ref :: rest, hp, [], 205, 8956) = some (ref :: vals.map rx_int, rest) := by
    unfold rx_cal
    dsimp only
    rw [show rx_look (rx_cd (rxl L sx)) pc = some x from x1]
    dsimp only
    rw [hq]
    dsimp only
    rw [x2, x3, x4]
    show (match rx_spl (Nat.succ (rx_np (rx_n q))) ((vals.map rx_int).reverse ++ ref :: rest) [] with
      | some (as, rest) => bif true && (Nat.beq j j && (!(Nat.beq nb 1) && (!(Nat.beq nb 2) && (!(Nat.beq (Nat.mod nb 4) 1) && (rx_rcv hp (Nat.div nb 4) as && rx_cok (rx_n (rxl L sx)) (rx_n q) as rest 205 8956))))) then some (as, rest) else none
      | none => none) = _
    rw [hspl]
    dsimp only
    rw [hok, n1, n2, n3, Nat.beq_refl, show rx_rcv hp (Nat.div nb 4) (ref :: vals.map rx_int) = true from hrc]
    rfl
  refine R.2.2 j q (ref :: vals.map rx_int) rest [o] _ hq hc h1 (fun o' ho' => ?_)
  rw [List.mem_singleton.mp ho']
  have e := hG o h2
  show G (Nat.add pc 3, lv, (bif Nat.beq (rx_rk (rx_n q)) 0 then rest else o.1 :: rest), o.2.1, o.2.2, Nat.add 205 (rx_rc (rx_n q)), Nat.add 8956 (rx_rs (rx_n q)))
  rw [r3, r4]
  exact e
end LWR
end
section
/-! Both worlds at once -/
noncomputable def lw_alln (p : Nat → Bool) (n : Nat) : Bool := Nat.rec true (fun i ih => bif p i then ih else false) n
theorem lw_alln_ok {p : Nat → Bool} : ∀ {n : Nat}, lw_alln p n = true → ∀ i, i < n → p i = true
  | 0, _, i, hi => absurd hi (Nat.not_lt_zero _)
  | n + 1, h, i, hi => by
    replace h : (bif p n then lw_alln p n else false) = true := h
    cases hp : p n with
    | false => rw [hp] at h; cases h
    | true =>
      rw [hp, cond_true] at h
      rcases Nat.lt_or_ge i n with hl | hl
      · exact lw_alln_ok h i hl
      · rw [show i = n by omega]; exact hp
noncomputable def lw_sub1 (w : ax_W) (l2 l1 : List (Nat × ax_Y)) (i : Nat) : Bool := match ax_at l2 i, ax_at l1 i with
  | some t, some s => ax_sub w t s
  | _, _ => false
noncomputable def lw_subR (w2 w1 : ax_W) (g : Nat) : Bool := match rx_nth w2.2.1 g, rx_nth w1.2.1 g with
  | some (k2, n2, l2), some (k1, n1, l1) => Nat.beq k2 k1 && (Nat.beq n2 n1 && lw_alln (lw_sub1 w1 l2 l1) n2)
  | _, _ => false
noncomputable def lw_isC (g : Nat) : Bool := Nat.blt g 44 && !(Nat.beq g 11)
noncomputable def lw_subs (w2 w1 : ax_W) (S : Nat → Bool) : Bool := lw_alln (fun g => bif S g then lw_subR w2 w1 g else true) 75
theorem lw_mem_md {md : List (Nat × Nat)} {S : Nat → Bool} {g i : Nat} (h : md.all (fun x => S x.1) = true) (hg : S g = false) : ax_mem md g i = false := by
  refine Bool.eq_false_iff.mpr (fun z => ?_)
  obtain ⟨x, hx, hz⟩ := List.any_eq_true.mp z
  have h1 := List.all_eq_true.mp h x hx
  have h2 : x.1 = g := rx_beq.mp (rx_and2.mp hz).1
  rw [h2, hg] at h1
  cases h1
theorem lw_mrg {w1 w2 : ax_W} {hp hp' : rx_H} {md : List (Nat × Nat)} {S : Nat → Bool} (hw : w2.1 = w1.1) (h1 : ax_HT w1 hp) (h2 : ax_HT w2 hp') (hr : ax_HR w2 md hp hp') (hmd : md.all (fun x => S x.1) = true) (hS : lw_subs w2 w1 S = true) (hN : w1.2.1.length ≤ 75) : ax_HT w1 hp' := by
  refine ⟨by rw [hr.1]; exact h1.1, fun q g hq => ?_⟩
  obtain ⟨k, n, tl, f, b1, b2, b3, b4⟩ := h1.2 q g hq
  have hq2 : w2.1[q]? = some g := by rw [hw]; exact hq
  cases hSg : S g with
  | true =>
    obtain ⟨k', n', tl', f', c1, c2, c3, c4⟩ := h2.2 q g hq2
    have hgN : g < 75 := Nat.lt_of_lt_of_le (List.getElem?_eq_some_iff.mp b1).1 hN
    have hs : (bif S g then lw_subR w2 w1 g else true) = true := lw_alln_ok hS g hgN
    rw [hSg, cond_true] at hs
    unfold lw_subR at hs
    rw [rx_nth_eq, rx_nth_eq, c1, b1] at hs
    dsimp only at hs
    obtain ⟨s1, hs2⟩ := rx_and2.mp hs
    obtain ⟨s2, hs3⟩ := rx_and2.mp hs2
    have s1' : k' = k := rx_beq.mp s1
    have s2' : n' = n := rx_beq.mp s2
    clear hs hs2 s1 s2
    subst s1'
    subst s2'
    refine ⟨k', n', tl, f', b1, c2, c3, fun i v hv => ?_⟩
    obtain ⟨t, t1, t2⟩ := c4 i v hv
    have hi : i < n' := by rw [← c3]; exact (List.getElem?_eq_some_iff.mp hv).1
    have hsi := lw_alln_ok hs3 i hi
    unfold lw_sub1 at hsi
    rw [t1] at hsi
    cases hu : ax_at tl i with
    | none => rw [hu] at hsi; cases hsi
    | some u =>
      rw [hu] at hsi
      have t3 : ax_ok w1 t v := by
        unfold ax_ok at t2 ⊢
        rw [← hw]
        exact t2
      exact ⟨u, rfl, ax_sub_ty hsi t3⟩
  | false =>
    obtain ⟨l', e1, e2⟩ := hr.2 q g hq2 k n f b2
    have el : l' = f := List.ext_getElem? (fun i => e2 i (lw_mem_md hmd hSg))
    subst el
    exact ⟨k, n, tl, l', b1, e1, b3, b4⟩
theorem lw_ay {w : ax_W} {md : List (Nat × Nat)} {hp hp' : rx_H} {q g i v : Nat} (hR : ax_HR w md hp hp') (hg : w.1[q]? = some g) (hm : ax_mem md g i = false) (h : ay_at hp q i = some v) : ay_at hp' q i = some v := by
  cases e : rx_hg hp q with
  | none =>
    unfold ay_at at h
    rw [e] at h
    cases h
  | some cl =>
    obtain ⟨k, n, f⟩ := cl
    rw [ay_eq e] at h
    obtain ⟨l', e1, e2⟩ := hR.2 q g hg k n f e
    rw [ay_eq e1, e2 i hm]
    exact h
/-- names that stand on other regions -/
theorem lw_xd {w : ax_W} {X : ax_X} (hX : ax_XD w X) {x : Nat} {vs : List Nat} {dl md : List (Nat × Nat)} {S : Nat → Bool} {hp hp' : rx_H} (hd : w.2.2[x]? = some dl) (hdl : dl.all (fun d => !(S d.1)) = true) (hmd : md.all (fun y => S y.1) = true) (hR : ax_HR w md hp hp') (h : X x vs hp) : X x vs hp' := by
  refine hX x vs dl md hp hp' hd (List.all_eq_true.mpr (fun d hdm => ?_)) hR h
  have h1 := List.all_eq_true.mp hdl d hdm
  cases hz : md.any (fun y => Nat.beq y.1 d.1 && (Nat.beq y.2 d.2 || (Nat.beq y.2 999 || Nat.beq d.2 999))) with
  | false => rfl
  | true =>
    obtain ⟨y, hy, hq⟩ := List.any_eq_true.mp hz
    have h2 := List.all_eq_true.mp hmd y hy
    have h3 : y.1 = d.1 := rx_beq.mp (rx_and2.mp hq).1
    rw [h3] at h2
    rw [h2] at h1
    cases h1
theorem lw_w0 : ax_wM0.1 = ax_wC.1 := rfl
theorem lw_w1 : ax_wM1.1 = ax_wC.1 := rfl
theorem lw_sC0 : lw_subs ax_wC ax_wM0 lw_isC = true := by decide +kernel
theorem lw_sC1 : lw_subs ax_wC ax_wM1 lw_isC = true := by decide +kernel
theorem lw_s0C : lw_subs ax_wM0 ax_wC (fun g => !(lw_isC g)) = true := by decide +kernel
theorem lw_s1C : lw_subs ax_wM1 ax_wC (fun g => !(lw_isC g)) = true := by decide +kernel
/-- what holds of the heap between calls, but for the two sizes -/
noncomputable def lw_XM5 (b : Nat) (hp : rx_H) : Prop := ax_XM b 0 [80] hp ∧ ax_XM b 1 [] hp ∧ ax_XM b 2 [] hp ∧ ax_XM b 25 [] hp ∧ ax_XM b 26 [] hp
noncomputable def lw_B (b : Nat) (wM : ax_W) (hp : rx_H) : Prop := ax_HT ax_wC hp ∧ ax_XC 0 [80] hp ∧ ax_HT wM hp ∧ lw_XM5 b hp
/-- all that the law needs of a bank's world -/
noncomputable def lw_W (b : Nat) (wM : ax_W) : Prop := wM.1 = ax_wC.1 ∧ lw_subs ax_wC wM lw_isC = true ∧ lw_subs wM ax_wC (fun g => !(lw_isC g)) = true ∧ wM.2.1.length ≤ 75 ∧ ax_XD wM (ax_XM b) ∧ (∀ x ∈ [0, 1, 2, 25, 26], ∃ dl, wM.2.2[x]? = some dl ∧ dl.all (fun d => !(lw_isC d.1)) = true)
theorem lw_W0 : lw_W 0 ax_wM0 := ⟨rfl, lw_sC0, lw_s0C, by decide +kernel, ax_XM0_ok, fun x hx => by
  simp only [List.mem_cons, List.not_mem_nil, or_false] at hx
  rcases hx with rfl | rfl | rfl | rfl | rfl
  · exact ⟨_, rfl, by decide +kernel⟩
  · exact ⟨_, rfl, by decide +kernel⟩
  · exact ⟨_, rfl, by decide +kernel⟩
  · exact ⟨_, rfl, by decide +kernel⟩
  · exact ⟨_, rfl, by decide +kernel⟩⟩
theorem lw_W1 : lw_W 1 ax_wM1 := ⟨rfl, lw_sC1, lw_s1C, by decide +kernel, ax_XM1_ok, fun x hx => by
  simp only [List.mem_cons, List.not_mem_nil, or_false] at hx
  rcases hx with rfl | rfl | rfl | rfl | rfl
  · exact ⟨_, rfl, by decide +kernel⟩
  · exact ⟨_, rfl, by decide +kernel⟩
  · exact ⟨_, rfl, by decide +kernel⟩
  · exact ⟨_, rfl, by decide +kernel⟩
  · exact ⟨_, rfl, by decide +kernel⟩⟩
section LWI
variable {b : Nat} {wM : ax_W} {hp hp' : rx_H} {md : List (Nat × Nat)}
/-- a call of the class -/
theorem lw_cls (w : lw_W b wM) (hB : lw_B b wM hp) (h1 : ax_HT ax_wC hp') (h2 : ax_XC 0 [80] hp') (h3 : ax_HR ax_wC md hp hp') (hmd : md.all (fun x => lw_isC x.1) = true) : lw_B b wM hp' := by
  obtain ⟨b1, b2, b3, b4, b5, b6, b7, b8⟩ := hB
  obtain ⟨w1, w2, w3, w4, w5, w6⟩ := w
  have hR : ax_HR wM md hp hp' := ay_HRw w1 h3
  have kx : ∀ x vs, x ∈ [0, 1, 2, 25, 26] → ax_XM b x vs hp → ax_XM b x vs hp' := fun x vs hx h => by
    obtain ⟨dl, d1, d2⟩ := w6 x hx
    exact lw_xd w5 d1 d2 hmd hR h
  exact ⟨h1, h2, lw_mrg w1.symm b3 h1 h3 hmd w2 w4, kx 0 [80] (by decide) b4, kx 1 [] (by decide) b5, kx 2 [] (by decide) b6, kx 25 [] (by decide) b7, kx 26 [] (by decide) b8⟩
/-- a call of the reference, which may end in the other bank -/
theorem lw_mod {b' : Nat} {wM' : ax_W} (w' : lw_W b' wM') (hB : lw_B b wM hp) (h1 : ax_HT wM' hp') (h2 : lw_XM5 b' hp') (h3 : ax_HR ax_wC md hp hp') (hmd : md.all (fun x => !(lw_isC x.1)) = true) : lw_B b' wM' hp' := by
  obtain ⟨b1, b2, b3, b4⟩ := hB
  obtain ⟨w1, w2, w3, w4, w5, w6⟩ := w'
  have h0 : ax_XC 0 [80] hp' := lw_xd (S := fun g => !(lw_isC g)) ax_XC_ok (x := 0) rfl (by decide +kernel) hmd h3 b2
  exact ⟨lw_mrg (S := fun g => !(lw_isC g)) w1 b1 h1 (ay_HRw w1 h3) hmd w3 (by decide +kernel), h0, h1, h2⟩
theorem lw_rcT (h : ax_HT ax_wC hp) : rx_obj hp 10 10 = true := by
  obtain ⟨k, n, tl, f, b1, b2, b3, b4⟩ := h.2 0 0 rfl
  have e : (ax_wC.2.1[0]?).map (fun z => z.1) = some 10 := rfl
  rw [b1] at e
  have e : k = 10 := Option.some.inj e
  subst e
  show (match rx_hg hp 0 with
    | some (t, _, _) => Nat.beq t 10
    | none => false) = true
  rw [b2]
  rfl
theorem lw_rcM (h : ax_HT ax_wC hp) : rx_obj hp 11 702 = true := by
  obtain ⟨k, n, tl, f, b1, b2, b3, b4⟩ := h.2 173 11 rfl
  have e : (ax_wC.2.1[11]?).map (fun z => z.1) = some 11 := rfl
  rw [b1] at e
  have e : k = 11 := Option.some.inj e
  subst e
  show (match rx_hg hp 173 with
    | some (t, _, _) => Nat.beq t 11
    | none => false) = true
  rw [b2]
  rfl
end LWI
/-- a cell that a call leaves alone -/
theorem lw_ayE {w : ax_W} {md : List (Nat × Nat)} {hp hp' : rx_H} {q g i : Nat} (hR : ax_HR w md hp hp') (hT : ay_ex hp q) (hg : w.1[q]? = some g) (hm : ax_mem md g i = false) : ay_at hp' q i = ay_at hp q i := by
  obtain ⟨k, n, f, e⟩ := hT
  obtain ⟨l', e1, e2⟩ := hR.2 q g hg k n f e
  rw [ay_eq e1, ay_eq e, e2 i hm]
noncomputable def lw_x30C (g : Nat) (hp : rx_H) : Prop := pz_x30 g (ay_at hp 8 1) (ay_at hp 9)
noncomputable def lw_x30M (g : Nat) (hp : rx_H) : Prop := pz_x30 g (ay_at hp 173 11) (ay_at hp 183)
noncomputable def lw_31 (hp : rx_H) : Prop := pz_x31 (ay_at hp 10 6) (ay_at hp 10 7) (ay_at hp 10 10) (ay_at hp 10 11)
noncomputable def lw_F (hp : rx_H) : Prop := ay_at hp 8 3 = ay_at hp 173 20 ∧ ay_at hp 8 4 = ay_at hp 173 21
noncomputable def lw_S (hp : rx_H) : Prop := (∃ g, g % 4 = 1 ∧ lw_x30C g hp ∧ lw_x30M g hp) ∧ lw_31 hp ∧ lw_F hp
/-- .. and with them -/
noncomputable def lw_K (b : Nat) (wM : ax_W) (hp : rx_H) : Prop := lw_B b wM hp ∧ lw_S hp
noncomputable def lw_J (hp : rx_H) : Prop := lw_K 0 ax_wM0 hp ∨ lw_K 1 ax_wM1 hp
/-- the other side's cells -/
theorem lw_sameM {hp hp' : rx_H} {md : List (Nat × Nat)} (hT : ax_HT ax_wC hp) (hR : ax_HR ax_wC md hp hp') (m1 : md.all (fun x => lw_isC x.1) = true) : (∀ i, ay_at hp' 173 i = ay_at hp 173 i) ∧ ay_at hp' 183 = ay_at hp 183 :=
  ⟨fun i => lw_ayE (g := 11) hR (ax_cellT hT rfl) rfl (lw_mem_md m1 rfl), funext (fun i => lw_ayE (g := 53) hR (ax_cellT hT (g := 53) rfl) rfl (lw_mem_md m1 rfl))⟩
theorem lw_sameC {hp hp' : rx_H} {md : List (Nat × Nat)} (hT : ax_HT ax_wC hp) (hR : ax_HR ax_wC md hp hp') (m1 : md.all (fun x => !(lw_isC x.1)) = true) : (∀ i, ay_at hp' 8 i = ay_at hp 8 i) ∧ ay_at hp' 9 = ay_at hp 9 ∧ (∀ i, ay_at hp' 10 i = ay_at hp 10 i) :=
  ⟨fun i => lw_ayE (g := 2) hR (ax_cellT hT (g := 2) rfl) rfl (lw_mem_md (S := fun g => !(lw_isC g)) m1 rfl), funext (fun i => lw_ayE (g := 20) hR (ax_cellT hT (g := 20) rfl) rfl (lw_mem_md (S := fun g => !(lw_isC g)) m1 rfl)), fun i => lw_ayE (g := 1) hR (ax_cellT hT (g := 1) rfl) rfl (lw_mem_md (S := fun g => !(lw_isC g)) m1 rfl)⟩
noncomputable def lw_nm (md : List (Nat × Nat)) (g i : Nat) : Bool := !(ax_mem md g i)
theorem lw_nm_ok {md : List (Nat × Nat)} {g i : Nat} (h : lw_nm md g i = true) : ax_mem md g i = false := by
  unfold lw_nm at h
  cases hz : ax_mem md g i with
  | false => rfl
  | true => rw [hz] at h; cases h
noncomputable def lw_ng (md : List (Nat × Nat)) (g : Nat) : Bool := md.all (fun x => !(Nat.beq x.1 g))
theorem lw_ng_ok {md : List (Nat × Nat)} {g i : Nat} (h : lw_ng md g = true) : ax_mem md g i = false := lw_mem_md (S := fun x => !(Nat.beq x g)) h (by show (!(Nat.beq g g)) = false; rw [show Nat.beq g g = true from rx_beq.mpr rfl]; rfl)
noncomputable def lw_kC (md : List (Nat × Nat)) : Bool := md.all (fun x => lw_isC x.1) && (lw_nm md 2 1 && (lw_nm md 2 3 && (lw_nm md 2 4 && (lw_nm md 1 6 && (lw_nm md 1 7 && (lw_nm md 1 10 && (lw_nm md 1 11 && lw_ng md 20)))))))
noncomputable def lw_kM (md : List (Nat × Nat)) : Bool := md.all (fun x => !(lw_isC x.1)) && (lw_nm md 11 11 && (lw_nm md 11 20 && (lw_nm md 11 21 && lw_ng md 53)))
theorem lw_SC {hp hp' : rx_H} {md : List (Nat × Nat)} (hS : lw_S hp) (hT : ax_HT ax_wC hp) (hR : ax_HR ax_wC md hp hp') (hk : lw_kC md = true) : lw_S hp' := by
  obtain ⟨m1, hk⟩ := rx_and2.mp hk
  obtain ⟨k1, hk⟩ := rx_and2.mp hk
  obtain ⟨k2, hk⟩ := rx_and2.mp hk
  obtain ⟨k3, hk⟩ := rx_and2.mp hk
  obtain ⟨k4, hk⟩ := rx_and2.mp hk
  obtain ⟨k5, hk⟩ := rx_and2.mp hk
  obtain ⟨k7, hk⟩ := rx_and2.mp hk
  obtain ⟨k8, k6⟩ := rx_and2.mp hk
  obtain ⟨s1, s2⟩ := lw_sameM hT hR m1
  have c := fun i h => lw_ayE (i := i) (q := 8) (g := 2) hR (ax_cellT hT (g := 2) rfl) rfl (lw_nm_ok h)
  have d := fun i h => lw_ayE (i := i) (q := 10) (g := 1) hR (ax_cellT hT (g := 1) rfl) rfl (lw_nm_ok h)
  have t : ay_at hp' 9 = ay_at hp 9 := funext (fun i => lw_ayE (g := 20) hR (ax_cellT hT (g := 20) rfl) rfl (lw_ng_ok k6))
  unfold lw_S lw_x30C lw_x30M lw_31 lw_F at *
  rw [c _ k1, c _ k2, c _ k3, d _ k4, d _ k5, d _ k7, d _ k8, t, s1, s1, s1, s2]
  exact hS
theorem lw_SM {hp hp' : rx_H} {md : List (Nat × Nat)} (hS : lw_S hp) (hT : ax_HT ax_wC hp) (hR : ax_HR ax_wC md hp hp') (hk : lw_kM md = true) : lw_S hp' := by
  obtain ⟨m1, hk⟩ := rx_and2.mp hk
  obtain ⟨k1, hk⟩ := rx_and2.mp hk
  obtain ⟨k2, hk⟩ := rx_and2.mp hk
  obtain ⟨k3, k4⟩ := rx_and2.mp hk
  obtain ⟨s1, s2, s3⟩ := lw_sameC hT hR m1
  have c := fun i h => lw_ayE (i := i) (q := 173) (g := 11) hR (ax_cellT hT (g := 11) rfl) rfl (lw_nm_ok h)
  have t : ay_at hp' 183 = ay_at hp 183 := funext (fun i => lw_ayE (g := 53) hR (ax_cellT hT (g := 53) rfl) rfl (lw_ng_ok k4))
  unfold lw_S lw_x30C lw_x30M lw_31 lw_F at *
  rw [c _ k1, c _ k2, c _ k3, t, s1, s1, s1, s2, s3, s3, s3, s3]
  exact hS
theorem lw_J.T {hp : rx_H} (h : lw_J hp) : ax_HT ax_wC hp := by
  rcases h with h | h
  · exact h.1.1
  · exact h.1.1
-- contracts of ordinary calls
noncomputable def lw_ro (l : List Nat) : Nat → Nat := fun k => l.getD k 0
noncomputable def lw_hs (xf : List ax_N) (x : ax_N) : Bool := xf.any (fun y => Nat.beq y.1 x.1 && rx_eqL y.2 x.2)
theorem lw_hs_ok {xf : List ax_N} {x : ax_N} (h : lw_hs xf x = true) : x ∈ xf := by
  obtain ⟨y, hy, hz⟩ := List.any_eq_true.mp h
  obtain ⟨z1, z2⟩ := rx_and2.mp hz
  have e : y = x := Prod.ext (rx_beq.mp z1) (rx_eqL_ok z2)
  rw [← e]
  exact hy
noncomputable def lw_pks (kd : Nat) (need : List ax_N) (ps : List ax_T) : Bool := ps.all (fun po => (match po.1 with
  | [r] => ax_isK po.2 kd r
  | _ => false) && need.all (lw_hs po.2.2.2.2.2))
noncomputable def lw_any : ax_Y := (0, 0, 4294967295)
noncomputable def lw_GL : List ax_N := [(0, [80]), (1, []), (2, []), (25, []), (26, [])]
noncomputable def lw_pre (this : List ax_Y) (need : List ax_N) (n : Nat) : ax_E := (n + this.length, List.replicate n lw_any ++ this, [], [], need)
theorem lw_int_ok {w : ax_W} {v : Nat} (h : v < 4294967296) : ax_ok w lw_any (rx_int v) := by
  refine Or.inl ⟨rfl, lw_int4 v, by show rx_pl (rx_int v) < _; rw [lw_pl]; exact h, Nat.zero_le _, ?_⟩
  show (rx_int v / 4 + 2147483648) % 4294967296 ≤ 4294967295
  omega
/-- what an end of a contract gives -/
theorem lw_end {w : ax_W} {X : ax_X} {md : List (Nat × Nat)} {hp : rx_H} {n0 kd : Nat} {ps : List ax_T} {ρ : Nat → Nat} {o : rx_O} {need : List ax_N} (hk : kd = 0 ∨ kd = 1) (hpk : lw_pks kd need ps = true)
    (h : ∃ po ∈ ps, ∃ (ρ' : Nat → Nat) (r : Nat), (∀ k, k < n0 → ρ' k = ρ k) ∧ po.1 = [r] ∧ ax_ev po.2.1 ρ' r = some o.1 ∧ ax_EO w X ρ' po.2 o.2.1 ∧ ax_HT w o.2.1 ∧ ax_HR w md hp o.2.1 ∧ o.2.2 = []) : o.2.2 = [] ∧ o.1 % 4 = kd ∧ ax_HT w o.2.1 ∧ ax_HR w md hp o.2.1 ∧ ∃ (ρ' : Nat → Nat) (po : ax_T), ax_EO w X ρ' po.2 o.2.1 ∧ ∀ x ∈ need, x ∈ po.2.2.2.2.2 := by
  obtain ⟨po, hpo, ρ', r, p1, p2, p3, p4, p5, p6, p7⟩ := h
  have hz := List.all_eq_true.mp hpk po hpo
  obtain ⟨z1, z2⟩ := rx_and2.mp hz
  rw [p2] at z1
  dsimp only at z1
  refine ⟨p7, ?_, p5, p6, ρ', po, p4, fun x hx => lw_hs_ok (List.all_eq_true.mp z2 x hx)⟩
  rcases hk with rfl | rfl
  · exact (ax_isK0 p4 z1 p3).1
  · exact ax_isK1 p4 z1 p3
theorem lw_gx {w : ax_W} {X : ax_X} {ρ : Nat → Nat} {E : ax_E} {hp : rx_H} (hE : ax_EO w X ρ E hp) {x : Nat} {vs : List Nat} (hx : x < 500) (hc : vs.map (ax_vl ρ) = vs) (h : (x, vs) ∈ E.2.2.2.2) : X x vs hp := by
  have e := (ax_XF_lt hx).mp (ax_gx hE (x, vs) h)
  dsimp only at e
  rw [hc] at e
  exact e
theorem lw_80 {ρ : Nat → Nat} : ([80] : List Nat).map (ax_vl ρ) = [80] := by
  show [ax_vl ρ 80] = [80]
  rw [ax_vl_c (by decide)]
theorem lw_gx5 {b : Nat} {w : ax_W} {ρ : Nat → Nat} {E : ax_E} {hp : rx_H} (hE : ax_EO w (ax_XM b) ρ E hp) (h : ∀ x ∈ lw_GL, x ∈ E.2.2.2.2) : lw_XM5 b hp :=
  ⟨lw_gx hE (by decide) lw_80 (h _ (by simp [lw_GL])), lw_gx hE (by decide) rfl (h _ (by simp [lw_GL])), lw_gx hE (by decide) rfl (h _ (by simp [lw_GL])), lw_gx hE (by decide) rfl (h _ (by simp [lw_GL])), lw_gx hE (by decide) rfl (h _ (by simp [lw_GL]))⟩
/-- named facts with no symbols -/
theorem lw_NO {X : ax_X} {n : Nat} {ρ : Nat → Nat} {hp : rx_H} {x : Nat} {vs : List Nat} (hx : x < 500) (hc : vs.map (ax_ev n ρ) = vs.map some) (h : X x vs hp) : ax_NO X n ρ hp (x, vs) := ⟨vs, hc, (ax_XF_lt hx).mpr h⟩
theorem lw_80e {n : Nat} {ρ : Nat → Nat} : ([80] : List Nat).map (ax_ev n ρ) = ([80] : List Nat).map some := by
  show [ax_ev n ρ 80] = [some 80]
  rw [ax_ev_c (by decide)]
theorem lw_NO5 {b n : Nat} {ρ : Nat → Nat} {hp : rx_H} (h : lw_XM5 b hp) : ∀ x ∈ lw_GL, ax_NO (ax_XM b) n ρ hp x := by
  obtain ⟨h0, h1, h2, h3, h4⟩ := h
  intro x hx
  simp only [lw_GL, List.mem_cons, List.not_mem_nil, or_false] at hx
  rcases hx with rfl | rfl | rfl | rfl | rfl
  · exact lw_NO (by decide) lw_80e h0
  · exact lw_NO (by decide) rfl h1
  · exact lw_NO (by decide) rfl h2
  · exact lw_NO (by decide) rfl h3
  · exact lw_NO (by decide) rfl h4
theorem lw_rep {n j : Nat} {this : List ax_Y} {t : ax_Y} (h : (List.replicate n lw_any ++ this)[j]? = some t) : (j < n ∧ t = lw_any) ∨ (n ≤ j ∧ this[j - n]? = some t) := by
  rcases Nat.lt_or_ge j n with hj | hj
  · rw [List.getElem?_append_left (by simpa using hj), List.getElem?_replicate, if_pos hj] at h
    exact Or.inl ⟨hj, (Option.some.inj h).symm⟩
  · rw [List.getElem?_append_right (by simpa using hj)] at h
    exact Or.inr ⟨hj, by simpa using h⟩
theorem lw_EOc {hp : rx_H} {vals : List Nat} (hv : ∀ v ∈ vals, v < 4294967296) (h0 : ax_XC 0 [80] hp) : ax_EO ax_wC ax_XC (lw_ro (10 :: vals.map rx_int)) (lw_pre [(2, 0, 0)] [(0, [80])] vals.length) hp := by
  refine ⟨by simp [lw_pre], fun k t hk ht => ?_, (fun f hf => by cases hf), (fun d hd => by cases hd), fun x hx => ?_⟩
  · replace hk : k < vals.length + 1 := hk
    replace ht : (List.replicate vals.length lw_any ++ [(2, 0, 0)])[vals.length + 1 - 1 - k]? = some t := ht
    rcases lw_rep ht with ⟨h1, rfl⟩ | ⟨h1, h2⟩
    · have hk1 : k - 1 < vals.length := by omega
      have e : lw_ro (10 :: vals.map rx_int) k = rx_int vals[k - 1] := by
        obtain ⟨j, rfl⟩ : ∃ j, k = j + 1 := ⟨k - 1, by omega⟩
        show (10 :: vals.map rx_int).getD (j + 1) 0 = _
        rw [List.getD_cons_succ, List.getD_eq_getElem?_getD, List.getElem?_map, List.getElem?_eq_getElem (by omega)]
        rfl
      rw [e]
      exact lw_int_ok (hv _ (List.getElem_mem hk1))
    · have hk0 : k = 0 := by omega
      subst hk0
      rw [show vals.length + 1 - 1 - 0 - vals.length = 0 by omega] at h2
      cases h2
      exact Or.inr (Or.inr (Or.inl ⟨rfl, (show 10 % 4 = 2 from rfl), (show 2 ≤ 10 / 4 by decide), (show 10 / 4 < 258 by decide), (show ax_wC.1[10 / 4 - 2]? = some 0 from rfl)⟩))
  · cases List.mem_singleton.mp hx
    exact lw_NO (by decide) lw_80e h0
theorem lw_EOm {b : Nat} {wM : ax_W} {hp : rx_H} {vals : List Nat} (hv : ∀ v ∈ vals, v < 4294967296) (h0 : lw_XM5 b hp) : ax_EO wM (ax_XM b) (lw_ro (vals.map rx_int)) (lw_pre [] lw_GL vals.length) hp := by
  refine ⟨by simp [lw_pre], fun k t hk ht => ?_, (fun f hf => by cases hf), (fun d hd => by cases hd), fun x hx => lw_NO5 h0 x hx⟩
  replace hk : k < vals.length + 0 := hk
  replace ht : (List.replicate vals.length lw_any ++ [])[vals.length + 0 - 1 - k]? = some t := ht
  rcases lw_rep ht with ⟨h1, rfl⟩ | ⟨h1, h2⟩
  · have hk1 : k < vals.length := by omega
    have e : lw_ro (vals.map rx_int) k = rx_int vals[k] := by
      show (vals.map rx_int).getD k 0 = _
      rw [List.getD_eq_getElem?_getD, List.getElem?_map, List.getElem?_eq_getElem hk1]
      rfl
    rw [e]
    exact lw_int_ok (hv _ (List.getElem_mem hk1))
  · cases h2
/-- what a call of one side leaves -/
noncomputable def lw_fC (hp hp' : rx_H) : Prop := ∃ md : List (Nat × Nat), md.all (fun x => lw_isC x.1) = true ∧ ax_HR ax_wC md hp hp'
noncomputable def lw_fM (hp hp' : rx_H) : Prop := ∃ md : List (Nat × Nat), md.all (fun x => !(lw_isC x.1)) = true ∧ ax_HR ax_wC md hp hp'
section LWO
variable {l : Launch} {cy : Nat → ClassId} {D : va_G} {q : rx_M} {hp : rx_H} {kd : Nat} {vals : List Nat}
noncomputable def lw_QC (kd : Nat) (hp : rx_H) (o : rx_O) : Prop := o.2.2 = [] ∧ o.1 % 4 = kd ∧ lw_J o.2.1 ∧ lw_fC hp o.2.1
noncomputable def lw_QM (kd : Nat) (hp : rx_H) (o : rx_O) : Prop := o.2.2 = [] ∧ o.1 % 4 = kd ∧ lw_J o.2.1 ∧ lw_fM hp o.2.1
theorem lw_ordC {C : ax_C} (hCon : ax_Con ax_wC ax_XC rx_P (rx_DF, rx_FK) q C) (hk : kd = 0 ∨ kd = 1) (hv : ∀ v ∈ vals, v < 4294967296) (hE : C.1.2 = lw_pre [(2, 0, 0)] [(0, [80])] vals.length) (hm : C.1.1.map (ax_ev C.1.2.1 (lw_ro (10 :: vals.map rx_int))) = (10 :: vals.map rx_int).map some)
    (hpo : lw_pks kd [(0, [80])] C.2.2 = true) (hmd : lw_kC C.2.1 = true) (hJ : lw_J hp) : ax_Wp rx_P (rx_DF, rx_FK) q (0, rx_args (10 :: vals.map rx_int) (rx_mL (rx_n q)), [], hp, [], 0, 0) (lw_QC kd hp) := by
  have m1 := (rx_and2.mp hmd).1
  have hx0 : ax_XC 0 [80] hp := by rcases hJ with h | h <;> exact h.1.2.1
  refine ax_wp_mono (hCon _ hp _ hm (by rw [hE]; exact lw_EOc hv hx0) hJ.T) (fun o ho => ?_)
  obtain ⟨e1, e2, e3, e4, ρ', po, e5, e6⟩ := lw_end hk hpo ho
  have x0 := lw_gx e5 (by decide) lw_80 (e6 _ List.mem_cons_self)
  refine ⟨e1, e2, ?_, _, m1, e4⟩
  rcases hJ with ⟨hB, hS⟩ | ⟨hB, hS⟩
  · exact Or.inl ⟨lw_cls lw_W0 hB e3 x0 e4 m1, lw_SC hS hB.1 e4 hmd⟩
  · exact Or.inr ⟨lw_cls lw_W1 hB e3 x0 e4 m1, lw_SC hS hB.1 e4 hmd⟩
/-- of one bank -/
theorem lw_ordM1 {b : Nat} {wM : ax_W} {C : ax_C} (w : lw_W b wM) (hCon : ax_Con wM (ax_XM b) rx_P (rx_DF, rx_FK) q C) (hk : kd = 0 ∨ kd = 1) (hv : ∀ v ∈ vals, v < 4294967296) (hE : C.1.2 = lw_pre [] lw_GL vals.length) (hm : C.1.1.map (ax_ev C.1.2.1 (lw_ro (vals.map rx_int))) = (702 :: vals.map rx_int).map some)
    (hpo : lw_pks kd lw_GL C.2.2 = true) (hmd : lw_kM C.2.1 = true) (hK : lw_K b wM hp) : ax_Wp rx_P (rx_DF, rx_FK) q (0, rx_args (702 :: vals.map rx_int) (rx_mL (rx_n q)), [], hp, [], 0, 0) (fun o => o.2.2 = [] ∧ o.1 % 4 = kd ∧ lw_K b wM o.2.1 ∧ lw_fM hp o.2.1) := by
  have m1 := (rx_and2.mp hmd).1
  obtain ⟨hB, hS⟩ := hK
  refine ax_wp_mono (hCon _ hp _ hm (by rw [hE]; exact lw_EOm hv hB.2.2.2) hB.2.2.1) (fun o ho => ?_)
  obtain ⟨e1, e2, e3, e4, ρ', po, e5, e6⟩ := lw_end hk hpo ho
  have e4' : ax_HR ax_wC C.2.1 hp o.2.1 := ay_HRw w.1.symm e4
  exact ⟨e1, e2, ⟨lw_mod w hB e3 (lw_gx5 e5 e6) e4' m1, lw_SM hS hB.1 e4' hmd⟩, _, m1, e4'⟩
theorem lw_ordM {C0 C1 : ax_C} (h0 : ax_Con ax_wM0 (ax_XM 0) rx_P (rx_DF, rx_FK) q C0) (h1 : ax_Con ax_wM1 (ax_XM 1) rx_P (rx_DF, rx_FK) q C1) (hk : kd = 0 ∨ kd = 1) (hv : ∀ v ∈ vals, v < 4294967296)
    (hE0 : C0.1.2 = lw_pre [] lw_GL vals.length) (hm0 : C0.1.1.map (ax_ev C0.1.2.1 (lw_ro (vals.map rx_int))) = (702 :: vals.map rx_int).map some) (hpo0 : lw_pks kd lw_GL C0.2.2 = true) (hmd0 : lw_kM C0.2.1 = true)
    (hE1 : C1.1.2 = lw_pre [] lw_GL vals.length) (hm1 : C1.1.1.map (ax_ev C1.1.2.1 (lw_ro (vals.map rx_int))) = (702 :: vals.map rx_int).map some) (hpo1 : lw_pks kd lw_GL C1.2.2 = true) (hmd1 : lw_kM C1.2.1 = true) (hJ : lw_J hp) : ax_Wp rx_P (rx_DF, rx_FK) q (0, rx_args (702 :: vals.map rx_int) (rx_mL (rx_n q)), [], hp, [], 0, 0) (lw_QM kd hp) := by
  rcases hJ with hK | hK
  · exact ax_wp_mono (lw_ordM1 lw_W0 h0 hk hv hE0 hm0 hpo0 hmd0 hK) (fun o h => ⟨h.1, h.2.1, Or.inl h.2.2.1, h.2.2.2⟩)
  · exact ax_wp_mono (lw_ordM1 lw_W1 h1 hk hv hE1 hm1 hpo1 hmd1 hK) (fun o h => ⟨h.1, h.2.1, Or.inr h.2.2.1, h.2.2.2⟩)
end LWO
end
section
/-! The relation between calls -/
noncomputable def lw_R (hp : rx_H) : Prop := fx_H fx_w rx_FK fx_FZ hp ∧ ∃ (nn L : Nat) (E C : Nat → Nat) (N R : Nat), lr (fx_hp hp) (fx_hp hp) nn L E C N R
noncomputable def lw_JR (hp : rx_H) : Prop := lw_J hp ∧ lw_R hp
theorem lw_wC : ax_wC.1 = fx_w.1 := rfl
noncomputable def lw_plB (q : Nat) : Bool := match rx_nth fx_w.1 q with
  | none => true
  | some g => bif Nat.ble 173 q then !(lw_isC g) else lw_isC g
theorem lw_pl_all : lw_alln lw_plB 256 = true := by decide +kernel
theorem lw_pl_len : fx_w.1.length ≤ 256 := by decide +kernel
theorem lw_pl_at {q g : Nat} (h : fx_w.1[q]? = some g) : (173 ≤ q → lw_isC g = false) ∧ (q < 173 → lw_isC g = true) := by
  have hq : q < 256 := Nat.lt_of_lt_of_le (List.getElem?_eq_some_iff.mp h).1 lw_pl_len
  have a := lw_alln_ok lw_pl_all q hq
  unfold lw_plB at a
  rw [rx_nth_eq, h] at a
  replace a : (bif Nat.ble 173 q then !(lw_isC g) else lw_isC g) = true := a
  refine ⟨fun z => ?_, fun z => ?_⟩
  · rw [rx_ble.mpr z, cond_true] at a
    cases hz : lw_isC g with
    | true => rw [hz] at a; cases a
    | false => rfl
  · rw [show Nat.ble 173 q = false from Bool.eq_false_iff.mpr (fun y => by have := rx_ble.mp y; omega), cond_false] at a
    exact a
section LWR2
variable {hp hp' h1 h2 : rx_H} {j : Nat} {q : rx_M} {s : Nat × Nat × Nat} {vals : List Nat} {o : rx_O}
theorem lw_frC (hT : ax_HT ax_wC hp) (hf : lw_fC hp hp') (h1 : fx_H fx_w rx_FK fx_FZ hp) (h2 : fx_H fx_w rx_FK fx_FZ hp') : ∀ p i, 175 ≤ p → fx_hp hp' p i = fx_hp hp p i := by
  intro p i hp
  obtain ⟨md, m, hR⟩ := hf
  exact lw_fxs lw_wC hT hR h1 h2 (fun g _ hg => lw_mem_md (S := lw_isC) m ((lw_pl_at (show fx_w.1[p - 2]? = some g from hg)).1 (by omega)))
theorem lw_frM (hT : ax_HT ax_wC hp) (hf : lw_fM hp hp') (h1 : fx_H fx_w rx_FK fx_FZ hp) (h2 : fx_H fx_w rx_FK fx_FZ hp') : ∀ p i, p < 175 → fx_hp hp' p i = fx_hp hp p i := by
  intro p i hp
  obtain ⟨md, m, hR⟩ := hf
  refine lw_fxs lw_wC hT hR h1 h2 (fun g h2' hg => lw_mem_md (S := fun g => !(lw_isC g)) m ?_)
  show (!(lw_isC g)) = false
  rw [(lw_pl_at (show fx_w.1[p - 2]? = some g from hg)).2 (by omega)]
  rfl
/-- what a run of the class tells -/
theorem lw_rnC (hq : rx_nth rx_P j = some q) (hs : rx_nth fx_SG j = some s) (hm : s.2.2 = rx_mL (rx_n q)) (hc : rx_nth fx_CV j = some true) (hv : ∀ v ∈ vals, v < 4294967296) (hT : ax_HT ax_wC hp) (hR : lw_R hp) (hf : lw_fC hp o.2.1) (hr : ∃ n, rx_run rx_P (rx_DF, rx_FK) n q (0, rx_args (10 :: vals.map rx_int) (rx_mL (rx_n q)), [], hp, [], 0, 0) = some [o]) : Cl j ((2, 2) :: vals.map (fun a => (0, a))) (fx_hp hp) (fx_d o.1) (fx_hp o.2.1) ∧ fx_H fx_w rx_FK fx_FZ o.2.1 ∧ ∀ p i, 175 ≤ p → fx_hp o.2.1 p i = fx_hp hp p i :=
  ⟨lw_cl hq hs hm rfl hv hR.1 hr, lw_hh hc hq rfl hv hR.1 hr, lw_frC hT hf hR.1 (lw_hh hc hq rfl hv hR.1 hr)⟩
theorem lw_rnM (hq : rx_nth rx_P j = some q) (hs : rx_nth fx_SG j = some s) (hm : s.2.2 = rx_mL (rx_n q)) (hc : rx_nth fx_CV j = some true) (hv : ∀ v ∈ vals, v < 4294967296) (hT : ax_HT ax_wC hp) (hR : fx_H fx_w rx_FK fx_FZ hp) (hf : lw_fM hp o.2.1) (hr : ∃ n, rx_run rx_P (rx_DF, rx_FK) n q (0, rx_args (702 :: vals.map rx_int) (rx_mL (rx_n q)), [], hp, [], 0, 0) = some [o]) : Cl j ((2, 175) :: vals.map (fun a => (0, a))) (fx_hp hp) (fx_d o.1) (fx_hp o.2.1) ∧ fx_H fx_w rx_FK fx_FZ o.2.1 ∧ ∀ p i, p < 175 → fx_hp o.2.1 p i = fx_hp hp p i :=
  ⟨lw_cl hq hs hm rfl hv hR hr, lw_hh hc hq rfl hv hR hr, lw_frM hT hf hR (lw_hh hc hq rfl hv hR hr)⟩
/-- behind both calls -/
theorem lw_two (hR : lw_R hp) (H2 : fx_H fx_w rx_FK fx_FZ h2) (c1 : ∀ p i, 175 ≤ p → fx_hp h1 p i = fx_hp hp p i) (c2 : ∀ p i, p < 175 → fx_hp h2 p i = fx_hp h1 p i) (hk : ∀ (nn L : Nat) (E C : Nat → Nat) (N R : Nat), lr (fx_hp hp) (fx_hp h1) nn L E C N R → lr (fx_hp h1) (fx_hp h2) nn L E C N R) : lw_R h2 := by
  obtain ⟨-, nn, L, E, C, N, R, h⟩ := hR
  exact ⟨H2, nn, L, E, C, N, R, lw_lrF (hk _ _ _ _ _ _ (lw_lrG h c1)) c2⟩
theorem lw_val {x y : fx_V} (hR : lw_R hp) (c1 : ∀ p i, 175 ≤ p → fx_hp h1 p i = fx_hp hp p i) (hk : ∀ (nn L : Nat) (E C : Nat → Nat) (N R : Nat), lr (fx_hp hp) (fx_hp h1) nn L E C N R → x = y) : x = y := by
  obtain ⟨-, nn, L, E, C, N, R, h⟩ := hR
  exact hk _ _ _ _ _ _ (lw_lrG h c1)
end LWR2
/-! The start, by the kernel -/
noncomputable def lw_fxv (FK : List (List Nat)) (FZ : List (List (Nat × Nat))) (q k : Nat) (f : List Nat) : Nat → Bool := List.rec (motive := fun _ => Nat → Bool) (fun _ => true) (fun v _ ih i => bif (!(Nat.beq (rx_tk v) 3) && ((!(Nat.beq (rx_tk v) 0) || Nat.blt (rx_pl v) 4294967296) && (Nat.beq (rx_tk v) (fx_tg FK k i) && ((!(Nat.beq (fx_fz FZ k i).1 1) || Nat.beq v (4 * (q + 2 + (fx_fz FZ k i).2) + 2)) && (!(Nat.beq (fx_fz FZ k i).1 2) || Nat.beq v (4 * (fx_fz FZ k i).2 + 2)))))) then ih (Nat.succ i) else false) f
theorem lw_or_imp {a b : Bool} (h : (!a || b) = true) : a = true → b = true := fun z => by rw [z] at h; exact h
theorem lw_fxv_ok {FK : List (List Nat)} {FZ : List (List (Nat × Nat))} {q k : Nat} : ∀ {f : List Nat} {i : Nat}, lw_fxv FK FZ q k f i = true → ∀ j v : Nat, f[j]? = some v → fx_ft FK FZ q k (i + j) v
  | [], i, _, j, v, hj => by simp at hj
  | x :: f, i, h, j, v, hj => by
    replace h : (bif (!(Nat.beq (rx_tk x) 3) && ((!(Nat.beq (rx_tk x) 0) || Nat.blt (rx_pl x) 4294967296) && (Nat.beq (rx_tk x) (fx_tg FK k i) && ((!(Nat.beq (fx_fz FZ k i).1 1) || Nat.beq x (4 * (q + 2 + (fx_fz FZ k i).2) + 2)) && (!(Nat.beq (fx_fz FZ k i).1 2) || Nat.beq x (4 * (fx_fz FZ k i).2 + 2)))))) then lw_fxv FK FZ q k f (i + 1) else false) = true := h
    rcases ax_condY h with ⟨h0, h⟩ | ⟨-, h⟩
    · cases j with
      | zero =>
        cases hj
        obtain ⟨a1, h0⟩ := rx_and2.mp h0
        obtain ⟨a2, h0⟩ := rx_and2.mp h0
        obtain ⟨a3, h0⟩ := rx_and2.mp h0
        obtain ⟨a4, a5⟩ := rx_and2.mp h0
        refine ⟨⟨fun z => ?_, fun z => rx_blt.mp (lw_or_imp a2 (rx_beq.mpr z))⟩, rx_beq.mp a3, fun z => rx_beq.mp (lw_or_imp a4 (rx_beq.mpr z)), fun z => rx_beq.mp (lw_or_imp a5 (rx_beq.mpr z))⟩
        rw [show Nat.beq (rx_tk x) 3 = true from rx_beq.mpr z] at a1
        cases a1
      | succ j => rw [show i + (j + 1) = i + 1 + j by omega]; exact lw_fxv_ok h j v (by simpa using hj)
    · cases h
noncomputable def lw_fxc (hp : rx_H) (q : Nat) : Bool := match rx_hg hp q with
  | none => true
  | some (k, n, f) => Nat.beq (rx_len f) n && ((match rx_nth fx_w.1 q with
    | some g => (match rx_nth fx_w.2.1 g with
      | some (k2, n2, _) => Nat.beq k2 k && Nat.beq n2 n
      | none => false)
    | none => false) && lw_fxv rx_FK fx_FZ q k f 0)
noncomputable def lw_fxh (hp : rx_H) : Bool := Nat.ble hp.1 256 && lw_alln (lw_fxc hp) 256
theorem lw_fxh_ok {hp : rx_H} (h : lw_fxh hp = true) : fx_H fx_w rx_FK fx_FZ hp := by
  obtain ⟨h1, h2⟩ := rx_and2.mp h
  have h1 := rx_ble.mp h1
  refine ⟨h1, fun q k n f e => ?_⟩
  have hc := lw_alln_ok h2 q (Nat.lt_of_lt_of_le (rx_hg_lt e) h1)
  unfold lw_fxc at hc
  rw [e] at hc
  replace hc : (Nat.beq (rx_len f) n && ((match rx_nth fx_w.1 q with
    | some g => (match rx_nth fx_w.2.1 g with
      | some (k2, n2, _) => Nat.beq k2 k && Nat.beq n2 n
      | none => false)
    | none => false) && lw_fxv rx_FK fx_FZ q k f 0)) = true := hc
  obtain ⟨c1, hc⟩ := rx_and2.mp hc
  obtain ⟨c2, c3⟩ := rx_and2.mp hc
  refine ⟨by rw [← rx_len_eq]; exact rx_beq.mp c1, ?_, fun i v hv => by have := lw_fxv_ok c3 i v hv; rw [Nat.zero_add] at this; exact this⟩
  rw [rx_nth_eq] at c2
  cases e1 : fx_w.1[q]? with
  | none => rw [e1] at c2; cases c2
  | some g =>
    rw [e1] at c2
    dsimp only at c2
    rw [rx_nth_eq] at c2
    cases e2 : fx_w.2.1[g]? with
    | none => rw [e2] at c2; cases c2
    | some y =>
      obtain ⟨k2, n2, l⟩ := y
      rw [e2] at c2
      obtain ⟨d1, d2⟩ := rx_and2.mp c2
      have d1 : k2 = k := rx_beq.mp d1
      have d2 : n2 = n := rx_beq.mp d2
      subst d1
      subst d2
      exact ⟨g, l, rfl, e2⟩
noncomputable def lw_z2 (hp : rx_H) (p i v : Nat) : Bool := Nat.beq (fx_hp hp p i) v
noncomputable def lw_cells : List (Nat × Nat × Nat) := [(3, 0, 0), (3, 1, 0), (3, 5, 0), (3, 3, 1), (6, 0, 0), (175, 9, 0), (177, 0, 0), (178, 0, 0), (182, 0, 0), (180, 0, 1), (2, 13, 160), (51, 1, 0), (51, 2, 0), (51, 3, 0), (175, 56, 0), (175, 57, 0), (158, 0, 165), (158, 1, 170), (159, 0, 0), (159, 1, 0), (206, 0, 0), (206, 1, 0), (160, 0, 0), (160, 1, 0), (160, 2, 0), (160, 3, 0), (176, 40, 0), (176, 101, 0), (24, 1, 0), (24, 2, 0), (24, 3, 0), (24, 4, 0), (32, 1, 0), (32, 2, 0), (32, 3, 0), (32, 4, 0)]
noncomputable def lw_chkR (hp : rx_H) : Bool := lw_fxh hp && (lw_cells.all (fun x => lw_z2 hp x.1 x.2.1 x.2.2) && (lw_alln (fun i => lw_z2 hp 52 i (53 + 5 * i)) 20 && lw_alln (fun j => lw_z2 hp 161 j 4294967295 && lw_z2 hp 176 (41 + j) 0) 12))
theorem lw_chkR_ok {hp : rx_H} (h : lw_chkR hp = true) : lw_R hp := by
  obtain ⟨h1, h⟩ := rx_and2.mp h
  obtain ⟨h2, h⟩ := rx_and2.mp h
  obtain ⟨h3, h4⟩ := rx_and2.mp h
  have c : ∀ p i v, (p, i, v) ∈ lw_cells → fx_hp hp p i = v := fun p i v hm => rx_beq.mp (List.all_eq_true.mp h2 _ hm)
  have s : ∀ i, i < 20 → fx_hp hp 52 i = 53 + 5 * i := fun i hi => rx_beq.mp (lw_alln_ok h3 i hi)
  have a : ∀ j, j < 12 → fx_hp hp 161 j = 4294967295 ∧ fx_hp hp 176 (41 + j) = 0 := fun j hj => by
    obtain ⟨x, y⟩ := rx_and2.mp (lw_alln_ok h4 j hj)
    exact ⟨rx_beq.mp x, rx_beq.mp y⟩
  have b9 : fx_hp hp 175 9 = 0 := c _ _ _ (by decide +kernel)
  have n13 : fx_hp hp 2 13 = 160 := c _ _ _ (by decide +kernel)
  have u1 : fx_hp hp 51 1 = 0 := c _ _ _ (by decide +kernel)
  have u2 : fx_hp hp 51 2 = 0 := c _ _ _ (by decide +kernel)
  have u3 : fx_hp hp 51 3 = 0 := c _ _ _ (by decide +kernel)
  have x40 : fx_hp hp 176 40 = 0 := c _ _ _ (by decide +kernel)
  have k6 : fx_hp hp 6 0 = 0 := c _ _ _ (by decide +kernel)
  refine ⟨lw_fxh_ok h1, 0, 0, fun _ => 0, fun _ => 0, 0, 1, ⟨⟨by decide, by decide, fun j hj => absurd hj (by omega)⟩, ⟨by decide, fun k hk => absurd hk (by omega)⟩, fun z => absurd rfl z, by decide⟩, ⟨⟨c _ _ _ (by decide +kernel), c _ _ _ (by decide +kernel), fun x hx => absurd hx (by omega)⟩, ⟨fun w hw => ?_, fun w hw => absurd hw (by omega)⟩, ⟨c _ _ _ (by decide +kernel), fun k hk => absurd hk (by omega)⟩, c _ _ _ (by decide +kernel)⟩, ⟨⟨by rw [b9]; decide, by rw [b9]; exact c _ _ _ (by decide +kernel), by rw [b9]; exact c _ _ _ (by decide +kernel), fun j hj => absurd hj (by omega)⟩, ⟨by rw [b9]; exact c _ _ _ (by decide +kernel), fun k hk => absurd hk (by omega)⟩, by rw [b9]; exact c _ _ _ (by decide +kernel)⟩, ⟨⟨⟨?_, fun i hi => ?_, fun i j hi hj e => ?_⟩, ⟨by rw [u1]; decide, by rw [u2, u3]; decide, by rw [u2]; exact c _ _ _ (by decide +kernel), by rw [u3]; exact c _ _ _ (by decide +kernel)⟩, fun i hi => ?_, ⟨c _ _ _ (by decide +kernel), c _ _ _ (by decide +kernel)⟩, fun b hb => ?_⟩, ?_⟩, ⟨⟨?_, ?_, fun z => absurd (c 24 3 0 (by decide +kernel)) z⟩, fun z => absurd (c 24 4 0 (by decide +kernel)) z⟩, ⟨⟨?_, ?_, fun z => absurd (c 32 3 0 (by decide +kernel)) z⟩, fun z => absurd (c 32 4 0 (by decide +kernel)) z⟩⟩
  · rw [show w = 0 by omega, k6]; decide
  · rw [n13]; exact Or.inr rfl
  · rw [s i hi, n13]
    exact ⟨Or.inl ⟨by omega, by omega, by omega⟩, by omega⟩
  · rw [s i hi, s j hj] at e
    omega
  · rw [u2, u3] at hi
    exact absurd hi (by omega)
  · have : b = 0 ∨ b = 1 := by omega
    rcases this with e | e
    · subst e
      have g0 : fx_hp hp 206 0 = 0 := c _ _ _ (by decide +kernel)
      exact ⟨by rw [g0, c 159 0 0 (by decide +kernel)], fun z => absurd g0 z⟩
    · subst e
      have g0 : fx_hp hp 206 1 = 0 := c _ _ _ (by decide +kernel)
      exact ⟨by rw [g0, c 159 1 0 (by decide +kernel)], fun z => absurd g0 z⟩
  · rw [n13]
    refine ⟨⟨by rw [x40]; exact c _ _ _ (by decide +kernel), by rw [x40]; decide, Or.inr rfl⟩, ⟨by rw [c 160 1 0 (by decide +kernel)]; decide, fun l hl => absurd hl (by omega)⟩, ⟨by rw [c 160 2 0 (by decide +kernel)]; decide, fun l hl => absurd hl (by omega)⟩, ?_, fun j hj => Or.inl (a j hj)⟩
    rw [c 160 3 0 (by decide +kernel), c 176 101 0 (by decide +kernel)]
  · rw [c 24 1 0 (by decide +kernel)]; decide
  · rw [c 24 2 0 (by decide +kernel)]; decide
  · rw [c 32 1 0 (by decide +kernel)]; decide
  · rw [c 32 2 0 (by decide +kernel)]; decide
end
section
/-! feed, end, net: what becomes of the sizes -/
noncomputable def lw_c (cs : List ax_C) (k : Nat) : ax_C := cs.getD k (([], (0, [], [], [], [])), [], [])
theorem lw_szT {hp : rx_H} {s : Nat} (hT : ax_HT ax_wC hp) (h : ay_at hp 8 1 = some s) : ∃ n, s = 4 * n ∧ n ≤ 800 := by
  obtain ⟨k, n, tl, f, b1, b2, b3, b4⟩ := hT.2 8 2 rfl
  rw [ay_eq b2] at h
  obtain ⟨t, t1, t2⟩ := b4 1 s h
  have e : (ax_wC.2.1[2]?).map (fun z => ax_at z.2.2 1) = some (some (0, 2147483648, 2147484448)) := rfl
  rw [b1] at e
  have e := Option.some.inj e
  dsimp only at e
  rw [t1] at e
  cases e
  rcases t2 with ⟨-, q1, q2, q3, q4⟩ | ⟨q, -⟩ | ⟨q, -⟩ | ⟨q, -⟩
  · replace q3 : 2147483648 ≤ rx_bi (s / 4) := q3
    replace q4 : rx_bi (s / 4) ≤ 2147484448 := q4
    obtain ⟨z1, z2⟩ := ax_bi_pos q2 q3
    exact ⟨s / 4, by omega, by omega⟩
  · cases q
  · cases q
  · cases q
theorem lw_EOf {w : ax_W} {X : ax_X} {hp : rx_H} {vals : List Nat} {ty : List ax_Y} {t : ax_Y} {x a i q j : Nat} {need : List ax_N} (hl : ty.length = vals.length) (hty : ∀ (k : Nat) (u : ax_Y), ty[k]? = some u → ax_ok w u (rx_int (vals.getD k 0))) (ht : ax_ok w t x) (ea : a = 4 * (q + 2) + 2) (ei : i = 4 * j) (hc : ay_at hp q j = some x)
    (hN : ∀ y ∈ need, ax_NO X (vals.length + 1) (lw_ro (vals.map rx_int ++ [x])) hp y) : ax_EO w X (lw_ro (vals.map rx_int ++ [x])) (vals.length + 1, t :: ty.reverse, [(a, i, 4 * vals.length + 3)], [], need) hp := by
  have en : lw_ro (vals.map rx_int ++ [x]) vals.length = x := by
    show (vals.map rx_int ++ [x]).getD vals.length 0 = x
    rw [List.getD_eq_getElem?_getD, List.getElem?_append_right (by simp)]
    simp
  refine ⟨by simp [hl], fun k u hk hu => ?_, fun f hf => ?_, (fun d hd => by cases hd), hN⟩
  · replace hk : k < vals.length + 1 := hk
    replace hu : (t :: ty.reverse)[vals.length + 1 - 1 - k]? = some u := hu
    rcases Nat.lt_or_ge k vals.length with h1 | h1
    · rw [show vals.length + 1 - 1 - k = (vals.length - 1 - k) + 1 by omega, List.getElem?_cons_succ, List.getElem?_reverse (by omega), hl, show vals.length - 1 - (vals.length - 1 - k) = k by omega] at hu
      have e : lw_ro (vals.map rx_int ++ [x]) k = rx_int (vals.getD k 0) := by
        show (vals.map rx_int ++ [x]).getD k 0 = _
        rw [List.getD_eq_getElem?_getD, List.getElem?_append_left (by simpa using h1), List.getElem?_map, List.getD_eq_getElem?_getD, List.getElem?_eq_getElem h1]
        rfl
      rw [e]
      exact hty k u hu
    · have hk0 : k = vals.length := by omega
      subst hk0
      rw [show vals.length + 1 - 1 - vals.length = 0 by omega] at hu
      cases hu
      rw [en]
      exact ht
  · cases List.mem_singleton.mp hf
    cases e : rx_hg hp q with
    | none =>
      unfold ay_at at hc
      rw [e] at hc
      cases hc
    | some cl =>
      obtain ⟨kk, m, f⟩ := cl
      rw [ay_eq e] at hc
      refine ⟨a, i, x, kk, m, f, (show ax_ev _ _ a = some a from ax_ev_c (by omega)), (show ax_ev _ _ i = some i from ax_ev_c (by omega)), ?_, by omega, by omega, by omega, by rw [show a / 4 - 2 = q by omega]; exact e, by rw [show i / 4 = j by omega]; exact hc⟩
      show ax_ev (vals.length + 1) (lw_ro (vals.map rx_int ++ [x])) (4 * vals.length + 3) = some x
      unfold ax_ev
      rw [if_pos (by omega), if_pos (by omega), show (4 * vals.length + 3) / 4 = vals.length by omega, en]
/-- the content of a cell that is told -/
theorem lw_FO {w : ax_W} {X : ax_X} {ρ : Nat → Nat} {E : ax_E} {hp : rx_H} {a i v q j : Nat} (hE : ax_EO w X ρ E hp) (h : (a, i, v) ∈ E.2.2.1) (ea : a = 4 * (q + 2) + 2) (ei : i = 4 * j) : ay_at hp q j = some (ax_vl ρ v) := by
  obtain ⟨a', i', v', k, m, f, e1, e2, e3, e4, e5, e6, e7, e8⟩ := hE.2.2.1 _ h
  rw [ax_ev_c (show a % 4 ≠ 3 by omega)] at e1
  rw [ax_ev_c (show i % 4 ≠ 3 by omega)] at e2
  have e1 := Option.some.inj e1
  have e2 := Option.some.inj e2
  subst e1
  subst e2
  rw [show a / 4 - 2 = q by omega] at e7
  rw [show i / 4 = j by omega] at e8
  rw [ay_eq e7, e8]
  have e3' : ax_ev E.1 ρ v = some v' := e3
  unfold ax_ev at e3'
  unfold ax_vl
  by_cases h3 : v % 4 = 3
  · rw [if_pos h3] at e3' ⊢
    by_cases hl : v / 4 < E.1
    · rw [if_pos hl] at e3'
      exact e3'.symm
    · rw [if_neg hl] at e3'; cases e3'
  · rw [if_neg h3] at e3' ⊢
    exact e3'.symm
theorem lw_ev_vl {n : Nat} {ρ : Nat → Nat} {v x : Nat} (h : ax_ev n ρ v = some x) : x = ax_vl ρ v := by
  unfold ax_ev at h
  unfold ax_vl
  by_cases h3 : v % 4 = 3
  · rw [if_pos h3] at h ⊢
    by_cases hl : v / 4 < n
    · rw [if_pos hl] at h
      exact (Option.some.inj h).symm
    · rw [if_neg hl] at h; cases h
  · rw [if_neg h3] at h ⊢
    exact (Option.some.inj h).symm
theorem lw_sum {w : ax_W} {X : ax_X} {ρ : Nat → Nat} {E : ax_E} {hp : rx_H} {p q r a m : Nat} (hE : ax_EO w X ρ E hp) (h : (1015, [p, q, r, 0]) ∈ E.2.2.2.2) (hq : q = 4 * m) (ha : ax_vl ρ p = 4 * a) (hm : a + m < 2147483648) : ax_vl ρ r = 4 * (a + m) := by
  obtain ⟨x, y, z, e1, e2, e3, l1, l2, l3, hs⟩ := ax_gs hE p q r h
  rw [ax_vl_c (show q % 4 ≠ 3 by omega)] at e2
  replace hs : (x + 2147483648) % 4294967296 + (y + 2147483648) % 4294967296 = (z + 2147483648) % 4294967296 + 2147483648 := hs
  rw [e3]
  omega
noncomputable def lw_fs (n : Nat) : Nat := if n ≤ 780 then n + 20 else n
noncomputable def lw_fa (n : Nat) : Nat := if n ≤ 780 then 4 * (n + 20) else 17179869180
noncomputable def lw_es (n a : Nat) : Nat := if a < 2147483648 ∧ a ≤ n then a else n
noncomputable def lw_ea (n a : Nat) : Nat := if a < 2147483648 ∧ a ≤ n then 4 * a else 17179869180
theorem lw_bi {n : Nat} (h : n < 2147483648) : rx_bi n = n + 2147483648 := by
  show (n + 2147483648) % 4294967296 = _
  omega
theorem lw_biN {n : Nat} (h : 2147483648 ≤ n) (h2 : n < 4294967296) : rx_bi n = n - 2147483648 := by
  show (n + 2147483648) % 4294967296 = _
  omega
theorem lw_ok4 {w : ax_W} {n lo hi : Nat} (h : n < 2147483648) (h1 : lo ≤ n + 2147483648) (h2 : n + 2147483648 ≤ hi) : ax_ok w (0, lo, hi) (4 * n) := by
  refine Or.inl ⟨rfl, by omega, by omega, ?_, ?_⟩
  · show lo ≤ rx_bi (4 * n / 4)
    rw [show 4 * n / 4 = n by omega, lw_bi h]
    exact h1
  · show rx_bi (4 * n / 4) ≤ hi
    rw [show 4 * n / 4 = n by omega, lw_bi h]
    exact h2
theorem lw_vl3 {ρ : Nat → Nat} {k : Nat} : ax_vl ρ (4 * k + 3) = ρ k := by
  unfold ax_vl
  rw [if_pos (by omega), show (4 * k + 3) / 4 = k by omega]
/-- symbols by a list -/
theorem lw_EOl {w : ax_W} {X : ax_X} {hp : rx_H} {vs : List Nat} {ts : List ax_Y} {fs : List (Nat × Nat × Nat)} {xf : List ax_N} (hl : ts.length = vs.length) (hty : ∀ (k : Nat) (u : ax_Y), ts[k]? = some u → ax_ok w u (vs.getD k 0)) (hf : ∀ f ∈ fs, ax_FO vs.length (lw_ro vs) hp f) (hN : ∀ y ∈ xf, ax_NO X vs.length (lw_ro vs) hp y) : ax_EO w X (lw_ro vs) (vs.length, ts.reverse, fs, [], xf) hp := by
  refine ⟨by simp [hl], fun k u hk hu => ?_, hf, (fun d hd => by cases hd), hN⟩
  replace hk : k < vs.length := hk
  replace hu : ts.reverse[vs.length - 1 - k]? = some u := hu
  rw [List.getElem?_reverse (by omega), hl, show vs.length - 1 - (vs.length - 1 - k) = k by omega] at hu
  exact hty k u hu
theorem lw_FOc {n a i q j m x : Nat} {hp : rx_H} {ρ : Nat → Nat} (ea : a = 4 * (q + 2) + 2) (ei : i = 4 * j) (hc : ay_at hp q j = some x) (hm : m < n) (hx : ρ m = x) : ax_FO n ρ hp (a, i, 4 * m + 3) := by
  cases e : rx_hg hp q with
  | none =>
    unfold ay_at at hc
    rw [e] at hc
    cases hc
  | some cl =>
    obtain ⟨kk, mm, f⟩ := cl
    rw [ay_eq e] at hc
    refine ⟨a, i, x, kk, mm, f, (show ax_ev _ _ a = some a from ax_ev_c (by omega)), (show ax_ev _ _ i = some i from ax_ev_c (by omega)), ?_, by omega, by omega, by omega, by rw [show a / 4 - 2 = q by omega]; exact e, by rw [show i / 4 = j by omega]; exact hc⟩
    show ax_ev n ρ (4 * m + 3) = some x
    unfold ax_ev
    rw [if_pos (by omega), if_pos (by omega), show (4 * m + 3) / 4 = m by omega, hx]
noncomputable def lw_fg (g a1 a2 a3 a4 a5 : Nat) : Nat := if pz_gN g ≤ 780 then pz_a20 a1 a2 a3 a4 a5 g 20 else g
noncomputable def lw_eg (g a : Nat) : Nat := if a < 2147483648 ∧ a ≤ pz_gN g then pz_cut g a else g
theorem lw_fg1 {g a1 a2 a3 a4 a5 : Nat} (h : g % 4 = 1) : lw_fg g a1 a2 a3 a4 a5 % 4 = 1 := by
  unfold lw_fg
  by_cases hn : pz_gN g ≤ 780
  · rw [if_pos hn]
    show pz_ap _ _ % 4 = 1
    rw [← pz_ap_4]
    omega
  · rw [if_neg hn]; exact h
theorem lw_eg1 {g a : Nat} (h : g % 4 = 1) : lw_eg g a % 4 = 1 := by
  unfold lw_eg
  by_cases hn : a < 2147483648 ∧ a ≤ pz_gN g
  · rw [if_pos hn, ← pz_cut_4]; omega
  · rw [if_neg hn]; exact h
/-- an int's cell -/
theorem lw_int {w : ax_W} {hp : rx_H} {q g j lo hi : Nat} (hT : ax_HT w hp) (hw : w.1[q]? = some g) (hn : ∃ n, (w.2.1[g]?).map (fun z => z.2.1) = some n ∧ j < n) (ht : (w.2.1[g]?).bind (fun z => ax_at z.2.2 j) = some (0, lo, hi)) : ∃ x, ay_at hp q j = some x ∧ x % 4 = 0 ∧ x / 4 < 4294967296 ∧ lo ≤ rx_bi (x / 4) ∧ rx_bi (x / 4) ≤ hi := by
  obtain ⟨n, h1, h2⟩ := hn
  obtain ⟨x, hx⟩ := ay_some hT hw h1 h2
  rcases ay_typ hT hw ht hx with ⟨-, h⟩ | ⟨h, -⟩ | ⟨h, -⟩ | ⟨h, -⟩
  · exact ⟨x, hx, h⟩
  · cases h
  · cases h
  · cases h
theorem lw_i4 (a : Nat) : rx_int a / 4 = a := by
  show 4 * a / 4 = a
  omega
theorem lw_3 {n : Nat} {ρ : Nat → Nat} (h : 0 < n) : ([3] : List Nat).map (ax_ev n ρ) = ([ρ 0] : List Nat).map some := by
  show [ax_ev n ρ 3] = [some (ρ 0)]
  unfold ax_ev
  rw [if_pos (by decide), if_pos h]
/-- two numbers are one -/
theorem lw_same {x y : Option Nat} {u v : Nat} (hx : x = some u) (hy : y = some v) (hu : u % 4 = 0) (hv : v % 4 = 0) (h : ay_ln x = ay_ln y) : x = y := by
  subst hx hy
  replace h : u / 4 = v / 4 := h
  exact congrArg some (by omega)
theorem lw_f63 {t N fa fp fa' fp' : Nat} (h : pz63 t N fa fp) (h' : pz63 t N fa' fp') : fa = fa' ∧ fp = fp' := by
  obtain ⟨n, h⟩ := h
  obtain ⟨m, h'⟩ := h'
  have e := pz_one (t := t) (N := N) (n := n) (m := m) (Or.inr (by rw [h]; rfl)) (Or.inr (by rw [h']; rfl))
  rw [h, h'] at e
  have e1 : pz_un (pz_fl fa fp) = pz_un (pz_fl fa' fp') := congrArg _ e
  have e2 : pz_no (pz_fl fa fp) = pz_no (pz_fl fa' fp') := congrArg _ e
  exact ⟨e1, e2⟩
theorem lw_f63no {g v fa fp : Nat} (h : pz63 (pz_gt g) (pz_gN g) fa fp) (h' : pz_x126 g v) : False := by
  obtain ⟨n, h⟩ := h
  obtain ⟨m, h', -⟩ := h'
  have e := pz_one (t := pz_gt g) (N := pz_gN g) (n := n) (m := m) (Or.inr (by rw [h]; rfl)) (Or.inl h')
  rw [h] at e
  have e1 : pz_md (pz_fl fa fp) = 20 := (congrArg pz_md e).trans h'
  cases e1
theorem lw_f126 {g v v' : Nat} (h : pz_x126 g v) (h' : pz_x126 g v') : v / 4 = v' / 4 := by
  obtain ⟨n, h1, h2⟩ := h
  obtain ⟨m, h1', h2'⟩ := h'
  have e := pz_one (t := pz_gt g) (N := pz_gN g) (n := n) (m := m) (Or.inl h1) (Or.inl h1')
  rw [e] at h2
  omega
section LWS
variable {l : Launch} {cy : Nat → ClassId} {D : va_G} {hp : rx_H} {b : Nat} {wM : ax_W}
/-- the net's answer: of the class, of the reference -/
noncomputable def lw_nC (g v : Nat) (hp : rx_H) : Prop := (v = 17179869180 ∧ pz63 (pz_gt g) (pz_gN g) (ay_ln (ay_at hp 8 3)) (ay_ln (ay_at hp 8 4))) ∨ (pz_x126 g v ∧ ay_ln (ay_at hp 8 3) = 0 ∧ ay_ln (ay_at hp 8 4) = 4294967295)
noncomputable def lw_nM (g v : Nat) (hp : rx_H) : Prop := (v = 17179869180 ∧ pz63 (pz_gt g) (pz_gN g) (ay_ln (ay_at hp 173 20)) (ay_ln (ay_at hp 173 21))) ∨ (pz_x126 g v ∧ ay_ln (ay_at hp 173 20) = 0 ∧ ay_ln (ay_at hp 173 21) = 4294967295)
theorem lw_net2 {g v v' : Nat} {hp : rx_H} (hT : ax_HT ax_wC hp) (h : lw_nC g v hp) (h' : lw_nM g v' hp) (hv : v % 4 = 0) (hv' : v' % 4 = 0) : v = v' ∧ lw_F hp := by
  obtain ⟨a, ha, ha1, -⟩ := lw_int hT (q := 8) (g := 2) (j := 3) rfl ⟨_, rfl, by decide⟩ rfl
  obtain ⟨c, hc, hc1, -⟩ := lw_int hT (q := 8) (g := 2) (j := 4) rfl ⟨_, rfl, by decide⟩ rfl
  obtain ⟨d, hd, hd1, -⟩ := lw_int hT (q := 173) (g := 11) (j := 20) rfl ⟨_, rfl, by decide⟩ rfl
  obtain ⟨e, he, he1, -⟩ := lw_int hT (q := 173) (g := 11) (j := 21) rfl ⟨_, rfl, by decide⟩ rfl
  rcases h with ⟨h1, h2⟩ | ⟨h1, h2, h3⟩
  · rcases h' with ⟨k1, k2⟩ | ⟨k1, k2, k3⟩
    · obtain ⟨z1, z2⟩ := lw_f63 h2 k2
      exact ⟨h1.trans k1.symm, lw_same ha hd ha1 hd1 z1, lw_same hc he hc1 he1 z2⟩
    · exact absurd (lw_f63no h2 k1) id
  · rcases h' with ⟨k1, k2⟩ | ⟨k1, k2, k3⟩
    · exact absurd (lw_f63no k2 h1) id
    · exact ⟨by have := lw_f126 h1 k1; omega, lw_same ha hd ha1 hd1 (h2.trans k2.symm), lw_same hc he hc1 he1 (h3.trans k3.symm)⟩
/-- a call of the class that leaves the fault and the draft's rows -/
theorem lw_clsS {hp' : rx_H} {md : List (Nat × Nat)} {g : Nat} (w : lw_W b wM) (hB : lw_B b wM hp) (h31 : lw_31 hp) (hF : lw_F hp) (hM : lw_x30M g hp) (h1 : ax_HT ax_wC hp') (h2 : ax_XC 0 [80] hp') (h3 : ax_HR ax_wC md hp hp') (m1 : md.all (fun x => lw_isC x.1) = true) (k2 : lw_nm md 2 3 = true) (k3 : lw_nm md 2 4 = true) (k4 : lw_nm md 1 6 = true) (k5 : lw_nm md 1 7 = true) (k6 : lw_nm md 1 10 = true) (k7 : lw_nm md 1 11 = true) : lw_B b wM hp' ∧ lw_31 hp' ∧ lw_F hp' ∧ lw_x30M g hp' ∧ lw_fC hp hp' := by
  have hT := hB.1
  obtain ⟨s1, s2⟩ := lw_sameM hT h3 m1
  have c := fun i h => lw_ayE (i := i) (q := 8) (g := 2) h3 (ax_cellT hT (g := 2) rfl) rfl (lw_nm_ok h)
  have d := fun i h => lw_ayE (i := i) (q := 10) (g := 1) h3 (ax_cellT hT (g := 1) rfl) rfl (lw_nm_ok h)
  refine ⟨lw_cls w hB h1 h2 h3 m1, ?_, ?_, ?_, _, m1, h3⟩
  · unfold lw_31 at *
    rw [d _ k4, d _ k5, d _ k6, d _ k7]
    exact h31
  · unfold lw_F at *
    rw [c _ k2, c _ k3, s1, s1]
    exact hF
  · unfold lw_x30M at *
    rw [s1, s2]
    exact hM
theorem lw_szC {g : Nat} (hT : ax_HT ax_wC hp) (hC : lw_x30C g hp) : ∃ n, n ≤ 800 ∧ n = pz_gN g ∧ ay_at hp 8 1 = some (4 * n) := by
  obtain ⟨x, hx, h1, h2, h3, h4⟩ := lw_int hT (q := 8) (g := 2) (j := 1) rfl ⟨_, rfl, by decide⟩ rfl
  have e := hC.1
  rw [hx] at e
  replace e : x / 4 = pz_gN g := e
  have hl := hC.2.1
  exact ⟨x / 4, by omega, e, by rw [hx]; exact congrArg some (by omega)⟩
theorem lw_xC {g : Nat} (hT : ax_HT ax_wC hp) (hC : lw_x30C g hp) : ax_XC 30 [g] hp := ⟨ax_cellT hT (g := 2) rfl, ax_cellT hT (g := 20) rfl, hC⟩
set_option maxHeartbeats 1000000 in
theorem lw_feedC (hA : ∀ B, ax_Low ax_wC ax_XC rx_P ax_APC rx_P (rx_DF, rx_FK) B) (w : lw_W b wM) (hB : lw_B b wM hp) (h31 : lw_31 hp) (hF : lw_F hp) {g a1 a2 a3 a4 a5 : Nat} (hg : g % 4 = 1) (hC : lw_x30C g hp) (hM : lw_x30M g hp) (hv : ∀ v ∈ [a1, a2, a3, a4, a5], v < 4294967296) :
    ax_Wp rx_P (rx_DF, rx_FK) rxm_109 (0, rx_args (10 :: [a1, a2, a3, a4, a5].map rx_int) (rx_mL (rx_n rxm_109)), [], hp, [], 0, 0) (fun o => o.2.2 = [] ∧ o.1 % 4 = 0 ∧ (lw_B b wM o.2.1 ∧ lw_31 o.2.1 ∧ lw_F o.2.1 ∧ lw_x30M g o.2.1 ∧ lw_fC hp o.2.1) ∧ lw_x30C (lw_fg g a1 a2 a3 a4 a5) o.2.1) := by
  have hL := (hA (rx_rf (rx_n rxm_109) + 1) 109 rxm_109 (axm_109, axc_109) rfl rfl).2 (Nat.lt_succ_self _)
  obtain ⟨n, n800, hn, hs⟩ := lw_szC hB.1 hC
  have hN : ∀ y ∈ ([(0, [80]), (30, [3])] : List ax_N), ax_NO ax_XC 7 (lw_ro [g, rx_int a1, rx_int a2, rx_int a3, rx_int a4, rx_int a5, 4 * n]) hp y := fun y hy => by
    rcases List.mem_cons.mp hy with e | hy
    · subst e; exact lw_NO (by decide) lw_80e hB.2.1
    · cases List.mem_singleton.mp hy
      exact ⟨[g], lw_3 (Nat.succ_pos _), (ax_XF_lt (x := 30) (by decide)).mpr (lw_xC hB.1 hC)⟩
  have ok : ∀ k, k < 5 → ax_ok ax_wC lw_any ([rx_int a1, rx_int a2, rx_int a3, rx_int a4, rx_int a5].getD k 0) := fun k hk => by
    match k, hk with
    | 0, _ => exact lw_int_ok (hv _ (by simp))
    | 1, _ => exact lw_int_ok (hv _ (by simp))
    | 2, _ => exact lw_int_ok (hv _ (by simp))
    | 3, _ => exact lw_int_ok (hv _ (by simp))
    | 4, _ => exact lw_int_ok (hv _ (by simp))
    | k + 5, h => omega
  have hE : ∀ t, ax_ok ax_wC t (4 * n) → ax_EO ax_wC ax_XC (lw_ro [g, rx_int a1, rx_int a2, rx_int a3, rx_int a4, rx_int a5, 4 * n]) (7, [t, lw_any, lw_any, lw_any, lw_any, lw_any, (1, 0, 0)], [(42, 4, 27)], [], [(0, [80]), (30, [3])]) hp := fun t ht =>
    lw_EOl (vs := [g, rx_int a1, rx_int a2, rx_int a3, rx_int a4, rx_int a5, 4 * n]) (ts := [(1, 0, 0), lw_any, lw_any, lw_any, lw_any, lw_any, t]) rfl (fun k u hu => by
      match k, hu with
      | 0, hu => cases hu; exact Or.inr (Or.inl ⟨rfl, hg⟩)
      | 1, hu => cases hu; exact ok 0 (by decide)
      | 2, hu => cases hu; exact ok 1 (by decide)
      | 3, hu => cases hu; exact ok 2 (by decide)
      | 4, hu => cases hu; exact ok 3 (by decide)
      | 5, hu => cases hu; exact ok 4 (by decide)
      | 6, hu => cases hu; exact ht
      | k + 7, hu => cases hu) (fun f hf => by
      cases List.mem_singleton.mp hf
      exact lw_FOc (m := 6) (q := 8) (j := 1) rfl rfl hs (show 6 < 7 by decide) rfl) hN
  by_cases hn' : n ≤ 780
  · refine ax_wp_mono (hL (lw_c axc_109 1) (List.mem_cons_of_mem _ List.mem_cons_self) _ hp _ rfl (hE (0, 2147483648, 2147484428) (lw_ok4 (n := n) (by omega) (by omega) (by omega))) hB.1) (fun o ho => ?_)
    obtain ⟨po, hpo, ρ', r, p1, p2, p3, p4, p5, p6, p7⟩ := ho
    replace hpo : po ∈ [_] := hpo
    have e := List.mem_singleton.mp hpo
    subst e
    cases p2
    have x0 : ax_XC 0 [80] o.2.1 := lw_gx p4 (by decide) lw_80 List.mem_cons_self
    have x30 : ax_XC 30 [ρ' 7] o.2.1 := (ax_XF_lt (by decide)).mp (ax_gx p4 (30, [31]) (List.mem_cons_of_mem _ List.mem_cons_self))
    have x37 : ρ' 7 = pz_a20 (ρ' 1 / 4) (ρ' 2 / 4) (ρ' 3 / 4) (ρ' 4 / 4) (ρ' 5 / 4) (ρ' 0) 20 := (ax_XF_lt (by decide)).mp (ax_gx p4 (37, [3, 7, 11, 15, 19, 23, 31]) (List.mem_cons_of_mem _ (List.mem_cons_of_mem _ List.mem_cons_self)))
    rw [p1 0 (by decide), p1 1 (by decide), p1 2 (by decide), p1 3 (by decide), p1 4 (by decide), p1 5 (by decide)] at x37
    replace x37 : ρ' 7 = pz_a20 (rx_int a1 / 4) (rx_int a2 / 4) (rx_int a3 / 4) (rx_int a4 / 4) (rx_int a5 / 4) g 20 := x37
    rw [lw_i4, lw_i4, lw_i4, lw_i4, lw_i4] at x37
    refine ⟨p7, (ax_isK0 p4 (v := 35) (by decide +kernel) p3).1, lw_clsS w hB h31 hF hM p5 x0 p6 (by decide +kernel) (by decide +kernel) (by decide +kernel) (by decide +kernel) (by decide +kernel) (by decide +kernel) (by decide +kernel), ?_⟩
    unfold lw_fg
    rw [if_pos (by omega), ← x37]
    exact x30.2.2
  · refine ax_wp_mono (hL (lw_c axc_109 0) List.mem_cons_self _ hp _ rfl (hE (0, 2147484429, 2147484448) (lw_ok4 (n := n) (by omega) (by omega) (by omega))) hB.1) (fun o ho => ?_)
    obtain ⟨po, hpo, ρ', r, p1, p2, p3, p4, p5, p6, p7⟩ := ho
    replace hpo : po ∈ [_] := hpo
    have e := List.mem_singleton.mp hpo
    subst e
    cases p2
    have x0 : ax_XC 0 [80] o.2.1 := lw_gx p4 (by decide) lw_80 List.mem_cons_self
    have x30 : ax_XC 30 [ρ' 0] o.2.1 := (ax_XF_lt (by decide)).mp (ax_gx p4 (30, [3]) (List.mem_cons_of_mem _ List.mem_cons_self))
    rw [p1 0 (by decide)] at x30
    refine ⟨p7, by rw [lw_ev_vl p3, ax_vl_c (by decide)], lw_clsS w hB h31 hF hM p5 x0 p6 (by decide +kernel) (by decide +kernel) (by decide +kernel) (by decide +kernel) (by decide +kernel) (by decide +kernel) (by decide +kernel), ?_⟩
    unfold lw_fg
    rw [if_neg (by omega)]
    exact x30.2.2
set_option maxHeartbeats 1000000 in
theorem lw_endC (hA : ∀ B, ax_Low ax_wC ax_XC rx_P ax_APC rx_P (rx_DF, rx_FK) B) (w : lw_W b wM) (hB : lw_B b wM hp) (h31 : lw_31 hp) (hF : lw_F hp) {g a : Nat} (hg : g % 4 = 1) (hC : lw_x30C g hp) (hM : lw_x30M g hp) (hv : a < 4294967296) :
    ax_Wp rx_P (rx_DF, rx_FK) rxm_39 (0, rx_args (10 :: [a].map rx_int) (rx_mL (rx_n rxm_39)), [], hp, [], 0, 0) (fun o => o.2.2 = [] ∧ o.1 % 4 = 0 ∧ (lw_B b wM o.2.1 ∧ lw_31 o.2.1 ∧ lw_F o.2.1 ∧ lw_x30M g o.2.1 ∧ lw_fC hp o.2.1) ∧ lw_x30C (lw_eg g a) o.2.1) := by
  have hL := (hA (rx_rf (rx_n rxm_39) + 1) 39 rxm_39 (axm_39, axc_39) rfl rfl).2 (Nat.lt_succ_self _)
  obtain ⟨n, n800, hn, hs⟩ := lw_szC hB.1 hC
  have hN : ∀ y ∈ ([(0, [80]), (30, [3])] : List ax_N), ax_NO ax_XC 3 (lw_ro [g, rx_int a, 4 * n]) hp y := fun y hy => by
    rcases List.mem_cons.mp hy with e | hy
    · subst e; exact lw_NO (by decide) lw_80e hB.2.1
    · cases List.mem_singleton.mp hy
      exact ⟨[g], lw_3 (Nat.succ_pos _), (ax_XF_lt (x := 30) (by decide)).mpr (lw_xC hB.1 hC)⟩
  have hE : ∀ t, ax_ok ax_wC t (rx_int a) → ax_EO ax_wC ax_XC (lw_ro [g, rx_int a, 4 * n]) (3, [(0, 2147483648, 2147484448), t, (1, 0, 0)], [(42, 4, 11)], [], [(0, [80]), (30, [3])]) hp := fun t ht =>
    lw_EOl (vs := [g, rx_int a, 4 * n]) (ts := [(1, 0, 0), t, (0, 2147483648, 2147484448)]) rfl (fun k u hu => by
      match k, hu with
      | 0, hu => cases hu; exact Or.inr (Or.inl ⟨rfl, hg⟩)
      | 1, hu => cases hu; exact ht
      | 2, hu => cases hu; exact lw_ok4 (n := n) (by omega) (by omega) (by omega)
      | k + 3, hu => cases hu) (fun f hf => by
      cases List.mem_singleton.mp hf
      exact lw_FOc (m := 2) (q := 8) (j := 1) rfl rfl hs (show 2 < 3 by decide) rfl) hN
  by_cases hn' : a < 2147483648
  · refine ax_wp_mono (hL (lw_c axc_39 1) (List.mem_cons_of_mem _ List.mem_cons_self) _ hp _ rfl (hE (0, 2147483648, 4294967295) (lw_ok4 (n := a) hn' (by omega) (by omega))) hB.1) (fun o ho => ?_)
    obtain ⟨po, hpo, ρ', r, p1, p2, p3, p4, p5, p6, p7⟩ := ho
    have c0 : ρ' 0 = g := p1 0 (by decide)
    have c1 : ρ' 1 = rx_int a := p1 1 (by decide)
    have c2 : ρ' 2 = 4 * n := p1 2 (by decide)
    replace hpo : po ∈ [_, _] := hpo
    rcases List.mem_cons.mp hpo with e | hpo
    · subst e
      cases p2
      have x0 : ax_XC 0 [80] o.2.1 := lw_gx p4 (by decide) lw_80 List.mem_cons_self
      have x30 : ax_XC 30 [ρ' 0] o.2.1 := (ax_XF_lt (by decide)).mp (ax_gx p4 (30, [3]) (List.mem_cons_of_mem _ List.mem_cons_self))
      have g0 : rx_bi (ρ' 2 / 4) < rx_bi (ρ' 1 / 4) := ax_gc p4 4 7 11 (by decide) (List.mem_cons_of_mem _ (List.mem_cons_of_mem _ List.mem_cons_self))
      rw [c1, c2, lw_i4, show 4 * n / 4 = n by omega, lw_bi hn', lw_bi (by omega)] at g0
      rw [c0] at x30
      refine ⟨p7, by rw [lw_ev_vl p3, ax_vl_c (by decide)], lw_clsS w hB h31 hF hM p5 x0 p6 (by decide +kernel) (by decide +kernel) (by decide +kernel) (by decide +kernel) (by decide +kernel) (by decide +kernel) (by decide +kernel), ?_⟩
      unfold lw_eg
      rw [if_neg (by omega)]
      exact x30.2.2
    · have e := List.mem_singleton.mp hpo
      subst e
      cases p2
      have x0 : ax_XC 0 [80] o.2.1 := lw_gx p4 (by decide) lw_80 List.mem_cons_self
      have x30 : ax_XC 30 [ρ' 3] o.2.1 := (ax_XF_lt (by decide)).mp (ax_gx p4 (30, [15]) (List.mem_cons_of_mem _ List.mem_cons_self))
      have x38 : ρ' 3 = pz_cut (ρ' 0) (ρ' 1 / 4) := (ax_XF_lt (by decide)).mp (ax_gx p4 (38, [3, 7, 15]) (List.mem_cons_of_mem _ (List.mem_cons_of_mem _ List.mem_cons_self)))
      have g0 : rx_bi (ρ' 1 / 4) ≤ rx_bi (ρ' 2 / 4) := ax_gc p4 5 7 11 (by decide) (List.mem_cons_of_mem _ (List.mem_cons_of_mem _ (List.mem_cons_of_mem _ List.mem_cons_self)))
      rw [c1, c2, lw_i4, show 4 * n / 4 = n by omega, lw_bi hn', lw_bi (by omega)] at g0
      rw [c0, c1, lw_i4] at x38
      refine ⟨p7, (ax_isK0 p4 (v := 7) (by decide +kernel) p3).1, lw_clsS w hB h31 hF hM p5 x0 p6 (by decide +kernel) (by decide +kernel) (by decide +kernel) (by decide +kernel) (by decide +kernel) (by decide +kernel) (by decide +kernel), ?_⟩
      unfold lw_eg
      rw [if_pos (by omega), ← x38]
      exact x30.2.2
  · refine ax_wp_mono (hL (lw_c axc_39 0) List.mem_cons_self _ hp _ rfl (hE (0, 0, 2147483647) (by
      refine Or.inl ⟨rfl, lw_int4 a, by show rx_pl (rx_int a) < _; rw [lw_pl]; exact hv, Nat.zero_le _, ?_⟩
      show rx_bi (rx_pl (rx_int a)) ≤ _
      rw [lw_pl, lw_biN (by omega) hv]
      show a - 2147483648 ≤ 2147483647
      omega)) hB.1) (fun o ho => ?_)
    obtain ⟨po, hpo, ρ', r, p1, p2, p3, p4, p5, p6, p7⟩ := ho
    replace hpo : po ∈ [_] := hpo
    have e := List.mem_singleton.mp hpo
    subst e
    cases p2
    have c0 : ρ' 0 = g := p1 0 (by decide)
    have x0 : ax_XC 0 [80] o.2.1 := lw_gx p4 (by decide) lw_80 List.mem_cons_self
    have x30 : ax_XC 30 [ρ' 0] o.2.1 := (ax_XF_lt (by decide)).mp (ax_gx p4 (30, [3]) (List.mem_cons_of_mem _ List.mem_cons_self))
    rw [c0] at x30
    refine ⟨p7, by rw [lw_ev_vl p3, ax_vl_c (by decide)], lw_clsS w hB h31 hF hM p5 x0 p6 (by decide +kernel) (by decide +kernel) (by decide +kernel) (by decide +kernel) (by decide +kernel) (by decide +kernel) (by decide +kernel), ?_⟩
    unfold lw_eg
    rw [if_neg (by omega)]
    exact x30.2.2
theorem lw_netC (hA : ∀ B, ax_Low ax_wC ax_XC rx_P ax_APC rx_P (rx_DF, rx_FK) B) (w : lw_W b wM) (hB : lw_B b wM hp) (h31 : lw_31 hp) {g : Nat} (hg : g % 4 = 1) (hC : lw_x30C g hp) (hM : lw_x30M g hp) :
    ax_Wp rx_P (rx_DF, rx_FK) rxm_331 (0, rx_args (10 :: ([] : List Nat).map rx_int) (rx_mL (rx_n rxm_331)), [], hp, [], 0, 0) (fun o => o.2.2 = [] ∧ o.1 % 4 = 0 ∧ lw_B b wM o.2.1 ∧ lw_31 o.2.1 ∧ lw_x30M g o.2.1 ∧ ay_at o.2.1 8 1 = some 0 ∧ lw_nC g o.1 o.2.1 ∧ lw_fC hp o.2.1) := by
  have hL := (hA (rx_rf (rx_n rxm_331) + 1) 331 rxm_331 (axm_331, axc_331) rfl rfl).2 (Nat.lt_succ_self _)
  have hE : ax_EO ax_wC ax_XC (lw_ro [g]) (1, [(1, 0, 0)], [], [], [(0, [80]), (31, []), (30, [3])]) hp := lw_EOl (vs := [g]) (ts := [(1, 0, 0)]) rfl (fun k u hu => by
      match k, hu with
      | 0, hu => cases hu; exact Or.inr (Or.inl ⟨rfl, hg⟩)
      | k + 1, hu => cases hu) (fun f hf => by cases hf) (fun y hy => by
    rcases List.mem_cons.mp hy with e | hy
    · subst e; exact lw_NO (by decide) lw_80e hB.2.1
    rcases List.mem_cons.mp hy with e | hy
    · subst e; exact lw_NO (by decide) rfl ⟨ax_cellT hB.1 (g := 1) rfl, h31⟩
    · cases List.mem_singleton.mp hy
      exact ⟨[g], lw_3 (Nat.succ_pos _), (ax_XF_lt (x := 30) (by decide)).mpr (lw_xC hB.1 hC)⟩)
  have m1 : (lw_c axc_331 0).2.1.all (fun x => lw_isC x.1) = true := by decide +kernel
  refine ax_wp_mono (hL (lw_c axc_331 0) List.mem_cons_self (lw_ro [g]) hp _ rfl hE hB.1) (fun o ho => ?_)
  obtain ⟨po, hpo, ρ', r, p1, p2, p3, p4, p5, p6, p7⟩ := ho
  have c0 : ρ' 0 = g := p1 0 (by decide)
  obtain ⟨s1, s2⟩ := lw_sameM hB.1 p6 m1
  have hM' : lw_x30M g o.2.1 := by
    unfold lw_x30M at *
    rw [s1, s2]
    exact hM
  replace hpo : po ∈ [_, _] := hpo
  rcases List.mem_cons.mp hpo with e | hpo
  · subst e
    cases p2
    have f0 := lw_FO (a := 42) (i := 4) (v := 0) (q := 8) (j := 1) p4 List.mem_cons_self rfl rfl
    rw [ax_vl_c (by decide)] at f0
    have v0 := lw_ev_vl p3
    rw [ax_vl_c (by decide)] at v0
    have x0 : ax_XC 0 [80] o.2.1 := lw_gx p4 (by decide) lw_80 List.mem_cons_self
    have x31 : ax_XC 31 [] o.2.1 := lw_gx p4 (by decide) rfl (List.mem_cons_of_mem _ List.mem_cons_self)
    have x63 : ax_XC 63 [ρ' 0] o.2.1 := (ax_XF_lt (by decide)).mp (ax_gx p4 (63, [3]) (List.mem_cons_of_mem _ (List.mem_cons_of_mem _ List.mem_cons_self)))
    rw [c0] at x63
    exact ⟨p7, by rw [v0], lw_cls w hB p5 x0 p6 m1, x31.2, hM', f0, Or.inl ⟨v0, x63.2⟩, _, m1, p6⟩
  · have e := List.mem_singleton.mp hpo
    subst e
    cases p2
    have f0 := lw_FO (a := 42) (i := 4) (v := 0) (q := 8) (j := 1) p4 List.mem_cons_self rfl rfl
    rw [ax_vl_c (by decide)] at f0
    have v0 : o.1 = ρ' 1 := lw_ev_vl p3
    have x0 : ax_XC 0 [80] o.2.1 := lw_gx p4 (by decide) lw_80 List.mem_cons_self
    have x31 : ax_XC 31 [] o.2.1 := lw_gx p4 (by decide) rfl (List.mem_cons_of_mem _ List.mem_cons_self)
    have x126 : pz_x126 (ρ' 0) (ρ' 1) := (ax_XF_lt (x := 126) (by decide)).mp (ax_gx p4 (126, [3, 7]) (List.mem_cons_of_mem _ (List.mem_cons_of_mem _ List.mem_cons_self)))
    have x127 : ax_XC 127 [] o.2.1 := lw_gx p4 (by decide) rfl (List.mem_cons_of_mem _ (List.mem_cons_of_mem _ (List.mem_cons_of_mem _ List.mem_cons_self)))
    rw [c0, ← v0] at x126
    exact ⟨p7, (ax_isK0 p4 (v := 7) (by decide +kernel) p3).1, lw_cls w hB p5 x0 p6 m1, x31.2, hM', f0, Or.inr ⟨x126, x127.2⟩, _, m1, p6⟩
theorem lw_modS0 {hp' : rx_H} {md : List (Nat × Nat)} {g : Nat} (hB : lw_B 0 ax_wM0 hp) (h31 : lw_31 hp) (hF : lw_F hp) (hC : lw_x30C g hp) (h1 : ax_HT ax_wM0 hp') (h2 : lw_XM5 0 hp') (h3 : ax_HR ax_wC md hp hp') (m1 : md.all (fun x => !(lw_isC x.1)) = true) (k2 : lw_nm md 11 20 = true) (k3 : lw_nm md 11 21 = true) : lw_B 0 ax_wM0 hp' ∧ lw_31 hp' ∧ lw_F hp' ∧ lw_x30C g hp' ∧ lw_fM hp hp' := by
  have hT := hB.1
  obtain ⟨s1, s2, s3⟩ := lw_sameC hT h3 m1
  have c := fun i h => lw_ayE (i := i) (q := 173) (g := 11) h3 (ax_cellT hT (g := 11) rfl) rfl (lw_nm_ok h)
  refine ⟨lw_mod lw_W0 hB h1 h2 h3 m1, ?_, ?_, ?_, _, m1, h3⟩
  · unfold lw_31 at *
    rw [s3, s3, s3, s3]
    exact h31
  · unfold lw_F at *
    rw [c _ k2, c _ k3, s1, s1]
    exact hF
  · unfold lw_x30C at *
    rw [s1, s2]
    exact hC
theorem lw_szM0 {g : Nat} (hT : ax_HT ax_wM0 hp) (hM : lw_x30M g hp) : ∃ n, n ≤ 800 ∧ n = pz_gN g ∧ ay_at hp 173 11 = some (4 * n) := by
  obtain ⟨x, hx, h1, h2, h3, h4⟩ := lw_int hT (q := 173) (g := 11) (j := 11) rfl ⟨_, rfl, by decide⟩ rfl
  have e := hM.1
  rw [hx] at e
  replace e : x / 4 = pz_gN g := e
  have hl := hM.2.1
  exact ⟨x / 4, by omega, e, by rw [hx]; exact congrArg some (by omega)⟩
theorem lw_xM0 {g : Nat} (hT : ax_HT ax_wM0 hp) (hM : lw_x30M g hp) : ax_XM 0 130 [g] hp := ⟨ax_cellT hT (g := 11) rfl, ax_cellT hT (g := 53) rfl, hM⟩
theorem lw_NG0 {g n : Nat} {ρ : Nat → Nat} (hB : lw_B 0 ax_wM0 hp) (hM : lw_x30M g hp) (h0 : ρ 0 = g) (hn : 0 < n) : ∀ y ∈ lw_GL ++ [(130, [3])], ax_NO (ax_XM 0) n ρ hp y := fun y hy => by
  rcases List.mem_append.mp hy with h | h
  · exact lw_NO5 hB.2.2.2 y h
  · cases List.mem_singleton.mp h
    exact ⟨[ρ 0], lw_3 hn, (ax_XF_lt (x := 130) (by decide)).mpr (by show ax_XM 0 130 [ρ 0] hp; rw [h0]; exact lw_xM0 hB.2.2.1 hM)⟩
set_option maxHeartbeats 1000000 in
theorem lw_feedM0 (hA : ∀ B, ax_Low ax_wM0 (ax_XM 0) rx_P ax_APM0 rx_P (rx_DF, rx_FK) B) (hB : lw_B 0 ax_wM0 hp) (h31 : lw_31 hp) (hF : lw_F hp) {g k a1 a2 a3 a4 a5 : Nat} (hg : g % 4 = 1) (hM : lw_x30M g hp) (hC : lw_x30C k hp) (hv : ∀ v ∈ [a1, a2, a3, a4, a5], v < 4294967296) :
    ax_Wp rx_P (rx_DF, rx_FK) rxm_51 (0, rx_args (702 :: [a1, a2, a3, a4, a5].map rx_int) (rx_mL (rx_n rxm_51)), [], hp, [], 0, 0) (fun o => o.2.2 = [] ∧ o.1 % 4 = 0 ∧ (lw_B 0 ax_wM0 o.2.1 ∧ lw_31 o.2.1 ∧ lw_F o.2.1 ∧ lw_x30C k o.2.1 ∧ lw_fM hp o.2.1) ∧ lw_x30M (lw_fg g a1 a2 a3 a4 a5) o.2.1) := by
  have hL := (hA (rx_rf (rx_n rxm_51) + 1) 51 rxm_51 (axm_51, axc0_51) rfl rfl).2 (Nat.lt_succ_self _)
  obtain ⟨n, n800, hn, hs⟩ := lw_szM0 hB.2.2.1 hM
  have ok : ∀ k, k < 5 → ax_ok ax_wM0 lw_any ([rx_int a1, rx_int a2, rx_int a3, rx_int a4, rx_int a5].getD k 0) := fun k hk => by
    match k, hk with
    | 0, _ => exact lw_int_ok (hv _ (by simp))
    | 1, _ => exact lw_int_ok (hv _ (by simp))
    | 2, _ => exact lw_int_ok (hv _ (by simp))
    | 3, _ => exact lw_int_ok (hv _ (by simp))
    | 4, _ => exact lw_int_ok (hv _ (by simp))
    | k + 5, h => omega
  have hE : ∀ t, ax_ok ax_wM0 t (4 * n) → ax_EO ax_wM0 (ax_XM 0) (lw_ro [g, rx_int a1, rx_int a2, rx_int a3, rx_int a4, rx_int a5, 4 * n]) (7, [t, lw_any, lw_any, lw_any, lw_any, lw_any, (1, 0, 0)], [(702, 44, 27)], [], lw_GL ++ [(130, [3])]) hp := fun t ht =>
    lw_EOl (vs := [g, rx_int a1, rx_int a2, rx_int a3, rx_int a4, rx_int a5, 4 * n]) (ts := [(1, 0, 0), lw_any, lw_any, lw_any, lw_any, lw_any, t]) rfl (fun k u hu => by
      match k, hu with
      | 0, hu => cases hu; exact Or.inr (Or.inl ⟨rfl, hg⟩)
      | 1, hu => cases hu; exact ok 0 (by decide)
      | 2, hu => cases hu; exact ok 1 (by decide)
      | 3, hu => cases hu; exact ok 2 (by decide)
      | 4, hu => cases hu; exact ok 3 (by decide)
      | 5, hu => cases hu; exact ok 4 (by decide)
      | 6, hu => cases hu; exact ht
      | k + 7, hu => cases hu) (fun f hf => by
      cases List.mem_singleton.mp hf
      exact lw_FOc (m := 6) (q := 173) (j := 11) rfl rfl hs (show 6 < 7 by decide) rfl) (lw_NG0 hB hM rfl (Nat.succ_pos _))
  by_cases hn' : n ≤ 780
  · refine ax_wp_mono (hL (lw_c axc0_51 1) (List.mem_cons_of_mem _ List.mem_cons_self) _ hp _ rfl (hE (0, 2147483648, 2147484428) (lw_ok4 (n := n) (by omega) (by omega) (by omega))) hB.2.2.1) (fun o ho => ?_)
    obtain ⟨po, hpo, ρ', r, p1, p2, p3, p4, p5, p6, p7⟩ := ho
    replace hpo : po ∈ [_] := hpo
    have e := List.mem_singleton.mp hpo
    subst e
    cases p2
    have p6' : ax_HR ax_wC (lw_c axc0_51 1).2.1 hp o.2.1 := ay_HRw lw_w0.symm p6
    have x30 : ax_XM 0 130 [ρ' 7] o.2.1 := (ax_XF_lt (by decide)).mp (ax_gx p4 (130, [31]) (List.mem_append_right lw_GL List.mem_cons_self))
    have x37 : ρ' 7 = pz_a20 (ρ' 1 / 4) (ρ' 2 / 4) (ρ' 3 / 4) (ρ' 4 / 4) (ρ' 5 / 4) (ρ' 0) 20 := (ax_XF_lt (by decide)).mp (ax_gx p4 (137, [3, 7, 11, 15, 19, 23, 31]) (List.mem_append_right lw_GL (List.mem_cons_of_mem _ List.mem_cons_self)))
    rw [p1 0 (by decide), p1 1 (by decide), p1 2 (by decide), p1 3 (by decide), p1 4 (by decide), p1 5 (by decide)] at x37
    replace x37 : ρ' 7 = pz_a20 (rx_int a1 / 4) (rx_int a2 / 4) (rx_int a3 / 4) (rx_int a4 / 4) (rx_int a5 / 4) g 20 := x37
    rw [lw_i4, lw_i4, lw_i4, lw_i4, lw_i4] at x37
    refine ⟨p7, (ax_isK0 p4 (v := 35) (by decide +kernel) p3).1, lw_modS0 hB h31 hF hC p5 (lw_gx5 p4 (fun x hx => List.mem_append_left _ (show x ∈ lw_GL from hx))) p6' (by decide +kernel) (by decide +kernel) (by decide +kernel), ?_⟩
    unfold lw_fg
    rw [if_pos (by omega), ← x37]
    exact x30.2.2
  · refine ax_wp_mono (hL (lw_c axc0_51 0) List.mem_cons_self _ hp _ rfl (hE (0, 2147484429, 2147484448) (lw_ok4 (n := n) (by omega) (by omega) (by omega))) hB.2.2.1) (fun o ho => ?_)
    obtain ⟨po, hpo, ρ', r, p1, p2, p3, p4, p5, p6, p7⟩ := ho
    replace hpo : po ∈ [_] := hpo
    have e := List.mem_singleton.mp hpo
    subst e
    cases p2
    have p6' : ax_HR ax_wC (lw_c axc0_51 0).2.1 hp o.2.1 := ay_HRw lw_w0.symm p6
    have x30 : ax_XM 0 130 [ρ' 0] o.2.1 := (ax_XF_lt (by decide)).mp (ax_gx p4 (130, [3]) (List.mem_append_right lw_GL List.mem_cons_self))
    rw [p1 0 (by decide)] at x30
    refine ⟨p7, by rw [lw_ev_vl p3, ax_vl_c (by decide)], lw_modS0 hB h31 hF hC p5 (lw_gx5 p4 (fun x hx => List.mem_append_left _ (show x ∈ lw_GL from hx))) p6' (by decide +kernel) (by decide +kernel) (by decide +kernel), ?_⟩
    unfold lw_fg
    rw [if_neg (by omega)]
    exact x30.2.2
set_option maxHeartbeats 1000000 in
theorem lw_endM0 (hA : ∀ B, ax_Low ax_wM0 (ax_XM 0) rx_P ax_APM0 rx_P (rx_DF, rx_FK) B) (hB : lw_B 0 ax_wM0 hp) (h31 : lw_31 hp) (hF : lw_F hp) {g k a : Nat} (hg : g % 4 = 1) (hM : lw_x30M g hp) (hC : lw_x30C k hp) (hv : a < 4294967296) :
    ax_Wp rx_P (rx_DF, rx_FK) rxm_47 (0, rx_args (702 :: [a].map rx_int) (rx_mL (rx_n rxm_47)), [], hp, [], 0, 0) (fun o => o.2.2 = [] ∧ o.1 % 4 = 0 ∧ (lw_B 0 ax_wM0 o.2.1 ∧ lw_31 o.2.1 ∧ lw_F o.2.1 ∧ lw_x30C k o.2.1 ∧ lw_fM hp o.2.1) ∧ lw_x30M (lw_eg g a) o.2.1) := by
  have hL := (hA (rx_rf (rx_n rxm_47) + 1) 47 rxm_47 (axm_47, axc0_47) rfl rfl).2 (Nat.lt_succ_self _)
  obtain ⟨n, n800, hn, hs⟩ := lw_szM0 hB.2.2.1 hM
  have hE : ∀ t, ax_ok ax_wM0 t (rx_int a) → ax_EO ax_wM0 (ax_XM 0) (lw_ro [g, rx_int a, 4 * n]) (3, [(0, 2147483648, 2147484448), t, (1, 0, 0)], [(702, 44, 11)], [], lw_GL ++ [(130, [3])]) hp := fun t ht =>
    lw_EOl (vs := [g, rx_int a, 4 * n]) (ts := [(1, 0, 0), t, (0, 2147483648, 2147484448)]) rfl (fun k u hu => by
      match k, hu with
      | 0, hu => cases hu; exact Or.inr (Or.inl ⟨rfl, hg⟩)
      | 1, hu => cases hu; exact ht
      | 2, hu => cases hu; exact lw_ok4 (n := n) (by omega) (by omega) (by omega)
      | k + 3, hu => cases hu) (fun f hf => by
      cases List.mem_singleton.mp hf
      exact lw_FOc (m := 2) (q := 173) (j := 11) rfl rfl hs (show 2 < 3 by decide) rfl) (lw_NG0 hB hM rfl (Nat.succ_pos _))
  by_cases hn' : a < 2147483648
  · refine ax_wp_mono (hL (lw_c axc0_47 1) (List.mem_cons_of_mem _ List.mem_cons_self) _ hp _ rfl (hE (0, 2147483648, 4294967295) (lw_ok4 (n := a) hn' (by omega) (by omega))) hB.2.2.1) (fun o ho => ?_)
    obtain ⟨po, hpo, ρ', r, p1, p2, p3, p4, p5, p6, p7⟩ := ho
    have c0 : ρ' 0 = g := p1 0 (by decide)
    have c1 : ρ' 1 = rx_int a := p1 1 (by decide)
    have c2 : ρ' 2 = 4 * n := p1 2 (by decide)
    have p6' : ax_HR ax_wC (lw_c axc0_47 1).2.1 hp o.2.1 := ay_HRw lw_w0.symm p6
    replace hpo : po ∈ [_, _] := hpo
    rcases List.mem_cons.mp hpo with e | hpo
    · subst e
      cases p2
      have x30 : ax_XM 0 130 [ρ' 0] o.2.1 := (ax_XF_lt (by decide)).mp (ax_gx p4 (130, [3]) (List.mem_append_right lw_GL List.mem_cons_self))
      have g0 : rx_bi (ρ' 2 / 4) < rx_bi (ρ' 1 / 4) := ax_gc p4 4 7 11 (by decide) (List.mem_append_right lw_GL (List.mem_cons_of_mem _ List.mem_cons_self))
      rw [c1, c2, lw_i4, show 4 * n / 4 = n by omega, lw_bi hn', lw_bi (by omega)] at g0
      rw [c0] at x30
      refine ⟨p7, by rw [lw_ev_vl p3, ax_vl_c (by decide)], lw_modS0 hB h31 hF hC p5 (lw_gx5 p4 (fun x hx => List.mem_append_left _ (show x ∈ lw_GL from hx))) p6' (by decide +kernel) (by decide +kernel) (by decide +kernel), ?_⟩
      unfold lw_eg
      rw [if_neg (by omega)]
      exact x30.2.2
    · have e := List.mem_singleton.mp hpo
      subst e
      cases p2
      have x30 : ax_XM 0 130 [ρ' 3] o.2.1 := (ax_XF_lt (by decide)).mp (ax_gx p4 (130, [15]) (List.mem_append_right lw_GL List.mem_cons_self))
      have x38 : ρ' 3 = pz_cut (ρ' 0) (ρ' 1 / 4) := (ax_XF_lt (by decide)).mp (ax_gx p4 (138, [3, 7, 15]) (List.mem_append_right lw_GL (List.mem_cons_of_mem _ List.mem_cons_self)))
      have g0 : rx_bi (ρ' 1 / 4) ≤ rx_bi (ρ' 2 / 4) := ax_gc p4 5 7 11 (by decide) (List.mem_append_right lw_GL (List.mem_cons_of_mem _ (List.mem_cons_of_mem _ List.mem_cons_self)))
      rw [c1, c2, lw_i4, show 4 * n / 4 = n by omega, lw_bi hn', lw_bi (by omega)] at g0
      rw [c0, c1, lw_i4] at x38
      refine ⟨p7, (ax_isK0 p4 (v := 7) (by decide +kernel) p3).1, lw_modS0 hB h31 hF hC p5 (lw_gx5 p4 (fun x hx => List.mem_append_left _ (show x ∈ lw_GL from hx))) p6' (by decide +kernel) (by decide +kernel) (by decide +kernel), ?_⟩
      unfold lw_eg
      rw [if_pos (by omega), ← x38]
      exact x30.2.2
  · refine ax_wp_mono (hL (lw_c axc0_47 0) List.mem_cons_self _ hp _ rfl (hE (0, 0, 2147483647) (by
      refine Or.inl ⟨rfl, lw_int4 a, by show rx_pl (rx_int a) < _; rw [lw_pl]; exact hv, Nat.zero_le _, ?_⟩
      show rx_bi (rx_pl (rx_int a)) ≤ _
      rw [lw_pl, lw_biN (by omega) hv]
      show a - 2147483648 ≤ 2147483647
      omega)) hB.2.2.1) (fun o ho => ?_)
    obtain ⟨po, hpo, ρ', r, p1, p2, p3, p4, p5, p6, p7⟩ := ho
    replace hpo : po ∈ [_] := hpo
    have e := List.mem_singleton.mp hpo
    subst e
    cases p2
    have c0 : ρ' 0 = g := p1 0 (by decide)
    have p6' : ax_HR ax_wC (lw_c axc0_47 0).2.1 hp o.2.1 := ay_HRw lw_w0.symm p6
    have x30 : ax_XM 0 130 [ρ' 0] o.2.1 := (ax_XF_lt (by decide)).mp (ax_gx p4 (130, [3]) (List.mem_append_right lw_GL List.mem_cons_self))
    rw [c0] at x30
    refine ⟨p7, by rw [lw_ev_vl p3, ax_vl_c (by decide)], lw_modS0 hB h31 hF hC p5 (lw_gx5 p4 (fun x hx => List.mem_append_left _ (show x ∈ lw_GL from hx))) p6' (by decide +kernel) (by decide +kernel) (by decide +kernel), ?_⟩
    unfold lw_eg
    rw [if_neg (by omega)]
    exact x30.2.2
/-- what the reference's net leaves: refused, accepted -/
noncomputable def lw_mN0 (g : Nat) (hp : rx_H) (o : rx_O) : Prop := ((∃ fa fp, pz63 (pz_gt g) (pz_gN g) fa fp) ∧ o.1 = 17179869180 ∧ ax_HR ax_wC ay_nM10 hp o.2.1 ∧ ay_TE 0 (fun j => ay_at hp 181 (40 * 0 + j)) o.2.1 ∧ ay_TR 0 (fun k => ay_at hp 182 (100 * 0 + k)) o.2.1) ∨ (pz_x126 g o.1 ∧ ay_NTh1 g o.2.1 ∧ ax_HT ax_wM1 o.2.1)
theorem lw_netM0 (hA2 : ∀ B, ax_Low ax_wM1 (ax_XM 1) rx_P ax_APM1 rx_P (rx_DF, rx_FK) B) (hB : lw_B 0 ax_wM0 hp) (h31 : lw_31 hp) {g v : Nat} (hg : g % 4 = 1) (hM : lw_x30M g hp) (hs : ay_at hp 8 1 = some 0) (hn : lw_nC g v hp) (hv : v % 4 = 0) :
    ax_Wp rx_P (rx_DF, rx_FK) rxm_272 (0, rx_args (702 :: ([] : List Nat).map rx_int) (rx_mL (rx_n rxm_272)), [], hp, [], 0, 0) (fun o => o.2.2 = [] ∧ o.1 = v ∧ lw_J o.2.1 ∧ lw_fM hp o.2.1 ∧ lw_mN0 g hp o) := by
  have hA : ∀ B, ax_Low ax_wM0 (ax_XT (ay_TE 0 (fun j => ay_at hp 181 (40 * 0 + j))) (ay_TR 0 (fun k => ay_at hp 182 (100 * 0 + k))) (ax_XM 0)) rx_P ax_APM0 rx_P (rx_DF, rx_FK) B := axLT_M0 _ _ rxP_ok
  have h5 : ∀ y ∈ lw_GL ++ [((130, [3]) : ax_N)], y.1 < 500 := by decide +kernel
  have hE : ax_EO ax_wM0 (ax_XT (ay_TE 0 (fun j => ay_at hp 181 (40 * 0 + j))) (ay_TR 0 (fun k => ay_at hp 182 (100 * 0 + k))) (ax_XM 0)) (lw_ro [g]) (1, [(1, 0, 0)], [], [], [(0, [80]), (1, []), (2, []), (25, []), (26, []), (130, [3])]) hp := lw_EOl (vs := [g]) (ts := [(1, 0, 0)]) rfl (fun k u hu => by
      match k, hu with
      | 0, hu => cases hu; exact Or.inr (Or.inl ⟨rfl, hg⟩)
      | k + 1, hu => cases hu) (fun f hf => by cases hf) (fun y hy => ax_XT_in (h5 y hy) (fun _ _ => rfl) (fun _ _ => rfl) (lw_NG0 hB hM rfl (Nat.succ_pos _) y hy))
  have hr : rxm_272 ∈ rx_P := ax_nth_mem (j := 272) rfl
  have m : ay_nMD0.all (fun x => !(lw_isC x.1)) = true := by decide +kernel
  have mR : ay_nM10.all (fun x => !(lw_isC x.1)) = true := by decide +kernel
  refine ax_wp_mono (ay_net0 rxP_ok hA hA2 hr (ax_tabB_ok axt_272) hE hB.2.2.1) (fun o ho => ?_)
  have fin : ∀ {b' : Nat} {wM' : ax_W}, lw_W b' wM' → ax_HT wM' o.2.1 → lw_XM5 b' o.2.1 → (∃ md : List (Nat × Nat), md.all (fun x => !(lw_isC x.1)) = true ∧ ax_HR ax_wC md hp o.2.1) → ay_at o.2.1 173 11 = some 0 → lw_nM g o.1 o.2.1 → o.1 % 4 = 0 → o.1 = v ∧ lw_K b' wM' o.2.1 := by
    intro b' wM' w' t1 t2 ⟨md, m, t3⟩ t4 t5 t6
    obtain ⟨s1, s2, s3⟩ := lw_sameC hB.1 t3 m
    have hB' := lw_mod w' hB t1 t2 t3 m
    have hn' : lw_nC g v o.2.1 := by
      unfold lw_nC at *
      rw [s1, s1]
      exact hn
    obtain ⟨r1, r2⟩ := lw_net2 hB'.1 hn' t5 hv t6
    refine ⟨r1.symm, hB', ⟨1, rfl, ?_, ?_⟩, ?_, r2⟩
    · unfold lw_x30C
      rw [s1, hs]
      exact ⟨rfl, by decide, fun j hj => absurd (show j < 0 from hj) (by omega)⟩
    · unfold lw_x30M
      rw [t4]
      exact ⟨rfl, by decide, fun j hj => absurd (show j < 0 from hj) (by omega)⟩
    · unfold lw_31 at *
      rw [s3, s3, s3, s3]
      exact h31
  rcases ho with ho | ⟨ho, hNT⟩
  · obtain ⟨po, hpo, ρ', r, p1, p2, p3, p4, p5, p6, p7⟩ := ho
    have e := List.mem_singleton.mp (show po ∈ [_] from hpo)
    subst e
    cases p2
    have c0 : ρ' 0 = g := p1 0 (by decide)
    have f0 := lw_FO (a := 702) (i := 44) (v := 0) (q := 173) (j := 11) p4 List.mem_cons_self rfl rfl
    rw [ax_vl_c (by decide)] at f0
    have v0 := lw_ev_vl p3
    rw [ax_vl_c (by decide)] at v0
    have p6' : ax_HR ax_wC ay_nM10 hp o.2.1 := ay_HRw lw_w0.symm p6
    have x : ax_XM 0 228 [ρ' 0] o.2.1 := ((ax_XF_lt (by decide)).mp (ax_gx p4 (228, [3]) (List.mem_append_right lw_GL List.mem_cons_self))).1
    have xe : ay_TE 0 (fun j => ay_at hp 181 (40 * 0 + j)) o.2.1 := ((ax_XF_lt (by decide)).mp (ax_gx p4 (25, []) (List.mem_append_left _ (show ((25, []) : ax_N) ∈ lw_GL by simp [lw_GL])))).2.1 rfl rfl
    have xr : ay_TR 0 (fun k => ay_at hp 182 (100 * 0 + k)) o.2.1 := ((ax_XF_lt (by decide)).mp (ax_gx p4 (26, []) (List.mem_append_left _ (show ((26, []) : ax_N) ∈ lw_GL by simp [lw_GL])))).2.2 rfl rfl
    rw [c0] at x
    obtain ⟨r1, r2⟩ := fin lw_W0 p5 (lw_gx5 (ax_XT_EO p4) (fun x hx => List.mem_append_left _ (show x ∈ lw_GL from hx))) ⟨_, mR, p6'⟩ f0 (Or.inl ⟨v0, x.2.2⟩) (by rw [v0])
    exact ⟨p7, r1, Or.inl r2, ⟨_, mR, p6'⟩, Or.inl ⟨⟨_, _, x.2.2⟩, v0, p6', xe, xr⟩⟩
  · obtain ⟨po, hpo, ρ', r, p1, p2, p3, p4, p5, p6, p7⟩ := ho
    have e := List.mem_singleton.mp (show po ∈ [_] from hpo)
    subst e
    cases p2
    have c0 : ρ' 0 = g := p1 0 (by decide)
    have f0 := lw_FO (a := 702) (i := 44) (v := 0) (q := 173) (j := 11) p4 List.mem_cons_self rfl rfl
    rw [ax_vl_c (by decide)] at f0
    have v0 : o.1 = ρ' 1 := lw_ev_vl p3
    have p6' : ax_HR ax_wC ay_nMD0 hp o.2.1 := ay_HRw lw_w1.symm p6
    have x : pz_x126 (ρ' 0) (ρ' 1) := (ax_XF_lt (x := 226) (by decide)).mp (ax_gx p4 (226, [3, 7]) (List.mem_append_right lw_GL List.mem_cons_self))
    have y : ax_XM 1 227 [] o.2.1 := lw_gx p4 (by decide) rfl (List.mem_append_right lw_GL (List.mem_cons_of_mem _ List.mem_cons_self))
    rw [c0, ← v0] at x
    obtain ⟨r1, r2⟩ := fin lw_W1 p5 (lw_gx5 p4 (fun x hx => List.mem_append_left _ (show x ∈ lw_GL from hx))) ⟨_, m, p6'⟩ f0 (Or.inr ⟨x, y.2.2⟩) (ax_isK0 p4 (v := 7) (by decide +kernel) p3).1
    exact ⟨p7, r1, Or.inr r2, ⟨_, m, p6'⟩, Or.inr ⟨x, hNT, p5⟩⟩
theorem lw_modS1 {hp' : rx_H} {md : List (Nat × Nat)} {g : Nat} (hB : lw_B 1 ax_wM1 hp) (h31 : lw_31 hp) (hF : lw_F hp) (hC : lw_x30C g hp) (h1 : ax_HT ax_wM1 hp') (h2 : lw_XM5 1 hp') (h3 : ax_HR ax_wC md hp hp') (m1 : md.all (fun x => !(lw_isC x.1)) = true) (k2 : lw_nm md 11 20 = true) (k3 : lw_nm md 11 21 = true) : lw_B 1 ax_wM1 hp' ∧ lw_31 hp' ∧ lw_F hp' ∧ lw_x30C g hp' ∧ lw_fM hp hp' := by
  have hT := hB.1
  obtain ⟨s1, s2, s3⟩ := lw_sameC hT h3 m1
  have c := fun i h => lw_ayE (i := i) (q := 173) (g := 11) h3 (ax_cellT hT (g := 11) rfl) rfl (lw_nm_ok h)
  refine ⟨lw_mod lw_W1 hB h1 h2 h3 m1, ?_, ?_, ?_, _, m1, h3⟩
  · unfold lw_31 at *
    rw [s3, s3, s3, s3]
    exact h31
  · unfold lw_F at *
    rw [c _ k2, c _ k3, s1, s1]
    exact hF
  · unfold lw_x30C at *
    rw [s1, s2]
    exact hC
theorem lw_szM1 {g : Nat} (hT : ax_HT ax_wM1 hp) (hM : lw_x30M g hp) : ∃ n, n ≤ 800 ∧ n = pz_gN g ∧ ay_at hp 173 11 = some (4 * n) := by
  obtain ⟨x, hx, h1, h2, h3, h4⟩ := lw_int hT (q := 173) (g := 11) (j := 11) rfl ⟨_, rfl, by decide⟩ rfl
  have e := hM.1
  rw [hx] at e
  replace e : x / 4 = pz_gN g := e
  have hl := hM.2.1
  exact ⟨x / 4, by omega, e, by rw [hx]; exact congrArg some (by omega)⟩
theorem lw_xM1 {g : Nat} (hT : ax_HT ax_wM1 hp) (hM : lw_x30M g hp) : ax_XM 1 130 [g] hp := ⟨ax_cellT hT (g := 11) rfl, ax_cellT hT (g := 53) rfl, hM⟩
theorem lw_NG1 {g n : Nat} {ρ : Nat → Nat} (hB : lw_B 1 ax_wM1 hp) (hM : lw_x30M g hp) (h0 : ρ 0 = g) (hn : 0 < n) : ∀ y ∈ lw_GL ++ [(130, [3])], ax_NO (ax_XM 1) n ρ hp y := fun y hy => by
  rcases List.mem_append.mp hy with h | h
  · exact lw_NO5 hB.2.2.2 y h
  · cases List.mem_singleton.mp h
    exact ⟨[ρ 0], lw_3 hn, (ax_XF_lt (x := 130) (by decide)).mpr (by show ax_XM 1 130 [ρ 0] hp; rw [h0]; exact lw_xM1 hB.2.2.1 hM)⟩
set_option maxHeartbeats 1000000 in
theorem lw_feedM1 (hA : ∀ B, ax_Low ax_wM1 (ax_XM 1) rx_P ax_APM1 rx_P (rx_DF, rx_FK) B) (hB : lw_B 1 ax_wM1 hp) (h31 : lw_31 hp) (hF : lw_F hp) {g k a1 a2 a3 a4 a5 : Nat} (hg : g % 4 = 1) (hM : lw_x30M g hp) (hC : lw_x30C k hp) (hv : ∀ v ∈ [a1, a2, a3, a4, a5], v < 4294967296) :
    ax_Wp rx_P (rx_DF, rx_FK) rxm_51 (0, rx_args (702 :: [a1, a2, a3, a4, a5].map rx_int) (rx_mL (rx_n rxm_51)), [], hp, [], 0, 0) (fun o => o.2.2 = [] ∧ o.1 % 4 = 0 ∧ (lw_B 1 ax_wM1 o.2.1 ∧ lw_31 o.2.1 ∧ lw_F o.2.1 ∧ lw_x30C k o.2.1 ∧ lw_fM hp o.2.1) ∧ lw_x30M (lw_fg g a1 a2 a3 a4 a5) o.2.1) := by
  have hL := (hA (rx_rf (rx_n rxm_51) + 1) 51 rxm_51 (axm_51, axc1_51) rfl rfl).2 (Nat.lt_succ_self _)
  obtain ⟨n, n800, hn, hs⟩ := lw_szM1 hB.2.2.1 hM
  have ok : ∀ k, k < 5 → ax_ok ax_wM1 lw_any ([rx_int a1, rx_int a2, rx_int a3, rx_int a4, rx_int a5].getD k 0) := fun k hk => by
    match k, hk with
    | 0, _ => exact lw_int_ok (hv _ (by simp))
    | 1, _ => exact lw_int_ok (hv _ (by simp))
    | 2, _ => exact lw_int_ok (hv _ (by simp))
    | 3, _ => exact lw_int_ok (hv _ (by simp))
    | 4, _ => exact lw_int_ok (hv _ (by simp))
    | k + 5, h => omega
  have hE : ∀ t, ax_ok ax_wM1 t (4 * n) → ax_EO ax_wM1 (ax_XM 1) (lw_ro [g, rx_int a1, rx_int a2, rx_int a3, rx_int a4, rx_int a5, 4 * n]) (7, [t, lw_any, lw_any, lw_any, lw_any, lw_any, (1, 0, 0)], [(702, 44, 27)], [], lw_GL ++ [(130, [3])]) hp := fun t ht =>
    lw_EOl (vs := [g, rx_int a1, rx_int a2, rx_int a3, rx_int a4, rx_int a5, 4 * n]) (ts := [(1, 0, 0), lw_any, lw_any, lw_any, lw_any, lw_any, t]) rfl (fun k u hu => by
      match k, hu with
      | 0, hu => cases hu; exact Or.inr (Or.inl ⟨rfl, hg⟩)
      | 1, hu => cases hu; exact ok 0 (by decide)
      | 2, hu => cases hu; exact ok 1 (by decide)
      | 3, hu => cases hu; exact ok 2 (by decide)
      | 4, hu => cases hu; exact ok 3 (by decide)
      | 5, hu => cases hu; exact ok 4 (by decide)
      | 6, hu => cases hu; exact ht
      | k + 7, hu => cases hu) (fun f hf => by
      cases List.mem_singleton.mp hf
      exact lw_FOc (m := 6) (q := 173) (j := 11) rfl rfl hs (show 6 < 7 by decide) rfl) (lw_NG1 hB hM rfl (Nat.succ_pos _))
  by_cases hn' : n ≤ 780
  · refine ax_wp_mono (hL (lw_c axc1_51 1) (List.mem_cons_of_mem _ List.mem_cons_self) _ hp _ rfl (hE (0, 2147483648, 2147484428) (lw_ok4 (n := n) (by omega) (by omega) (by omega))) hB.2.2.1) (fun o ho => ?_)
    obtain ⟨po, hpo, ρ', r, p1, p2, p3, p4, p5, p6, p7⟩ := ho
    replace hpo : po ∈ [_] := hpo
    have e := List.mem_singleton.mp hpo
    subst e
    cases p2
    have p6' : ax_HR ax_wC (lw_c axc1_51 1).2.1 hp o.2.1 := ay_HRw lw_w1.symm p6
    have x30 : ax_XM 1 130 [ρ' 7] o.2.1 := (ax_XF_lt (by decide)).mp (ax_gx p4 (130, [31]) (List.mem_append_right lw_GL List.mem_cons_self))
    have x37 : ρ' 7 = pz_a20 (ρ' 1 / 4) (ρ' 2 / 4) (ρ' 3 / 4) (ρ' 4 / 4) (ρ' 5 / 4) (ρ' 0) 20 := (ax_XF_lt (by decide)).mp (ax_gx p4 (137, [3, 7, 11, 15, 19, 23, 31]) (List.mem_append_right lw_GL (List.mem_cons_of_mem _ List.mem_cons_self)))
    rw [p1 0 (by decide), p1 1 (by decide), p1 2 (by decide), p1 3 (by decide), p1 4 (by decide), p1 5 (by decide)] at x37
    replace x37 : ρ' 7 = pz_a20 (rx_int a1 / 4) (rx_int a2 / 4) (rx_int a3 / 4) (rx_int a4 / 4) (rx_int a5 / 4) g 20 := x37
    rw [lw_i4, lw_i4, lw_i4, lw_i4, lw_i4] at x37
    refine ⟨p7, (ax_isK0 p4 (v := 35) (by decide +kernel) p3).1, lw_modS1 hB h31 hF hC p5 (lw_gx5 p4 (fun x hx => List.mem_append_left _ (show x ∈ lw_GL from hx))) p6' (by decide +kernel) (by decide +kernel) (by decide +kernel), ?_⟩
    unfold lw_fg
    rw [if_pos (by omega), ← x37]
    exact x30.2.2
  · refine ax_wp_mono (hL (lw_c axc1_51 0) List.mem_cons_self _ hp _ rfl (hE (0, 2147484429, 2147484448) (lw_ok4 (n := n) (by omega) (by omega) (by omega))) hB.2.2.1) (fun o ho => ?_)
    obtain ⟨po, hpo, ρ', r, p1, p2, p3, p4, p5, p6, p7⟩ := ho
    replace hpo : po ∈ [_] := hpo
    have e := List.mem_singleton.mp hpo
    subst e
    cases p2
    have p6' : ax_HR ax_wC (lw_c axc1_51 0).2.1 hp o.2.1 := ay_HRw lw_w1.symm p6
    have x30 : ax_XM 1 130 [ρ' 0] o.2.1 := (ax_XF_lt (by decide)).mp (ax_gx p4 (130, [3]) (List.mem_append_right lw_GL List.mem_cons_self))
    rw [p1 0 (by decide)] at x30
    refine ⟨p7, by rw [lw_ev_vl p3, ax_vl_c (by decide)], lw_modS1 hB h31 hF hC p5 (lw_gx5 p4 (fun x hx => List.mem_append_left _ (show x ∈ lw_GL from hx))) p6' (by decide +kernel) (by decide +kernel) (by decide +kernel), ?_⟩
    unfold lw_fg
    rw [if_neg (by omega)]
    exact x30.2.2
set_option maxHeartbeats 1000000 in
theorem lw_endM1 (hA : ∀ B, ax_Low ax_wM1 (ax_XM 1) rx_P ax_APM1 rx_P (rx_DF, rx_FK) B) (hB : lw_B 1 ax_wM1 hp) (h31 : lw_31 hp) (hF : lw_F hp) {g k a : Nat} (hg : g % 4 = 1) (hM : lw_x30M g hp) (hC : lw_x30C k hp) (hv : a < 4294967296) :
    ax_Wp rx_P (rx_DF, rx_FK) rxm_47 (0, rx_args (702 :: [a].map rx_int) (rx_mL (rx_n rxm_47)), [], hp, [], 0, 0) (fun o => o.2.2 = [] ∧ o.1 % 4 = 0 ∧ (lw_B 1 ax_wM1 o.2.1 ∧ lw_31 o.2.1 ∧ lw_F o.2.1 ∧ lw_x30C k o.2.1 ∧ lw_fM hp o.2.1) ∧ lw_x30M (lw_eg g a) o.2.1) := by
  have hL := (hA (rx_rf (rx_n rxm_47) + 1) 47 rxm_47 (axm_47, axc1_47) rfl rfl).2 (Nat.lt_succ_self _)
  obtain ⟨n, n800, hn, hs⟩ := lw_szM1 hB.2.2.1 hM
  have hE : ∀ t, ax_ok ax_wM1 t (rx_int a) → ax_EO ax_wM1 (ax_XM 1) (lw_ro [g, rx_int a, 4 * n]) (3, [(0, 2147483648, 2147484448), t, (1, 0, 0)], [(702, 44, 11)], [], lw_GL ++ [(130, [3])]) hp := fun t ht =>
    lw_EOl (vs := [g, rx_int a, 4 * n]) (ts := [(1, 0, 0), t, (0, 2147483648, 2147484448)]) rfl (fun k u hu => by
      match k, hu with
      | 0, hu => cases hu; exact Or.inr (Or.inl ⟨rfl, hg⟩)
      | 1, hu => cases hu; exact ht
      | 2, hu => cases hu; exact lw_ok4 (n := n) (by omega) (by omega) (by omega)
      | k + 3, hu => cases hu) (fun f hf => by
      cases List.mem_singleton.mp hf
      exact lw_FOc (m := 2) (q := 173) (j := 11) rfl rfl hs (show 2 < 3 by decide) rfl) (lw_NG1 hB hM rfl (Nat.succ_pos _))
  by_cases hn' : a < 2147483648
  · refine ax_wp_mono (hL (lw_c axc1_47 1) (List.mem_cons_of_mem _ List.mem_cons_self) _ hp _ rfl (hE (0, 2147483648, 4294967295) (lw_ok4 (n := a) hn' (by omega) (by omega))) hB.2.2.1) (fun o ho => ?_)
    obtain ⟨po, hpo, ρ', r, p1, p2, p3, p4, p5, p6, p7⟩ := ho
    have c0 : ρ' 0 = g := p1 0 (by decide)
    have c1 : ρ' 1 = rx_int a := p1 1 (by decide)
    have c2 : ρ' 2 = 4 * n := p1 2 (by decide)
    have p6' : ax_HR ax_wC (lw_c axc1_47 1).2.1 hp o.2.1 := ay_HRw lw_w1.symm p6
    replace hpo : po ∈ [_, _] := hpo
    rcases List.mem_cons.mp hpo with e | hpo
    · subst e
      cases p2
      have x30 : ax_XM 1 130 [ρ' 0] o.2.1 := (ax_XF_lt (by decide)).mp (ax_gx p4 (130, [3]) (List.mem_append_right lw_GL List.mem_cons_self))
      have g0 : rx_bi (ρ' 2 / 4) < rx_bi (ρ' 1 / 4) := ax_gc p4 4 7 11 (by decide) (List.mem_append_right lw_GL (List.mem_cons_of_mem _ List.mem_cons_self))
      rw [c1, c2, lw_i4, show 4 * n / 4 = n by omega, lw_bi hn', lw_bi (by omega)] at g0
      rw [c0] at x30
      refine ⟨p7, by rw [lw_ev_vl p3, ax_vl_c (by decide)], lw_modS1 hB h31 hF hC p5 (lw_gx5 p4 (fun x hx => List.mem_append_left _ (show x ∈ lw_GL from hx))) p6' (by decide +kernel) (by decide +kernel) (by decide +kernel), ?_⟩
      unfold lw_eg
      rw [if_neg (by omega)]
      exact x30.2.2
    · have e := List.mem_singleton.mp hpo
      subst e
      cases p2
      have x30 : ax_XM 1 130 [ρ' 3] o.2.1 := (ax_XF_lt (by decide)).mp (ax_gx p4 (130, [15]) (List.mem_append_right lw_GL List.mem_cons_self))
      have x38 : ρ' 3 = pz_cut (ρ' 0) (ρ' 1 / 4) := (ax_XF_lt (by decide)).mp (ax_gx p4 (138, [3, 7, 15]) (List.mem_append_right lw_GL (List.mem_cons_of_mem _ List.mem_cons_self)))
      have g0 : rx_bi (ρ' 1 / 4) ≤ rx_bi (ρ' 2 / 4) := ax_gc p4 5 7 11 (by decide) (List.mem_append_right lw_GL (List.mem_cons_of_mem _ (List.mem_cons_of_mem _ List.mem_cons_self)))
      rw [c1, c2, lw_i4, show 4 * n / 4 = n by omega, lw_bi hn', lw_bi (by omega)] at g0
      rw [c0, c1, lw_i4] at x38
      refine ⟨p7, (ax_isK0 p4 (v := 7) (by decide +kernel) p3).1, lw_modS1 hB h31 hF hC p5 (lw_gx5 p4 (fun x hx => List.mem_append_left _ (show x ∈ lw_GL from hx))) p6' (by decide +kernel) (by decide +kernel) (by decide +kernel), ?_⟩
      unfold lw_eg
      rw [if_pos (by omega), ← x38]
      exact x30.2.2
  · refine ax_wp_mono (hL (lw_c axc1_47 0) List.mem_cons_self _ hp _ rfl (hE (0, 0, 2147483647) (by
      refine Or.inl ⟨rfl, lw_int4 a, by show rx_pl (rx_int a) < _; rw [lw_pl]; exact hv, Nat.zero_le _, ?_⟩
      show rx_bi (rx_pl (rx_int a)) ≤ _
      rw [lw_pl, lw_biN (by omega) hv]
      show a - 2147483648 ≤ 2147483647
      omega)) hB.2.2.1) (fun o ho => ?_)
    obtain ⟨po, hpo, ρ', r, p1, p2, p3, p4, p5, p6, p7⟩ := ho
    replace hpo : po ∈ [_] := hpo
    have e := List.mem_singleton.mp hpo
    subst e
    cases p2
    have c0 : ρ' 0 = g := p1 0 (by decide)
    have p6' : ax_HR ax_wC (lw_c axc1_47 0).2.1 hp o.2.1 := ay_HRw lw_w1.symm p6
    have x30 : ax_XM 1 130 [ρ' 0] o.2.1 := (ax_XF_lt (by decide)).mp (ax_gx p4 (130, [3]) (List.mem_append_right lw_GL List.mem_cons_self))
    rw [c0] at x30
    refine ⟨p7, by rw [lw_ev_vl p3, ax_vl_c (by decide)], lw_modS1 hB h31 hF hC p5 (lw_gx5 p4 (fun x hx => List.mem_append_left _ (show x ∈ lw_GL from hx))) p6' (by decide +kernel) (by decide +kernel) (by decide +kernel), ?_⟩
    unfold lw_eg
    rw [if_neg (by omega)]
    exact x30.2.2
/-- what the reference's net leaves: refused, accepted -/
noncomputable def lw_mN1 (g : Nat) (hp : rx_H) (o : rx_O) : Prop := ((∃ fa fp, pz63 (pz_gt g) (pz_gN g) fa fp) ∧ o.1 = 17179869180 ∧ ax_HR ax_wC ay_nM11 hp o.2.1 ∧ ay_TE 1 (fun j => ay_at hp 181 (40 * 1 + j)) o.2.1 ∧ ay_TR 1 (fun k => ay_at hp 182 (100 * 1 + k)) o.2.1) ∨ (pz_x126 g o.1 ∧ ay_NTh0 g o.2.1 ∧ ax_HT ax_wM0 o.2.1)
theorem lw_netM1 (hA2 : ∀ B, ax_Low ax_wM0 (ax_XM 0) rx_P ax_APM0 rx_P (rx_DF, rx_FK) B) (hB : lw_B 1 ax_wM1 hp) (h31 : lw_31 hp) {g v : Nat} (hg : g % 4 = 1) (hM : lw_x30M g hp) (hs : ay_at hp 8 1 = some 0) (hn : lw_nC g v hp) (hv : v % 4 = 0) :
    ax_Wp rx_P (rx_DF, rx_FK) rxm_272 (0, rx_args (702 :: ([] : List Nat).map rx_int) (rx_mL (rx_n rxm_272)), [], hp, [], 0, 0) (fun o => o.2.2 = [] ∧ o.1 = v ∧ lw_J o.2.1 ∧ lw_fM hp o.2.1 ∧ lw_mN1 g hp o) := by
  have hA : ∀ B, ax_Low ax_wM1 (ax_XT (ay_TE 1 (fun j => ay_at hp 181 (40 * 1 + j))) (ay_TR 1 (fun k => ay_at hp 182 (100 * 1 + k))) (ax_XM 1)) rx_P ax_APM1 rx_P (rx_DF, rx_FK) B := axLT_M1 _ _ rxP_ok
  have h5 : ∀ y ∈ lw_GL ++ [((130, [3]) : ax_N)], y.1 < 500 := by decide +kernel
  have hE : ax_EO ax_wM1 (ax_XT (ay_TE 1 (fun j => ay_at hp 181 (40 * 1 + j))) (ay_TR 1 (fun k => ay_at hp 182 (100 * 1 + k))) (ax_XM 1)) (lw_ro [g]) (1, [(1, 0, 0)], [], [], [(0, [80]), (1, []), (2, []), (25, []), (26, []), (130, [3])]) hp := lw_EOl (vs := [g]) (ts := [(1, 0, 0)]) rfl (fun k u hu => by
      match k, hu with
      | 0, hu => cases hu; exact Or.inr (Or.inl ⟨rfl, hg⟩)
      | k + 1, hu => cases hu) (fun f hf => by cases hf) (fun y hy => ax_XT_in (h5 y hy) (fun _ _ => rfl) (fun _ _ => rfl) (lw_NG1 hB hM rfl (Nat.succ_pos _) y hy))
  have hr : rxm_272 ∈ rx_P := ax_nth_mem (j := 272) rfl
  have m : ay_nMD1.all (fun x => !(lw_isC x.1)) = true := by decide +kernel
  have mR : ay_nM11.all (fun x => !(lw_isC x.1)) = true := by decide +kernel
  refine ax_wp_mono (ay_net1 rxP_ok hA hA2 hr (ax_tabB_ok axt_272) hE hB.2.2.1) (fun o ho => ?_)
  have fin : ∀ {b' : Nat} {wM' : ax_W}, lw_W b' wM' → ax_HT wM' o.2.1 → lw_XM5 b' o.2.1 → (∃ md : List (Nat × Nat), md.all (fun x => !(lw_isC x.1)) = true ∧ ax_HR ax_wC md hp o.2.1) → ay_at o.2.1 173 11 = some 0 → lw_nM g o.1 o.2.1 → o.1 % 4 = 0 → o.1 = v ∧ lw_K b' wM' o.2.1 := by
    intro b' wM' w' t1 t2 ⟨md, m, t3⟩ t4 t5 t6
    obtain ⟨s1, s2, s3⟩ := lw_sameC hB.1 t3 m
    have hB' := lw_mod w' hB t1 t2 t3 m
    have hn' : lw_nC g v o.2.1 := by
      unfold lw_nC at *
      rw [s1, s1]
      exact hn
    obtain ⟨r1, r2⟩ := lw_net2 hB'.1 hn' t5 hv t6
    refine ⟨r1.symm, hB', ⟨1, rfl, ?_, ?_⟩, ?_, r2⟩
    · unfold lw_x30C
      rw [s1, hs]
      exact ⟨rfl, by decide, fun j hj => absurd (show j < 0 from hj) (by omega)⟩
    · unfold lw_x30M
      rw [t4]
      exact ⟨rfl, by decide, fun j hj => absurd (show j < 0 from hj) (by omega)⟩
    · unfold lw_31 at *
      rw [s3, s3, s3, s3]
      exact h31
  rcases ho with ho | ⟨ho, hNT⟩
  · obtain ⟨po, hpo, ρ', r, p1, p2, p3, p4, p5, p6, p7⟩ := ho
    have e := List.mem_singleton.mp (show po ∈ [_] from hpo)
    subst e
    cases p2
    have c0 : ρ' 0 = g := p1 0 (by decide)
    have f0 := lw_FO (a := 702) (i := 44) (v := 0) (q := 173) (j := 11) p4 List.mem_cons_self rfl rfl
    rw [ax_vl_c (by decide)] at f0
    have v0 := lw_ev_vl p3
    rw [ax_vl_c (by decide)] at v0
    have p6' : ax_HR ax_wC ay_nM11 hp o.2.1 := ay_HRw lw_w1.symm p6
    have x : ax_XM 1 228 [ρ' 0] o.2.1 := ((ax_XF_lt (by decide)).mp (ax_gx p4 (228, [3]) (List.mem_append_right lw_GL List.mem_cons_self))).1
    have xe : ay_TE 1 (fun j => ay_at hp 181 (40 * 1 + j)) o.2.1 := ((ax_XF_lt (by decide)).mp (ax_gx p4 (25, []) (List.mem_append_left _ (show ((25, []) : ax_N) ∈ lw_GL by simp [lw_GL])))).2.1 rfl rfl
    have xr : ay_TR 1 (fun k => ay_at hp 182 (100 * 1 + k)) o.2.1 := ((ax_XF_lt (by decide)).mp (ax_gx p4 (26, []) (List.mem_append_left _ (show ((26, []) : ax_N) ∈ lw_GL by simp [lw_GL])))).2.2 rfl rfl
    rw [c0] at x
    obtain ⟨r1, r2⟩ := fin lw_W1 p5 (lw_gx5 (ax_XT_EO p4) (fun x hx => List.mem_append_left _ (show x ∈ lw_GL from hx))) ⟨_, mR, p6'⟩ f0 (Or.inl ⟨v0, x.2.2⟩) (by rw [v0])
    exact ⟨p7, r1, Or.inr r2, ⟨_, mR, p6'⟩, Or.inl ⟨⟨_, _, x.2.2⟩, v0, p6', xe, xr⟩⟩
  · obtain ⟨po, hpo, ρ', r, p1, p2, p3, p4, p5, p6, p7⟩ := ho
    have e := List.mem_singleton.mp (show po ∈ [_] from hpo)
    subst e
    cases p2
    have c0 : ρ' 0 = g := p1 0 (by decide)
    have f0 := lw_FO (a := 702) (i := 44) (v := 0) (q := 173) (j := 11) p4 List.mem_cons_self rfl rfl
    rw [ax_vl_c (by decide)] at f0
    have v0 : o.1 = ρ' 1 := lw_ev_vl p3
    have p6' : ax_HR ax_wC ay_nMD1 hp o.2.1 := ay_HRw lw_w0.symm p6
    have x : pz_x126 (ρ' 0) (ρ' 1) := (ax_XF_lt (x := 226) (by decide)).mp (ax_gx p4 (226, [3, 7]) (List.mem_append_right lw_GL List.mem_cons_self))
    have y : ax_XM 0 227 [] o.2.1 := lw_gx p4 (by decide) rfl (List.mem_append_right lw_GL (List.mem_cons_of_mem _ List.mem_cons_self))
    rw [c0, ← v0] at x
    obtain ⟨r1, r2⟩ := fin lw_W0 p5 (lw_gx5 p4 (fun x hx => List.mem_append_left _ (show x ∈ lw_GL from hx))) ⟨_, m, p6'⟩ f0 (Or.inr ⟨x, y.2.2⟩) (ax_isK0 p4 (v := 7) (by decide +kernel) p3).1
    exact ⟨p7, r1, Or.inl r2, ⟨_, m, p6'⟩, Or.inr ⟨x, hNT, p5⟩⟩

end LWS
end
