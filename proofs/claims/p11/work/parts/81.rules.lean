/-! The law's own instructions, one at a time -/
theorem lw_tk (n : Nat) : rx_tk (rx_int n) = 0 := by show 4 * n % 4 = 0; omega
theorem lw_pl (n : Nat) : rx_pl (rx_int n) = n := by show 4 * n / 4 = n; omega
theorem lw_isI (n : Nat) : rx_isI (rx_int n) = true := rx_or2.mpr (Or.inl (rx_beq.mpr (lw_tk n)))
theorem lw_nJ {v : Nat} (h : v % 4 ≠ 1) : rx_isJ v = false := Bool.eq_false_iff.mpr (fun z => h (rx_beq.mp z))
theorem lw_int4 (n : Nat) : rx_int n % 4 = 0 := lw_tk n
theorem lw_int_ne (n : Nat) : rx_int n % 4 ≠ 1 := by rw [lw_int4]; decide
noncomputable def lw_LV (i : Nat) : List Nat := [6, 10, 702, rx_int i]
noncomputable def lw_at (pc : Nat) (h : rx_Hd) (a : Nat) : Prop := ∃ x : rx_E, rx_look (rx_cd rxm_332) pc = some x ∧ x.2.1 = 0 ∧ x.2.2.1 = h ∧ x.2.2.2.2.2.1 = a
section LWR
variable {l : Launch} {cy : Nat → ClassId} {D : va_G} {L : Nat} {sx : Nat → Nat} {G : rx_S → Prop} {hp : rx_H} {c s i pc : Nat} {st : List Nat}
theorem lw_step (R : lw_Rules l cy D (rxl L sx) G) {a : Nat} {h : rx_Hd} (hat : lw_at pc h a) {lv : List Nat} {σ' : rx_S} (hh : ∀ nb, h (rx_DF, rx_FK) (rx_n (rxl L sx)) pc a nb lv st hp [] c s = some [σ']) (hG : G σ') : G (pc, lv, st, hp, [], c, s) := by
  obtain ⟨x, h1, h2, h3, h4⟩ := hat
  refine R.2.1 0 (pc + 1) 1 _ [σ'] ?_ (fun σ'' hσ => by rw [List.mem_singleton.mp hσ]; exact hG)
  show (bif Nat.beq pc (pc + 1) then some [(pc, lv, st, hp, [], c, s)] else rx_go rx_P (rx_DF, rx_FK) (rx_run rx_P (rx_DF, rx_FK) 0) (fun _ σ' => some [σ']) (fun _ => none) (rxl L sx) (pc, lv, st, hp, [], c, s)) = some [σ']
  rw [show Nat.beq pc (pc + 1) = false from Bool.eq_false_iff.mpr (fun z => by have := rx_beq.mp z; omega), cond_false]
  unfold rx_go
  dsimp only
  rw [show rx_look (rx_cd (rxl L sx)) pc = some x from h1]
  dsimp only
  unfold rx_do
  rw [h2, h3, h4]
  show rx_nxt (fun _ σ' => some [σ']) (rxl L sx) (h (rx_DF, rx_FK) (rx_n (rxl L sx)) pc a x.2.2.2.2.2.2.1 lv st hp [] c s) = some [σ']
  rw [hh]
  rfl
theorem lw_ar {f : Nat → Nat → Option Nat} {g : Nat → Nat × Nat} {K : rx_K} {N : rx_N} {na nb x y r : Nat} {lv : List Nat} (h : f x y = some r) : rx_h_ar f g K N pc na nb lv (rx_int y :: rx_int x :: st) hp [] c s = some [(Nat.add pc 1, lv, rx_int r :: st, hp, [], c, s)] := by
  unfold rx_h_ar
  show (bif Nat.beq (rx_tk (rx_kn [] (rx_int x))) 0 && Nat.beq (rx_tk (rx_kn [] (rx_int y))) 0 then (match f (rx_pl (rx_kn [] (rx_int x))) (rx_pl (rx_kn [] (rx_int y))) with
      | some n => some [(Nat.add pc 1, lv, rx_int n :: st, hp, [], c, s)]
      | none => none) else _) = _
  rw [ax_kn, ax_kn, lw_tk, lw_tk, lw_pl, lw_pl, h]
  rfl
theorem lw_iload (R : lw_Rules l cy D (rxl L sx) G) (hat : lw_at pc (rx_h_ld rx_isI 3 1) 0) (hG : G (Nat.add pc 1, lw_LV i, rx_int i :: st, hp, [], c, s)) : G (pc, lw_LV i, st, hp, [], c, s) :=
  lw_step R hat (fun _ => by
    show (bif rx_isI (rx_int i) then some [(Nat.add pc 1, lw_LV i, rx_int i :: st, hp, [], c, s)] else none) = _
    rw [lw_isI]
    rfl) hG
theorem lw_scr (R : lw_Rules l cy D (rxl L sx) G) {j : Nat} {lv : List Nat} (hj : j < L) (hat : lw_at pc (rx_h_ald (fun t => Nat.beq t 13)) 0) (hG : G (Nat.add pc 1, lv, rx_int (sx j) :: st, hp, [], c, s)) : G (pc, lv, rx_int j :: 6 :: st, hp, [], c, s) :=
  lw_step R hat (fun _ => by
    show (bif Nat.beq (rx_tk (rx_kn [] (rx_int j))) 0 && (true && Nat.blt (Nat.succ (rx_pl (rx_kn [] (rx_int j)))) (L + 1)) then some [(Nat.add pc 1, lv, rx_int (sx (rx_pl (rx_kn [] (rx_int j)))) :: st, hp, [], c, s)] else none) = _
    rw [ax_kn, lw_tk, lw_pl, show Nat.blt (Nat.succ j) (L + 1) = true from rx_blt.mpr (by show j + 1 < L + 1; omega)]
    rfl) hG
theorem lw_add {i k : Nat} (h : i + k < 4294967296) : rx_f_add i k = some (i + k) := by
  show some ((i + k) % 4294967296) = _
  rw [Nat.mod_eq_of_lt h]
/-- script[i + k] is pushed -/
theorem lw_push (R : lw_Rules l cy D (rxl L sx) G) (hL : L ≤ 3072) {k : Nat} (hk : i + k < L) (a0 : lw_at pc (rx_h_ld rx_isR 0 1) 0) (a1 : lw_at (pc + 1) (rx_h_ld rx_isI 3 1) 0) (a2 : lw_at (pc + 2) (rx_h_psh 1) k) (a3 : lw_at (pc + 3) (rx_h_ar rx_f_add rx_g32) 0) (a4 : lw_at (pc + 4) (rx_h_ald (fun t => Nat.beq t 13)) 0)
    (hG : G (pc + 5, lw_LV i, rx_int (sx (i + k)) :: st, hp, [], c, s)) : G (pc, lw_LV i, st, hp, [], c, s) := by
  refine lw_step R (σ' := (pc + 1, lw_LV i, 6 :: st, hp, [], c, s)) a0 (fun _ => rfl) ?_
  refine lw_iload R a1 ?_
  refine lw_step R (pc := pc + 2) (σ' := (pc + 3, lw_LV i, rx_int k :: rx_int i :: 6 :: st, hp, [], c, s)) a2 (fun _ => rfl) ?_
  refine lw_step R (σ' := (pc + 4, lw_LV i, rx_int (i + k) :: 6 :: st, hp, [], c, s)) a3 (fun _ => lw_ar (lw_add (by omega))) ?_
  exact lw_scr R hk a4 hG
theorem lw_pop (R : lw_Rules l cy D (rxl L sx) G) {v : Nat} {lv : List Nat} (hv : v % 4 ≠ 1) (hat : lw_at pc rx_h_pop 0) (hG : G (pc + 1, lv, st, hp, [], c, s)) : G (pc, lv, v :: st, hp, [], c, s) :=
  lw_step R hat (fun _ => by
    show (bif rx_isJ v then none else some [(Nat.add pc 1, lv, st, hp, [], c, s)]) = _
    rw [lw_nJ hv]
    rfl) hG
theorem lw_pop2 (R : lw_Rules l cy D (rxl L sx) G) {v : Nat} {lv : List Nat} (hv : v % 4 = 1) (hat : lw_at pc rx_h_pop2 0) (hG : G (pc + 1, lv, st, hp, [], c, s)) : G (pc, lv, v :: st, hp, [], c, s) :=
  lw_step R hat (fun _ => by
    show (bif rx_isJ v then some [(Nat.add pc 1, lv, st, hp, [], c, s)] else none) = _
    rw [show rx_isJ v = true from rx_beq.mpr hv]
    rfl) hG
theorem lw_goto (R : lw_Rules l cy D (rxl L sx) G) {t : Nat} {lv : List Nat} (hat : lw_at pc rx_h_goto t) (hG : G (t, lv, st, hp, [], c, s)) : G (pc, lv, st, hp, [], c, s) := lw_step R hat (fun _ => rfl) hG
/-- a comparison of two ints -/
theorem lw_cmp (R : lw_Rules l cy D (rxl L sx) G) {k : ClassFile.Cond} {t x y : Nat} {lv : List Nat} (hx : x % 4 = 0) (hy : y % 4 = 0) (hat : lw_at pc (rx_h_icmp k) t) (hG : ax_cnd (ax_cn k) (rx_bi (x / 4)) (rx_bi (y / 4)) → G (t, lv, st, hp, [], c, s)) (hG' : ¬ ax_cnd (ax_cn k) (rx_bi (x / 4)) (rx_bi (y / 4)) → G (pc + 3, lv, st, hp, [], c, s)) : G (pc, lv, y :: x :: st, hp, [], c, s) := by
  rcases ax_tri k (rx_bi (x / 4)) (rx_bi (y / 4)) with ⟨h1, h2⟩ | ⟨h1, h2⟩
  · refine lw_step R hat (fun _ => ?_) (hG h1)
    show rx_br k t pc x y (y :: x :: st) st lv hp [] c s = _
    unfold rx_br
    rw [ax_io hx, ax_io hy]
    dsimp only
    rw [h2]
  · refine lw_step R hat (fun _ => ?_) (hG' h1)
    show rx_br k t pc x y (y :: x :: st) st lv hp [] c s = _
    unfold rx_br
    rw [ax_io hx, ax_io hy]
    dsimp only
    rw [h2]
/-- a comparison of two longs that are alike -/
theorem lw_cmpJ (R : lw_Rules l cy D (rxl L sx) G) {t v : Nat} {lv : List Nat} (hv : v % 4 = 1) (h1 : lw_at pc rx_h_lcmp 0) (h2 : lw_at (pc + 1) (rx_h_if .eq) t) (hG : G (t, lv, st, hp, [], c, s)) : G (pc, lv, v :: v :: st, hp, [], c, s) := by
  have e : rx_f_lcmp (rx_pl v) (rx_pl v) = 0 := by
    show rx_i32 (lg_cmp (Int64.ofNat (rx_pl v)) (Int64.ofNat (rx_pl v))) = 0
    unfold lg_cmp
    rw [if_neg (fun z => Int64.lt_irrefl z), if_pos rfl]
    rfl
  refine lw_step R h1 (σ' := (pc + 1, lv, rx_int 0 :: st, hp, [], c, s)) (fun _ => ?_) ?_
  · show (bif rx_isJ v && rx_isJ v then some [(Nat.add pc 1, lv, rx_int (rx_f_lcmp (rx_pl v) (rx_pl v)) :: st, hp, [], c, s)] else none) = _
    rw [show rx_isJ v = true from rx_beq.mpr hv, e]
    rfl
  · refine lw_step R h2 (σ' := (t, lv, st, hp, [], c, s)) (fun _ => ?_) hG
    show rx_br .eq t (pc + 1) (rx_int 0) 0 (rx_int 0 :: st) st lv hp [] c s = _
    unfold rx_br
    rw [ax_io (show rx_int 0 % 4 = 0 from rfl), ax_io (show 0 % 4 = 0 from rfl)]
    dsimp only
    rcases ax_tri .eq (rx_bi (rx_int 0 / 4)) (rx_bi (0 / 4)) with ⟨_, k2⟩ | ⟨k1, _⟩
    · rw [k2]
    · exact absurd rfl k1
theorem rx_spl_mk : ∀ (pre acc rest : List Nat), rx_spl pre.length (pre ++ rest) acc = some (pre.reverse ++ acc, rest)
  | [], acc, rest => rfl
  | v :: pre, acc, rest => by
    show rx_spl pre.length (pre ++ rest) (v :: acc) = _
    rw [rx_spl_mk pre (v :: acc) rest]
    simp
theorem lw_cat : ∀ vals : List Nat, rx_cat (vals.map rx_int) = vals.length
  | [] => rfl
  | v :: vals => by
    show (bif rx_isJ (rx_int v) then Nat.add (rx_cat (vals.map rx_int)) 2 else Nat.succ (rx_cat (vals.map rx_int))) = _
    rw [lw_nJ (lw_int_ne v), lw_cat vals]
    rfl
/-- a call by contract -/
theorem lw_call (R : lw_Rules l cy D (rxl L sx) G) {j nb ref : Nat} {q : rx_M} (vals : List Nat) (rest : List Nat) {lv : List Nat} {Po : rx_O → Prop} (hx : ∃ x : rx_E, rx_look (rx_cd rxm_332) pc = some x ∧ x.2.1 = 4 ∧ x.2.2.2.2.2.1 = j ∧ x.2.2.2.2.2.2.1 = nb)
    (hnb : (!(Nat.beq nb 1) && (!(Nat.beq nb 2) && !(Nat.beq (Nat.mod nb 4) 1))) = true) (hq : rx_nth rx_P j = some q) (hn : rx_np (rx_n q) = vals.length) (hJ : ref % 4 ≠ 1) (hrc : rx_obj hp (Nat.div nb 4) ref = true)
    (hroom : (Nat.ble (Nat.succ (rx_rf (rx_n q))) 34 && (Nat.ble (Nat.add (Nat.add 19 (rx_mL (rx_n q))) (rx_rl (rx_n q))) 988 && (Nat.beq (rx_rc (rx_n q)) 0 && (Nat.beq (rx_rs (rx_n q)) 0 && Nat.ble (Nat.succ vals.length) (rx_mL (rx_n q)))))) = true) (hrest : rx_cat rest ≤ 8)
    (hW : ax_Wp rx_P (rx_DF, rx_FK) q (0, rx_args (ref :: vals.map rx_int) (rx_mL (rx_n q)), [], hp, [], 0, 0) Po) (hG : ∀ o, Po o → G (Nat.add pc 3, lv, (bif Nat.beq (rx_rk (rx_n q)) 0 then rest else o.1 :: rest), o.2.1, o.2.2, 205, 8956)) : G (pc, lv, (vals.map rx_int).reverse ++ ref :: rest, hp, [], 205, 8956) := by
  obtain ⟨o, h1, h2⟩ := ax_wp_at (l := l) (cy := cy) (D := D) rxP_ok (ax_nth_mem hq) hW
  obtain ⟨x, x1, x2, x3, x4⟩ := hx
  obtain ⟨n1, hnb⟩ := rx_and2.mp hnb
  obtain ⟨n2, n3⟩ := rx_and2.mp hnb
  obtain ⟨r1, hroom⟩ := rx_and2.mp hroom
  obtain ⟨r2, hroom⟩ := rx_and2.mp hroom
  obtain ⟨r3, hroom⟩ := rx_and2.mp hroom
  obtain ⟨r4, r5⟩ := rx_and2.mp hroom
  have r3 : rx_rc (rx_n q) = 0 := rx_beq.mp r3
  have r4 : rx_rs (rx_n q) = 0 := rx_beq.mp r4
  have hcat : rx_cat (ref :: vals.map rx_int) = Nat.succ vals.length := by
    show (bif rx_isJ ref then Nat.add (rx_cat (vals.map rx_int)) 2 else Nat.succ (rx_cat (vals.map rx_int))) = _
    rw [lw_nJ hJ, lw_cat vals]
    rfl
  have hok : rx_cok (rx_n (rxl L sx)) (rx_n q) (ref :: vals.map rx_int) rest 205 8956 = true := by
    unfold rx_cok
    rw [hcat, r3, r4]
    show (Nat.ble (rx_cat rest) 8 && (Nat.ble (Nat.succ (rx_rf (rx_n q))) 34 && (Nat.ble (Nat.add (Nat.add 19 (rx_mL (rx_n q))) (rx_rl (rx_n q))) 988 && (true && (true && Nat.ble (Nat.succ vals.length) (rx_mL (rx_n q))))))) = true
    rw [rx_ble.mpr hrest, r1, r2, r5]
    rfl
  have hspl : rx_spl (Nat.succ (rx_np (rx_n q))) ((vals.map rx_int).reverse ++ ref :: rest) [] = some (ref :: vals.map rx_int, rest) := by
    have e := rx_spl_mk ((vals.map rx_int).reverse ++ [ref]) [] rest
    rw [show ((vals.map rx_int).reverse ++ [ref]).length = Nat.succ (rx_np (rx_n q)) by rw [hn]; simp] at e
    rw [show (vals.map rx_int).reverse ++ ref :: rest = ((vals.map rx_int).reverse ++ [ref]) ++ rest by simp, e]
    simp
  have hc : rx_cal rx_P (rxl L sx) j (pc, lv, (vals.map rx_int).reverse ++ ref :: rest, hp, [], 205, 8956) = some (ref :: vals.map rx_int, rest) := by
    unfold rx_cal
    dsimp only
    rw [show rx_look (rx_cd (rxl L sx)) pc = some x from x1]
    dsimp only
    rw [hq]
    dsimp only
    rw [x2, x3, x4]
    show (match rx_spl (Nat.succ (rx_np (rx_n q))) ((vals.map rx_int).reverse ++ ref :: rest) [] with
      | some (as, rest) => bif true && (Nat.beq j j && (!(Nat.beq nb 1) && (!(Nat.beq nb 2) && (!(Nat.beq (Nat.mod nb 4) 1) && (rx_rcv hp (Nat.div nb 4) as && rx_cok (rx_n (rxl L sx)) (rx_n q) as rest 205 8956))))) then some (as, rest) else none
      | none => none) = _
    rw [hspl]
    dsimp only
    rw [hok, n1, n2, n3, Nat.beq_refl, show rx_rcv hp (Nat.div nb 4) (ref :: vals.map rx_int) = true from hrc]
    rfl
  refine R.2.2 j q (ref :: vals.map rx_int) rest [o] _ hq hc h1 (fun o' ho' => ?_)
  rw [List.mem_singleton.mp ho']
  have e := hG o h2
  show G (Nat.add pc 3, lv, (bif Nat.beq (rx_rk (rx_n q)) 0 then rest else o.1 :: rest), o.2.1, o.2.2, Nat.add 205 (rx_rc (rx_n q)), Nat.add 8956 (rx_rs (rx_n q)))
  rw [r3, r4]
  exact e
end LWR
