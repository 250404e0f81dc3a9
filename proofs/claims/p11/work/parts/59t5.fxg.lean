/-- what must hold of an instruction -/
noncomputable def fx_okI (FZ : List (List (Nat × Nat))) (x : ax_I) : Bool :=
  (!(Nat.beq x.2.1 7 && Nat.beq x.2.2.1 0) || Nat.blt x.2.2.2.2.1 4294967296) && ((!(Nat.beq x.2.1 23) || (Nat.beq (fx_fz FZ x.2.2.2.2.1 x.2.2.2.2.2.1).1 0 && Nat.blt x.2.2.2.2.1 12)) && (!(Nat.beq x.2.1 21) || Nat.blt (Nat.add x.2.2.1 (rx_len x.2.2.2.2.2.2)) 100000))
section FXV
variable {w : ax_W} {FZ : List (List (Nat × Nat))} {K : rx_K} {N : rx_N} {pc na nb : Nat} {lc sc : List Nat} {hp : rx_H} {l' : List rx_S}
theorem fx_step_ok (hFZ : FZ.length ≤ 12) (hn : ∀ p, fx_len w p < 4294967296) (hsl : rx_sl N = 0) {ins : Instr} {o i j : Nat} {tg : List Nat} (hnum : ax_num pc ins = some (o, i, j, tg)) (hok : fx_okI FZ (pc, o, i, j, na, nb, tg) = true) (hl : fx_ws lc) (hs : fx_ws sc) (hH : fx_H w K.2 FZ hp) (h : rx_sem ins K N pc na nb lc sc hp [] 0 0 = some l') : fx_Re w K.2 FZ (fun NX lv => fx_go1 w K.2 FZ NX (pc, o, i, j, na, nb, tg) pc lv (sc.map fx_d) (fx_hp hp)) lc hp l' := by
  obtain ⟨k1, hok⟩ := rx_and2.mp hok
  obtain ⟨k2, k3⟩ := rx_and2.mp hok
  have bin : ∀ (q : Nat) {l0 : Option (List rx_S)}, q ≤ 10 → (l0 = some l' → ∃ (x y r : Nat) (s' : List Nat), sc = y :: x :: s' ∧ x % 4 = 0 ∧ y % 4 = 0 ∧ ax_f q (x / 4) (y / 4) = some r ∧ l' = [(Nat.add pc 1, lc, rx_int r :: s', hp, [], 0, 0)]) → l0 = some l' → fx_Re w K.2 FZ (fun NX lv => fx_go1 w K.2 FZ NX (pc, 10, q, 0, na, nb, []) pc lv (sc.map fx_d) (fx_hp hp)) lc hp l' := fun q l0 _ hh h => fx_t_bin hh hl hs hH h
  cases ins with
  | iload_n k => cases hnum; exact fx_t_ld (K := K) (N := N) (na := na) (nb := nb) (t := 0) (by decide) hl hs hH h
  | aload_n k => cases hnum; exact fx_t_ld (K := K) (N := N) (na := na) (nb := nb) (t := 2) (by decide) hl hs hH h
  | lload_n k => cases hnum; exact fx_t_ld (K := K) (N := N) (na := na) (nb := nb) (t := 1) (by decide) hl hs hH h
  | iload i => cases hnum; exact fx_t_ld (K := K) (N := N) (na := na) (nb := nb) (t := 0) (by decide) hl hs hH h
  | lload i => cases hnum; exact fx_t_ld (K := K) (N := N) (na := na) (nb := nb) (t := 1) (by decide) hl hs hH h
  | istore_n k => cases hnum; exact fx_t_sto (K := K) (N := N) (na := na) (nb := nb) hl hs hH h
  | astore_n k => cases hnum; exact fx_t_sto (K := K) (N := N) (na := na) (nb := nb) hl hs hH h
  | istore i => cases hnum; exact fx_t_sto (K := K) (N := N) (na := na) (nb := nb) hl hs hH h
  | lstore_n k => cases hnum; exact fx_t_stJ (K := K) (N := N) (na := na) (nb := nb) hl hs hH h
  | lstore i => cases hnum; exact fx_t_stJ (K := K) (N := N) (na := na) (nb := nb) hl hs hH h
  | iconst k => cases hnum; exact fx_t_psh (K := K) (N := N) (na := na) (nb := nb) (rx_blt.mp k1) hl hs hH h
  | bipush k => cases hnum; exact fx_t_psh (K := K) (N := N) (na := na) (nb := nb) (rx_blt.mp k1) hl hs hH h
  | sipush k => cases hnum; exact fx_t_psh (K := K) (N := N) (na := na) (nb := nb) (rx_blt.mp k1) hl hs hH h
  | ldc_w k => cases hnum; exact fx_t_psh (K := K) (N := N) (na := na) (nb := nb) (rx_blt.mp k1) hl hs hH h
  | ldc k => cases hnum; exact fx_t_ldc (K := K) (N := N) (na := na) (nb := nb) hl hs hH h
  | lconst k => cases hnum; exact fx_t_pshJ (K := K) (N := N) (na := na) (nb := nb) hl hs hH h
  | ldc2_w k => cases hnum; exact fx_t_pshJ (K := K) (N := N) (na := na) (nb := nb) hl hs hH h
  | iinc i k => cases hnum; exact fx_t_inc (K := K) (N := N) (na := na) (nb := nb) hl hs hH h
  | iadd => cases hnum; exact bin 0 (by decide) (fun h => fx_ar (f := rx_f_add) (g := rx_g32) (K := K) (N := N) (na := na) (nb := nb) hs h) h
  | isub => cases hnum; exact bin 1 (by decide) (fun h => fx_ar (f := rx_f_sub) (g := rx_g32) (K := K) (N := N) (na := na) (nb := nb) hs h) h
  | imul => cases hnum; exact bin 2 (by decide) (fun h => fx_ar (f := rx_f_mul) (g := rx_g32) (K := K) (N := N) (na := na) (nb := nb) hs h) h
  | iand => cases hnum; exact bin 3 (by decide) (fun h => fx_ar (f := rx_f_and) (g := rx_gand) (K := K) (N := N) (na := na) (nb := nb) hs h) h
  | ior => cases hnum; exact bin 4 (by decide) (fun h => fx_ark (f := rx_f_or) (K := K) (N := N) (na := na) (nb := nb) h) h
  | ixor => cases hnum; exact bin 5 (by decide) (fun h => fx_ark (f := rx_f_xor) (K := K) (N := N) (na := na) (nb := nb) h) h
  | ishl => cases hnum; exact bin 6 (by decide) (fun h => fx_ar (f := rx_f_shl) (g := rx_g32) (K := K) (N := N) (na := na) (nb := nb) hs h) h
  | ishr => cases hnum; exact bin 7 (by decide) (fun h => fx_ark (f := rx_f_shr) (K := K) (N := N) (na := na) (nb := nb) h) h
  | iushr => cases hnum; exact bin 8 (by decide) (fun h => fx_ar (f := rx_f_ushr) (g := rx_g32) (K := K) (N := N) (na := na) (nb := nb) hs h) h
  | idiv => cases hnum; exact bin 9 (by decide) (fun h => fx_ark (f := rx_f_div) (K := K) (N := N) (na := na) (nb := nb) h) h
  | irem => cases hnum; exact bin 10 (by decide) (fun h => fx_ark (f := rx_f_rem) (K := K) (N := N) (na := na) (nb := nb) h) h
  | ineg => cases hnum; exact fx_t_un (K := K) (N := N) (na := na) (nb := nb) (i := 0) (f := rx_f_neg) (fun x => i_neg_eq x) (fun _ => fx_i32 _) hl hs hH h
  | i2b => cases hnum; exact fx_t_un (K := K) (N := N) (na := na) (nb := nb) (i := 1) (f := rx_f_i2b) (fun x => i_2b_eq x) (fun _ => fx_i32 _) hl hs hH h
  | ladd => cases hnum; exact fx_t_arJ (K := K) (N := N) (na := na) (nb := nb) (i := 0) (f := rx_j_add) (fun _ _ => rfl) hl hs hH h
  | lsub => cases hnum; exact fx_t_arJ (K := K) (N := N) (na := na) (nb := nb) (i := 1) (f := rx_j_sub) (fun _ _ => rfl) hl hs hH h
  | lmul => cases hnum; exact fx_t_arJ (K := K) (N := N) (na := na) (nb := nb) (i := 2) (f := rx_j_mul) (fun _ _ => rfl) hl hs hH h
  | land => cases hnum; exact fx_t_arJ (K := K) (N := N) (na := na) (nb := nb) (i := 3) (f := rx_j_and) (fun _ _ => rfl) hl hs hH h
  | lor => cases hnum; exact fx_t_arJ (K := K) (N := N) (na := na) (nb := nb) (i := 4) (f := rx_j_or) (fun _ _ => rfl) hl hs hH h
  | lxor => cases hnum; exact fx_t_arJ (K := K) (N := N) (na := na) (nb := nb) (i := 5) (f := rx_j_xor) (fun _ _ => rfl) hl hs hH h
  | lshl => cases hnum; exact fx_t_shJ (K := K) (N := N) (na := na) (nb := nb) (i := 0) (f := rx_j_shl) (fun _ _ => rfl) hl hs hH h
  | lshr => cases hnum; exact fx_t_shJ (K := K) (N := N) (na := na) (nb := nb) (i := 1) (f := rx_j_shr) (fun _ _ => rfl) hl hs hH h
  | lcmp => cases hnum; exact fx_t_lcmp (K := K) (N := N) (na := na) (nb := nb) (i := 0) hl hs hH h
  | dup => cases hnum; exact fx_t_dup (K := K) (N := N) (na := na) (nb := nb) (i := 0) hl hs hH h
  | pop => cases hnum; exact fx_t_pop (K := K) (N := N) (na := na) (nb := nb) (i := 0) hl hs hH h
  | dup2 => cases hnum; exact fx_t_dup2 (K := K) (N := N) (na := na) (nb := nb) (i := 0) hl hs hH h
  | goto off => cases hnum; exact fx_t_goto (pc := pc) (K := K) (N := N) (na := na) (nb := nb) (i := 0) hl hs hH h
  | ifCond k off => cases hnum; exact fx_t_if (K := K) (N := N) (na := na) (nb := nb) hl hs hH h
  | if_icmp k off => cases hnum; exact fx_t_icmp (K := K) (N := N) (na := na) (nb := nb) hl hs hH h
  | tableswitch d lo hi offs =>
    have h21 : o = 21 := by
      obtain ⟨-, h2⟩ := rx_cond hnum
      cases h2
      rfl
    have h0 : j = 0 := by
      obtain ⟨-, h2⟩ := rx_cond hnum
      cases h2
      rfl
    subst h21
    subst h0
    refine fx_t_tsw (K := K) (N := N) (na := na) (nb := nb) hnum ?_ hl hs hH h
    have : Nat.add i (rx_len tg) < 100000 := rx_blt.mp k3
    rw [rx_len_eq] at this
    exact this
  | getfield k => cases hnum; exact fx_t_gf (K := K) (N := N) (na := na) (nb := nb) (i := 0) hl hs hH h
  | putfield k =>
    cases hnum
    obtain ⟨z1, z2⟩ := rx_and2.mp (show (Nat.beq (fx_fz FZ na nb).1 0 && Nat.blt na 12) = true from k2)
    exact fx_t_pf (K := K) (N := N) (na := na) (nb := nb) (i := 0) z1 (rx_blt.mp z2) hl hs hH h
  | arraylength => cases hnum; exact fx_t_alen (K := K) (N := N) (na := na) (nb := nb) hsl hl hs hH h hn
  | iaload => cases hnum; exact fx_t_ald (K := K) (N := N) (na := na) (nb := nb) (ok := fun t => Nat.beq t 13) (i := 13) rfl (fun t j ht => by rw [rx_beq.mp ht]; rfl) hsl hl hs hH h
  | baload => cases hnum; exact fx_t_ald (K := K) (N := N) (na := na) (nb := nb) (ok := fun t => Nat.beq t 12 || Nat.beq t 15) (i := 12) rfl (fun t j ht => by rcases rx_or2.mp ht with z | z <;> rw [rx_beq.mp z] <;> rfl) hsl hl hs hH h
  | laload => cases hnum; exact fx_t_ald (K := K) (N := N) (na := na) (nb := nb) (ok := fun t => Nat.beq t 14) (i := 14) rfl (fun t j ht => by rw [rx_beq.mp ht]; rfl) hsl hl hs hH h
  | aaload => cases hnum; exact fx_t_ald (K := K) (N := N) (na := na) (nb := nb) (ok := fun t => Nat.beq t 16) (i := 16) rfl (fun t j ht => by rw [rx_beq.mp ht]; rfl) hsl hl hs hH h
  | iastore =>
    cases hnum
    refine fx_t_ast (na := na) (nb := nb) (ok := fun t v => Nat.beq t 13 && rx_isI v) (i := 13) (fun t j x wx hk => ?_) hFZ hl hs hH h
    obtain ⟨a, b⟩ := rx_and2.mp hk
    rw [rx_beq.mp a]
    exact ⟨by decide, fx_isI wx b⟩
  | bastore =>
    cases hnum
    refine fx_t_ast (na := na) (nb := nb) (ok := fun t v => (Nat.beq t 12 && rx_within [] v 2147483520 2147483775) || (Nat.beq t 15 && rx_bit v)) (i := 12) (fun t j x wx hk => ?_) hFZ hl hs hH h
    rcases rx_or2.mp hk with hk | hk
    · obtain ⟨a, b⟩ := rx_and2.mp hk
      rw [rx_beq.mp a]
      refine ⟨by decide, ?_⟩
      unfold rx_within rx_io at b
      cases h0 : Nat.beq (rx_tk x) 0 with
      | true => exact rx_beq.mp h0
      | false =>
        rw [h0, cond_false, show Nat.beq (rx_tk x) 3 = false from Bool.eq_false_iff.mpr (fun z => wx.1 (rx_beq.mp z))] at b
        cases b
    · obtain ⟨a, b⟩ := rx_and2.mp hk
      rw [rx_beq.mp a]
      refine ⟨by decide, ?_⟩
      rcases rx_or2.mp b with b | b <;> rw [rx_beq.mp b] <;> rfl
  | lastore =>
    cases hnum
    refine fx_t_ast (na := na) (nb := nb) (ok := fun t v => Nat.beq t 14 && rx_isJ v) (i := 14) (fun t j x wx hk => ?_) hFZ hl hs hH h
    obtain ⟨a, b⟩ := rx_and2.mp hk
    rw [rx_beq.mp a]
    exact ⟨by decide, rx_beq.mp b⟩
  | aastore =>
    cases hnum
    refine fx_t_ast (na := na) (nb := nb) (ok := fun t v => Nat.beq t 16 && rx_obj hp 7 v) (i := 16) (fun t j x wx hk => ?_) hFZ hl hs hH h
    obtain ⟨a, b⟩ := rx_and2.mp hk
    rw [rx_beq.mp a]
    obtain ⟨b1, -⟩ := rx_and2.mp b
    exact ⟨by decide, rx_beq.mp b1⟩
  | _ => cases hnum
end FXV
