/-! Loops: heads with templates; a symbol of a head that rises (1) or falls (2), or of which a fact says that it falls (3) -/
/-- a place to come to: pc, how many symbols are the same, how it is measured, by which symbol, template -/
abbrev ax_G : Type := Nat × Nat × Nat × Nat × ax_T
noncomputable def ax_ms3 (l : List Nat) (v k : Nat) : Bool := match l with
  | [x, y] => Nat.beq x v && Nat.beq y k
  | _ => false
noncomputable def ax_ms (E : ax_E) (fl k : Nat) (m : List (Nat × Nat)) : Bool :=
  bif Nat.beq fl 0 then true else (match ax_lk m k with
    | some v => bif Nat.beq fl 3 then (ax_xf E).any (fun x => Nat.beq x.1 1030 && ax_ms3 x.2 v (ax_sym k)) else (ax_df E).any (fun d => (Nat.beq d.1 (ax_sym k) && (Nat.beq d.2.2 v && (Nat.beq (rx_tk d.2.1) 0 && (bif Nat.beq fl 1 then Nat.blt 0 (rx_pl d.2.1) && Nat.blt (rx_pl d.2.1) 2147483648 else Nat.ble 2147483648 (rx_pl d.2.1) && Nat.blt (rx_pl d.2.1) 4294967296)))) || (Nat.beq fl 2 && (Nat.beq d.1 v && (Nat.beq d.2.2 (ax_sym k) && (Nat.beq (rx_tk d.2.1) 0 && (Nat.blt 0 (rx_pl d.2.1) && Nat.blt (rx_pl d.2.1) 2147483648))))))
    | none => false)
noncomputable def ax_hit (w : ax_W) (a : ax_A) (t : ax_G) : Bool := Nat.beq a.1 t.1 && (ax_nil a.2.2.1 && (match ax_match w a.2.2.2 t.2.1 t.2.2.2.2 (ax_mask t.2.2.2.2.1 a.2.1) with
  | some m => ax_ms a.2.2.2 t.2.2.1 t.2.2.2.1 m
  | none => false))
/-- the pcs that have a rule, as bits: a step at any other asks no rule -/
noncomputable def ax_rmk (rl : List ax_RL) : Nat := List.rec (motive := fun _ => Nat) 0 (fun r _ ih => Nat.lor (Nat.shiftLeft 1 r.1) ih) rl
noncomputable def ax_rlq (w : ax_W) (rl : List ax_RL) (a : ax_A) : List ax_A := bif Nat.beq (Nat.land (Nat.shiftRight (ax_rmk rl) a.1) 1) 0 then [a] else ax_rls w rl a
theorem ax_rlq_ok {w : ax_W} {X : ax_X} {hp : rx_H} (hX : ax_XD w X) {rl : List ax_RL} (hrl : ∀ r ∈ rl, ax_RO w X r) {ρ : Nat → Nat} {a : ax_A} {σ : rx_S} (hR : ax_R w X ρ a hp σ) : ∃ a1 ∈ ax_rlq w rl a, ∃ ρ' : Nat → Nat, (∀ k, k < a.2.2.2.1 → ρ' k = ρ k) ∧ a.2.2.2.1 ≤ a1.2.2.2.1 ∧ ax_R w X ρ' a1 hp σ := by
  unfold ax_rlq
  cases Nat.beq (Nat.land (Nat.shiftRight (ax_rmk rl) a.1) 1) 0 with
  | true => exact ax_rls_ok hX (rl := []) (fun r h => absurd h List.not_mem_nil) hR
  | false => exact ax_rls_ok hX hrl hR
noncomputable def ax_tp (w : ax_W) (P : List rx_M) (K : rx_K) (AP : List ax_M) (md : List (Nat × Nat)) (g : rx_N → List (List ax_I) → ax_A → Option (List ax_O)) (rl : List ax_RL) (sp : List Nat) (rn : rx_N) (cd : List (List ax_I)) (n : Nat) : ax_A → Option (List (Nat × ax_A)) := Nat.rec (fun _ => none) (fun _ ih a => rx_all (fun b => ax_go w P K AP md g (fun a' => bif sp.any (fun p => Nat.beq p a'.1) then some [(0, a')] else ih a') (fun o => some [(1, (0, [], [o.1], o.2))]) rn cd b) (ax_rlq w rl a)) n
noncomputable def ax_end (w : ax_W) (n0 : Nat) (ps : List ax_T) (tg : List ax_G) (x : Nat × ax_A) : Bool := bif Nat.beq x.1 0 then tg.any (fun t => ax_hit w x.2 t) else ps.any (fun po => match ax_match w x.2.2.2.2 n0 po x.2.2.2.1 with
  | some _ => true
  | none => false)
/-- what all checks of a method have in common: world, methods, code, what may be written, ends, places to stop, steps -/
noncomputable def ax_blk (w : ax_W) (P : List rx_M) (K : rx_K) (AP : List ax_M) (md : List (Nat × Nat)) (rn : rx_N) (cd : List (List ax_I)) (n0 : Nat) (ps : List ax_T) (rl : List ax_RL) (sp : List Nat) (n : Nat) (tg : List ax_G) (a : ax_A) : Bool := match ax_tp w P K AP md (ax_rn w P K AP md n) rl sp rn cd n a with
  | some l => l.all (fun x => ax_end w n0 ps tg x)
  | none => false
/-- loops in loops: pc, measure, symbol, template -/
noncomputable def ax_Tr : Nat → Type := fun d => Nat.rec Unit (fun _ t => List ((Nat × Nat × Nat × ax_T) × t)) d
noncomputable def ax_ckS {τ : Type} (blk : List ax_G → ax_A → Bool) (ih : Nat → List ax_G → τ → Option (List ax_G)) (f : Nat) (tg : List ax_G) (h : (Nat × Nat × Nat × ax_T) × τ) (later : Option (List ax_G)) : Option (List ax_G) := match later with
  | some tl => (match ih (ax_n h.1.2.2.2.2) ((bif Nat.beq h.1.2.1 0 then [] else [(h.1.1, f, h.1.2.1, h.1.2.2.1, h.1.2.2.2)]) ++ (tl ++ tg)) h.2 with
    | some inner => bif Nat.ble f (ax_n h.1.2.2.2.2) && (((Nat.beq h.1.2.1 0 || Nat.ble f h.1.2.2.1) && (Nat.ble h.1.2.1 3 && Nat.blt h.1.2.2.1 (ax_n h.1.2.2.2.2))) && blk (inner ++ ((bif Nat.beq h.1.2.1 0 then [] else [(h.1.1, f, h.1.2.1, h.1.2.2.1, h.1.2.2.2)]) ++ (tl ++ tg))) (h.1.1, h.1.2.2.2.1, [], h.1.2.2.2.2)) then some ((h.1.1, f, 0, 0, h.1.2.2.2) :: tl) else none
    | none => none)
  | none => none
noncomputable def ax_ckL {τ : Type} (blk : List ax_G → ax_A → Bool) (ih : Nat → List ax_G → τ → Option (List ax_G)) (f : Nat) (tg : List ax_G) (tr : List ((Nat × Nat × Nat × ax_T) × τ)) : Option (List ax_G) := List.rec (motive := fun _ => Option (List ax_G)) (some []) (fun h _ later => ax_ckS blk ih f tg h later) tr
noncomputable def ax_ck (blk : List ax_G → ax_A → Bool) (d : Nat) : Nat → List ax_G → ax_Tr d → Option (List ax_G) := Nat.rec (motive := fun d => Nat → List ax_G → ax_Tr d → Option (List ax_G)) (fun _ _ _ => some []) (fun d ih f tg (tr : List ((Nat × Nat × Nat × ax_T) × ax_Tr d)) => ax_ckL blk ih f tg tr) d
/-- A CONTRACT IS CHECKED -/
noncomputable def ax_chk (w : ax_W) (P : List rx_M) (K : rx_K) (AP : List ax_M) (rn : rx_N) (cd : List (List ax_I)) (C : ax_C) (rl : List ax_RL) (sp : List Nat) (n d : Nat) (tr : ax_Tr d) : Bool := match ax_ck (ax_blk w P K AP C.2.1 rn cd (ax_n C.1.2) C.2.2 rl sp n) d (ax_n C.1.2) [] tr with
  | some tl => ax_blk w P K AP C.2.1 rn cd (ax_n C.1.2) C.2.2 rl sp n tl (0, ax_args C.1.2 C.1.1 (rx_mL rn), [], C.1.2) && C.2.2.all (fun po => match po.1 with
    | [_] => true
    | _ => false)
  | none => false
-- it is right
noncomputable def ax_mu (ρ : Nat → Nat) (fl k : Nat) : Nat := if fl = 3 then ρ k else if fl = 1 then 4294967296 - rx_bi (ρ k / 4) else rx_bi (ρ k / 4)
section AXL
variable {w : ax_W} {X : ax_X} {md : List (Nat × Nat)} {ρ : Nat → Nat} {hp hp0 : rx_H} {P : List rx_M} {K : rx_K} {AP : List ax_M} {l : Launch} {cy : Nat → ClassId} {D : va_G} {r : rx_M} {B : Nat} {Po : rx_O → Prop}
/-- whoever comes there ends well -/
noncomputable def ax_TV (w : ax_W) (X : ax_X) (md : List (Nat × Nat)) (hp0 : rx_H) (P : List rx_M) (K : rx_K) (r : rx_M) (Po : rx_O → Prop) (ρ : Nat → Nat) (t : ax_G) : Prop := ∀ (ρ' : Nat → Nat) (hp' : rx_H) (σ' : rx_S), (∀ k, k < t.2.1 → ρ' k = ρ k) → ax_R w X ρ' (t.1, t.2.2.2.2.1, [], t.2.2.2.2.2) hp' σ' → ax_HR w md hp0 hp' → (t.2.2.1 ≠ 0 → ax_mu ρ' t.2.2.1 t.2.2.2.1 < ax_mu ρ t.2.2.1 t.2.2.2.1) → ax_Wp P K r σ' Po
noncomputable def ax_fz (f : Nat) (t : ax_G) : Prop := t.2.1 ≤ f ∧ (t.2.2.1 ≠ 0 → t.2.2.2.1 < f)
theorem ax_TV.ag {t : ax_G} {ρ' : Nat → Nat} {f : Nat} (h : ax_TV w X md hp0 P K r Po ρ t) (hf : ax_fz f t) (ha : ∀ k, k < f → ρ' k = ρ k) : ax_TV w X md hp0 P K r Po ρ' t := by
  intro ρ2 hp2 σ2 h1 h2 h3 h4
  refine h ρ2 hp2 σ2 (fun k hk => (h1 k hk).trans (ha k (Nat.lt_of_lt_of_le hk hf.1))) h2 h3 (fun hn => ?_)
  have := h4 hn
  unfold ax_mu at this ⊢
  rw [ha _ (hf.2 hn)] at this
  exact this
theorem ax_ms_ok {E : ax_E} (hE : ax_EO w X ρ E hp) {fl k f : Nat} {m : List (Nat × Nat)} (hm : ax_me E.1 ρ m) (hfl : fl = 1 ∨ fl = 2 ∨ fl = 3) (hkf : f ≤ k) (h : ax_ms E fl k m = true) : ax_mu (ax_rm f m E.1 ρ) fl k < ax_mu ρ fl k := by
  unfold ax_ms at h
  rw [show Nat.beq fl 0 = false from Bool.eq_false_iff.mpr (fun z => by have := rx_beq.mp z; omega), cond_false] at h
  cases ev : ax_lk m k with
  | none => rw [ev] at h; cases h
  | some v =>
    rw [ev] at h
    dsimp only at h
    obtain ⟨x, hx⟩ := hm k v ev
    have e : ax_rm f m E.1 ρ k = x := by
      unfold ax_rm
      rw [if_neg (by omega), ev]
      show (ax_ev E.1 ρ v).getD 0 = x
      rw [hx]
      rfl
    have sk : ∀ y, ax_ev E.1 ρ (ax_sym k) = some y → ρ k = y := by
      intro y hy
      unfold ax_ev at hy
      have e1 : ax_sym k % 4 = 3 := by show (4 * k + 3) % 4 = 3; omega
      have e2 : ax_sym k / 4 = k := by show (4 * k + 3) / 4 = k; omega
      rw [if_pos e1, e2] at hy
      by_cases hl : k < E.1
      · rw [if_pos hl] at hy; exact Option.some.inj hy
      · rw [if_neg hl] at hy; cases hy
    rcases ax_condY h with ⟨h3, h⟩ | ⟨h3, h⟩
    · have h3 := rx_beq.mp h3
      subst h3
      obtain ⟨d, hd, hz⟩ := List.any_eq_true.mp h
      obtain ⟨z1, z2⟩ := rx_and2.mp hz
      have z1 := rx_beq.mp z1
      obtain ⟨d1, d2⟩ := d
      dsimp only at z1
      subst z1
      unfold ax_ms3 at z2
      split at z2
      · rename_i x' y' hxy
        obtain ⟨z3, z4⟩ := rx_and2.mp z2
        have z3 := rx_beq.mp z3
        have z4 := rx_beq.mp z4
        subst z3 z4
        obtain ⟨vs, q1, q2⟩ := hE.2.2.2.2 _ hd
        dsimp only at hxy q1 q2
        rw [hxy] at q1
        obtain ⟨x1, r1, e3, k1, p1⟩ := ax_evs_cons q1
        obtain ⟨x2, r2, e4, k2, p2⟩ := ax_evs_cons p1
        have e5 : r2 = [] := by cases r2 with | nil => rfl | cons _ _ => cases p2
        subst e5 e4 e3
        cases k1.symm.trans hx
        unfold ax_mu
        rw [if_pos rfl, if_pos rfl, e, sk _ k2]
        rcases (ax_XF_bi (o := 30) (by decide)).mp q2 with ⟨k', k3, k4, -⟩ | ⟨-, k5⟩
        · omega
        · exact k5
      · cases z2
    have hfl : fl = 1 ∨ fl = 2 := by
      have : fl ≠ 3 := fun z => by rw [z] at h3; cases h3
      omega
    have hn3 : ¬ (fl = 3) := by omega
    obtain ⟨d, hd, hz⟩ := List.any_eq_true.mp h
    obtain ⟨a, b, c, g1, g2, g3, g4, g5, g6, g7⟩ := hE.2.2.2.1 d hd
    have tk0 : ∀ u y, Nat.beq (rx_tk u) 0 = true → ax_ev E.1 ρ u = some y → y = u := by
      intro u y hu hy
      have hu : u % 4 = 0 := rx_beq.mp hu
      rw [ax_ev_c (by omega)] at hy
      exact (Option.some.inj hy).symm
    have d4 : ∀ z : Nat, 4 * z / 4 = z := fun z => by omega
    rcases rx_or2.mp hz with hz | hz
    · obtain ⟨z1, hz⟩ := rx_and2.mp hz
      obtain ⟨z2, hz⟩ := rx_and2.mp hz
      obtain ⟨z3, z4⟩ := rx_and2.mp hz
      have z1 := rx_beq.mp z1
      have z2 := rx_beq.mp z2
      rw [z1] at g1
      rw [z2, hx] at g3
      have hk := sk _ g1
      have hx4 := Option.some.inj g3
      have hb := tk0 _ _ z3 g2
      have hpl : rx_pl d.2.1 = b := by show d.2.1 / 4 = b; rw [← hb, d4]
      rw [hpl] at z4
      unfold ax_mu
      rw [if_neg hn3, if_neg hn3, e, hk, hx4, d4, d4]
      rw [ax_bi_def, ax_bi_def, ax_bi_def] at g7
      rcases hfl with rfl | rfl
      · rw [if_pos rfl, if_pos rfl]
        replace z4 : (Nat.blt 0 b && Nat.blt b 2147483648) = true := z4
        obtain ⟨p1, p2⟩ := rx_and2.mp z4
        have p1 := rx_blt.mp p1
        have p2 := rx_blt.mp p2
        rw [ax_bi_def, ax_bi_def]
        omega
      · rw [if_neg (by decide), if_neg (by decide)]
        replace z4 : (Nat.ble 2147483648 b && Nat.blt b 4294967296) = true := z4
        obtain ⟨p1, p2⟩ := rx_and2.mp z4
        have p1 := rx_ble.mp p1
        have p2 := rx_blt.mp p2
        rw [ax_bi_def, ax_bi_def]
        omega
    · obtain ⟨z0, hz⟩ := rx_and2.mp hz
      obtain ⟨z1, hz⟩ := rx_and2.mp hz
      obtain ⟨z2, hz⟩ := rx_and2.mp hz
      obtain ⟨z3, hz⟩ := rx_and2.mp hz
      obtain ⟨p1, p2⟩ := rx_and2.mp hz
      have z0 := rx_beq.mp z0
      subst z0
      have z1 := rx_beq.mp z1
      have z2 := rx_beq.mp z2
      rw [z1, hx] at g1
      rw [z2] at g3
      have hk := sk _ g3
      have hx4 := Option.some.inj g1
      have hb := tk0 _ _ z3 g2
      have hpl : rx_pl d.2.1 = b := by show d.2.1 / 4 = b; rw [← hb, d4]
      rw [hpl] at p1 p2
      have p1 := rx_blt.mp p1
      have p2 := rx_blt.mp p2
      unfold ax_mu
      rw [if_neg hn3, if_neg hn3, e, hk, hx4, d4, d4, if_neg (by decide), if_neg (by decide)]
      rw [ax_bi_def, ax_bi_def, ax_bi_def] at g7
      rw [ax_bi_def, ax_bi_def]
      omega
/-- a run up to the next stops -/
theorem ax_tp_ok (hP : ∀ q ∈ P, rx_QW q ∧ rx_ST P K q) (hX : ax_XD w X) (hA : ax_Low w X P AP P K B) (hr : r ∈ P) (hB : rx_rf (rx_n r) ≤ B) {cd : List (List ax_I)} (htab : ax_tab r cd) {g : rx_N → List (List ax_I) → ax_A → Option (List ax_O)} (hg : ax_SGB w X md P P K B g) {rl : List ax_RL} (hrl : ∀ x ∈ rl, ax_RO w X x) {sp : List Nat} : ∀ (n : Nat) (a : ax_A) (lst : List (Nat × ax_A)), ax_tp w P K AP md g rl sp (rx_n r) cd n a = some lst → ∀ (ρ : Nat → Nat) (hp : rx_H) (σ : rx_S), ax_R w X ρ a hp σ → ax_HR w md hp0 hp →
    (∀ x ∈ lst, ∀ (ρ' : Nat → Nat) (hp' : rx_H), (∀ k, k < a.2.2.2.1 → ρ' k = ρ k) → a.2.2.2.1 ≤ x.2.2.2.2.1 → ax_HR w md hp0 hp' → (x.1 = 0 → ∀ σ', ax_R w X ρ' x.2 hp' σ' → ax_Wp P K r σ' Po) ∧ (x.1 = 1 → ∀ (o : rx_O) (v : Nat), x.2.2.2.1 = [v] → ax_ev x.2.2.2.2.1 ρ' v = some o.1 → ax_EO w X ρ' x.2.2.2.2 hp' → ax_HT w hp' → o.2 = (hp', []) → Po o)) → ax_Wp P K r σ Po
  | 0, a, lst, h, _, _, _, _, _, _ => by cases h
  | n + 1, a, lst, h, ρ, hp, σ, hR, hH, hc => by
    replace h : rx_all (fun b => ax_go w P K AP md g (fun a' => bif sp.any (fun p => Nat.beq p a'.1) then some [(0, a')] else ax_tp w P K AP md g rl sp (rx_n r) cd n a') (fun o => some [(1, (0, [], [o.1], o.2))]) (rx_n r) cd b) (ax_rlq w rl a) = some lst := h
    obtain ⟨b, hb, ρb, b1, b2, b3⟩ := ax_rlq_ok hX hrl hR
    obtain ⟨lb, h, hbl⟩ := rx_all_ok h b hb
    refine ax_go_ok hP hX hA hr hB htab hg h b3 ?_ ?_
    · intro a' o' h1 hsub ρ' hp' σ' q1 q2 q3 q4
      have q1' : ∀ k, k < a.2.2.2.1 → ρ' k = ρ k := fun k hk => (q1 k (Nat.lt_of_lt_of_le hk b2)).trans (b1 k hk)
      have q2' : a.2.2.2.1 ≤ a'.2.2.2.1 := Nat.le_trans b2 q2
      rcases ax_condY h1 with ⟨-, h1⟩ | ⟨-, h1⟩
      · cases h1
        exact (hc (0, a') (hbl _ (hsub _ List.mem_cons_self)) ρ' hp' q1' q2' (hH.tr q4)).1 rfl σ' q3
      · refine ax_tp_ok hP hX hA hr hB htab hg hrl n a' o' h1 ρ' hp' σ' q3 (hH.tr q4) ?_
        intro x hx ρ2 hp2 s1 s2 s3
        exact hc x (hbl x (hsub x hx)) ρ2 hp2 (fun k hk => (s1 k (Nat.lt_of_lt_of_le hk q2')).trans (q1' k hk)) (Nat.le_trans q2' s2) s3
    · intro oa o' h1 hsub o ho
      cases h1
      obtain ⟨ρ', s1, s2, s3, s4, s5, s6, s7⟩ := ho
      have s1' : ∀ k, k < a.2.2.2.1 → ρ' k = ρ k := fun k hk => (s1 k (Nat.lt_of_lt_of_le hk b2)).trans (b1 k hk)
      have hc' := (hc (1, (0, [], [oa.1], oa.2)) (hbl _ (hsub _ List.mem_cons_self)) ρ' o.2.1 s1' (Nat.le_trans b2 s2) (hH.tr s6)).2 rfl o oa.1 rfl s3 s4 s5
      exact hc' (by obtain ⟨o1, o2, o3⟩ := o; dsimp only at s7; rw [s7])
theorem ax_mask_len : ∀ (ts xs : List Nat), (ax_mask ts xs).length = xs.length
  | [], xs => rfl
  | t :: ts, [] => rfl
  | t :: ts, x :: xs => by
    show ((bif Nat.beq t 2 then 2 else x) :: ax_mask ts xs).length = _
    rw [List.length_cons, List.length_cons, ax_mask_len ts xs]
theorem ax_mask_get : ∀ (ts xs : List Nat) (i v : Nat), (ax_mask ts xs)[i]? = some v → v ≠ 2 → xs[i]? = some v
  | [], xs, i, v, h, _ => h
  | t :: ts, [], i, v, h, _ => by cases h
  | t :: ts, x :: xs, 0, v, h, hv => by
    replace h : some (bif Nat.beq t 2 then 2 else x) = some v := h
    cases hb : Nat.beq t 2 with
    | true => rw [hb] at h; cases h; exact absurd rfl hv
    | false => rw [hb] at h; exact h
  | t :: ts, x :: xs, i + 1, v, h, hv => by
    replace h : (ax_mask ts xs)[i]? = some v := h
    exact ax_mask_get ts xs i v h hv
noncomputable def ax_wf (t : ax_G) : Prop := t.2.2.1 = 0 ∨ ((t.2.2.1 = 1 ∨ t.2.2.1 = 2 ∨ t.2.2.1 = 3) ∧ t.2.1 ≤ t.2.2.2.1)
/-- how a contract's ends are meant -/
noncomputable def ax_PO (w : ax_W) (X : ax_X) (md : List (Nat × Nat)) (hp0 : rx_H) (n0 : Nat) (ps : List ax_T) (ρ0 : Nat → Nat) (o : rx_O) : Prop := ∃ po ∈ ps, ∃ (ρ' : Nat → Nat) (r : Nat), (∀ k, k < n0 → ρ' k = ρ0 k) ∧ po.1 = [r] ∧ ax_ev po.2.1 ρ' r = some o.1 ∧ ax_EO w X ρ' po.2 o.2.1 ∧ ax_HT w o.2.1 ∧ ax_HR w md hp0 o.2.1 ∧ o.2.2 = []
theorem ax_blk_ok (hP : ∀ q ∈ P, rx_QW q ∧ rx_ST P K q) (hX : ax_XD w X) (hA : ax_Low w X P AP P K B) (hr : r ∈ P) (hB : rx_rf (rx_n r) ≤ B) {cd : List (List ax_I)} (htab : ax_tab r cd) {rl : List ax_RL} (hrl : ∀ x ∈ rl, ax_RO w X x) {sp : List Nat} {n n0 : Nat} {ps : List ax_T} {tg : List ax_G} {a : ax_A} {ρ0 : Nat → Nat} {σ : rx_S} (h : ax_blk w P K AP md (rx_n r) cd n0 ps rl sp n tg a = true) (hps : ∀ po ∈ ps, ∃ v, po.1 = [v])
    (hR : ax_R w X ρ a hp σ) (hH : ax_HR w md hp0 hp) (hn0 : n0 ≤ a.2.2.2.1) (hρ0 : ∀ k, k < n0 → ρ k = ρ0 k) (htg : ∀ t ∈ tg, ax_wf t ∧ t.2.1 ≤ a.2.2.2.1 ∧ ax_fz a.2.2.2.1 t ∧ ax_TV w X md hp0 P K r (ax_PO w X md hp0 n0 ps ρ0) ρ t) : ax_Wp P K r σ (ax_PO w X md hp0 n0 ps ρ0) := by
  unfold ax_blk at h
  cases ht : ax_tp w P K AP md (ax_rn w P K AP md n) rl sp (rx_n r) cd n a with
  | none => rw [ht] at h; cases h
  | some lst =>
    rw [ht] at h
    refine ax_tp_ok hP hX hA hr hB htab (ax_rn_ok hP hX hA n) hrl n a lst ht ρ hp σ hR hH ?_
    intro x hx ρ' hp' q1 q2 q3
    have he := List.all_eq_true.mp h x hx
    unfold ax_end at he
    refine ⟨fun x0 σ' hR' => ?_, fun x1 o v hv hev hE' hT' ho => ?_⟩
    · rw [x0, show Nat.beq 0 0 = true from rfl, cond_true] at he
      obtain ⟨t, ht1, ht2⟩ := List.any_eq_true.mp he
      obtain ⟨b1, ht2⟩ := rx_and2.mp ht2
      obtain ⟨b2, ht2⟩ := rx_and2.mp ht2
      cases hm : ax_match w x.2.2.2.2 t.2.1 t.2.2.2.2 (ax_mask t.2.2.2.2.1 x.2.2.1) with
      | none => rw [hm] at ht2; cases ht2
      | some m =>
        rw [hm] at ht2
        dsimp only at ht2
        obtain ⟨hwf, hft, hfz, hTV⟩ := htg t ht1
        obtain ⟨s1, s2, s3, s4⟩ := σ'
        obtain ⟨R1, R2', R3, R4, R5, R6⟩ := hR'
        have R2 := ax_mask_ev (ts := t.2.2.2.2.1) R2'
        obtain ⟨m1, m2, m3⟩ := ax_match_ok R5 R2 hm
        dsimp only at R1 R2 R3 R4 m1
        have hst : s3 = [] := by
          cases hz : x.2.2.2.1 with
          | nil => rw [hz] at R3; cases s3 with | nil => rfl | cons _ _ => cases R3
          | cons _ _ => rw [hz] at b2; cases b2
        subst hst
        subst R4
        refine ax_wp_forget hP hr (ax_mask_len t.2.2.2.2.1 s2) (ax_mask_get t.2.2.2.2.1 s2) ?_
        refine hTV (ax_rm t.2.1 m x.2.2.2.2.1 ρ') hp' _ (fun k hk => (ax_rm_lt hk).trans (q1 k (Nat.lt_of_lt_of_le hk hft))) ⟨R1.trans (rx_beq.mp b1), m1, rfl, rfl, m2, R6⟩ q3 (fun hn => ?_)
        rcases hwf with hw | ⟨hw1, hw2⟩
        · exact absurd hw hn
        · have hms := ax_ms_ok R5 (ax_match_me R5 R2 hm) hw1 hw2 ht2
          have e : ax_mu ρ' t.2.2.1 t.2.2.2.1 = ax_mu ρ t.2.2.1 t.2.2.2.1 := by
            unfold ax_mu
            rw [q1 _ (hfz.2 hn)]
          rw [e] at hms
          exact hms
    · rw [x1, show Nat.beq 1 0 = false from rfl, cond_false] at he
      obtain ⟨po, hpo, hz⟩ := List.any_eq_true.mp he
      cases hm : ax_match w x.2.2.2.2 n0 po x.2.2.2.1 with
      | none => rw [hm] at hz; cases hz
      | some m =>
        rw [hv] at hm
        obtain ⟨m1, m2, m3⟩ := ax_match_ok (xs := [o.1]) hE' (by show [ax_ev x.2.2.2.2.1 ρ' v] = [some o.1]; rw [hev]) hm
        obtain ⟨rv, hrv⟩ := hps po hpo
        rw [hrv] at m1
        have m1 := (List.cons.injEq _ _ _ _).mp m1
        refine ⟨po, hpo, ax_rm n0 m x.2.2.2.2.1 ρ', rv, fun k hk => (ax_rm_lt hk).trans ((q1 k (Nat.lt_of_lt_of_le hk hn0)).trans (hρ0 k hk)), hrv, m1.1, ?_, ?_, ?_, ?_⟩
        · rw [ho]; exact m2
        · rw [ho]; exact hT'
        · rw [ho]; exact q3
        · rw [ho]
end AXL
