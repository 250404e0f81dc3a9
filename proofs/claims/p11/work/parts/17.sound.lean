noncomputable def rx_rkt (rk : Nat) (rt : Option FieldType) : Prop := (rk = 0 ∧ rt = none) ∨ (rk = 1 ∧ rt = some .int) ∨ (rk = 2 ∧ rt = some .boolean) ∨ (rk = 3 ∧ rt = some .long) ∨ (rk = 4 ∧ ∃ n, rt = some (.object n))
/-- what must hold of a method that is called -/
noncomputable def rx_QW (q : rx_M) : Prop := plainName (rx_y q).cls = true ∧ Jvm.Cond.code (rx_y q) (rx_b q) (rx_mL (rx_n q)) (rx_rt q) ∈ lw_G ∧ Jvm.Cond.initialized (rx_y q).cls ∈ lw_G ∧ (rx_y q).cls ≠ "java/lang/invoke/MethodHandle" ∧ (rx_y q).cls ≠ "java/lang/invoke/VarHandle" ∧ (parseMethodDescriptor (rx_y q).desc).map (fun d => d.parameters.length) = some (rx_np (rx_n q)) ∧ rx_sl (rx_n q) = 0 ∧ rx_rkt (rx_rk (rx_n q)) (rx_rt q)
/-- and of a place where one is called -/
noncomputable def rx_site (P : List rx_M) (own : String) (na nb : Nat) (ins : Instr) : Prop := match ins with
  | .invokevirtual i => (nb = 13 ∧ Jvm.Cond.methodLink own i yJ0_length_8abf5 ∈ lw_G) ∨ (nb = 17 ∧ Jvm.Cond.methodLink own i yJ0_charAt_5068e ∈ lw_G) ∨ (nb ≠ 1 ∧ nb ≠ 2 ∧ nb % 4 ≠ 1 ∧ ∃ q, rx_nth P na = some q ∧ Jvm.Cond.methodLink own i (rx_y q) ∈ lw_G ∧ Jvm.Cond.instanceMethod (rx_y q) ∈ lw_G ∧ Jvm.Cond.selects (rx_y q).cls (rx_y q) (rx_y q) ∈ lw_G ∧ (∃ T N, vwCl[nb / 4]? = some ((rx_y q).cls, T, N)) ∧ nb / 4 < 12)
  | .invokespecial i => (nb = 1 ∧ Jvm.Cond.methodLink own i objectInit ∈ lw_G ∧ Jvm.Cond.instanceMethod objectInit ∈ lw_G ∧ Jvm.Cond.code objectInit ⟨#[0xb1]⟩ 1 none ∈ lw_G) ∨ (nb ≠ 1 ∧ nb ≠ 2 ∧ nb % 4 ≠ 1 ∧ ∃ q, rx_nth P na = some q ∧ (rx_y q).name = "<init>" ∧ rx_rt q = none ∧ Jvm.Cond.instanceMethod (rx_y q) ∈ lw_G ∧ (Jvm.Cond.methodLink own i (rx_y q) ∈ lw_G ∨ ∃ host, Jvm.Cond.methodLinkNest own i (rx_y q) host ∈ lw_nest))
  | .invokestatic i => (nb = 2 ∧ Jvm.Cond.methodLink own i arraycopyName ∈ lw_G ∧ Jvm.Cond.native arraycopyName ∈ lw_G ∧ Jvm.Cond.static arraycopyName ∈ lw_G ∧ Jvm.Cond.initialized "java/lang/System" ∈ lw_G) ∨ (nb ≠ 1 ∧ nb ≠ 2 ∧ nb % 4 ≠ 1 ∧ ∃ q, rx_nth P na = some q ∧ Jvm.Cond.methodLink own i (rx_y q) ∈ lw_G ∧ Jvm.Cond.static (rx_y q) ∈ lw_G) ∨
    (nb = 5 ∧ Jvm.Cond.methodLink own i Lib.Math.max.name ∈ lw_G ∧ Jvm.Cond.static Lib.Math.max.name ∈ lw_G ∧ Jvm.Cond.initialized "java/lang/Math" ∈ lw_G ∧ Jvm.Cond.code Lib.Math.max.name Lib.Math.max.code 2 (some .int) ∈ lw_G) ∨
    (nb = 9 ∧ Jvm.Cond.methodLink own i Lib.Math.min.name ∈ lw_G ∧ Jvm.Cond.static Lib.Math.min.name ∈ lw_G ∧ Jvm.Cond.initialized "java/lang/Math" ∈ lw_G ∧ Jvm.Cond.code Lib.Math.min.name Lib.Math.min.code 2 (some .int) ∈ lw_G)
  | _ => True
noncomputable def rx_OK (P : List rx_M) (K : rx_K) (r : rx_M) (x : rx_E) : Prop := rx_dec (rx_b r) x.1 x.2.2.2.1 ∧ x.2.1 = rx_kd x.2.2.2.1 ∧ (x.2.1 = 0 → x.2.2.1 = rx_sem x.2.2.2.1) ∧ rx_wd K (rx_y r).cls (rx_y r).name x.1 x.2.2.2.2.2.1 x.2.2.2.2.2.2.1 x.2.2.2.1 ∧ rx_site P (rx_y r).cls x.2.2.2.2.2.1 x.2.2.2.2.2.2.1 x.2.2.2.1
noncomputable def rx_ST (P : List rx_M) (K : rx_K) (r : rx_M) : Prop := ∀ ch ∈ rx_cd r, ∀ x ∈ ch, rx_OK P K r x
theorem rx_find_ok {pc : Nat} : ∀ {ch : List rx_E} {x : rx_E}, rx_find pc ch = some x → x ∈ ch ∧ x.1 = pc
  | [], x, h => by cases h
  | y :: ch, x, h => by
    replace h : (bif Nat.beq y.1 pc then some y else rx_find pc ch) = some x := h
    cases hb : Nat.beq y.1 pc with
    | true =>
      rw [hb, cond_true] at h
      cases h
      exact ⟨List.mem_cons_self, rx_beq.mp hb⟩
    | false =>
      rw [hb, cond_false] at h
      obtain ⟨h1, h2⟩ := rx_find_ok h
      exact ⟨List.mem_cons_of_mem _ h1, h2⟩
theorem rx_look_ok {cd : List (List rx_E)} {pc : Nat} {x : rx_E} (h : rx_look cd pc = some x) : (∃ ch ∈ cd, x ∈ ch) ∧ x.1 = pc := by
  unfold rx_look at h
  rw [rx_nth_eq] at h
  cases e : cd[Nat.div pc 16]? with
  | none => rw [e] at h; cases h
  | some ch =>
    rw [e] at h
    obtain ⟨h1, h2⟩ := rx_find_ok h
    exact ⟨⟨ch, List.mem_of_getElem? e, h1⟩, h2⟩
theorem rx_all_ok {α β : Type} {f : α → Option (List β)} {l : List α} {outs : List β} (h : rx_all f l = some outs) : ∀ x ∈ l, ∃ o, f x = some o ∧ ∀ y ∈ o, y ∈ outs := by
  have gen : ∀ (l : List α) (outs : List β), l.foldr (fun x acc => match f x with
    | some a => (match acc with
      | some b => some (a ++ b)
      | none => none)
    | none => none) (some []) = some outs → ∀ x ∈ l, ∃ o, f x = some o ∧ ∀ y ∈ o, y ∈ outs := by
    intro l
    induction l with
    | nil => intro outs _ x hx; cases hx
    | cons z l ih =>
      intro outs h x hx
      rw [List.foldr_cons] at h
      cases hz : f z with
      | none => rw [hz] at h; cases h
      | some a =>
        rw [hz] at h
        dsimp only at h
        cases hb : l.foldr (fun x acc => match f x with
          | some a => (match acc with
            | some b => some (a ++ b)
            | none => none)
          | none => none) (some []) with
        | none => rw [hb] at h; cases h
        | some b =>
          rw [hb] at h
          cases h
          rcases List.mem_cons.mp hx with rfl | hx
          · exact ⟨a, hz, fun y hy => List.mem_append_left _ hy⟩
          · obtain ⟨o, h1, h2⟩ := ih b hb x hx
            exact ⟨o, h1, fun y hy => List.mem_append_right _ (h2 y hy)⟩
  match l, h with
  | [], h => intro x hx; cases hx
  | [z], h =>
    intro x hx
    rcases List.mem_cons.mp hx with rfl | hx
    · exact ⟨outs, h, fun _ hy => hy⟩
    · cases hx
  | z :: w :: l, h => exact gen (z :: w :: l) outs h
/-- the locals of a method that begins -/
theorem rx_args_ok {b : Nat → Nat} {ad : List Nat} {en : List Int32} : ∀ {as : List Nat} {asA : List Value} {n off : Nat}, as.map (rx_cv b ad en) = asA.map some → rx_cat as ≤ n → (rx_args as n).length = n ∧ ∀ i v : Nat, (rx_args as n)[i]? = some v → v ≠ 2 → ∃ x, rx_cv b ad en v = some x ∧ (off + i, x) ∈ lv_args off asA
  | [], asA, n, off, h, hc => by
    refine ⟨by show (List.replicate n 2).length = n; simp, fun i v hv h2 => ?_⟩
    replace hv : (List.replicate n 2)[i]? = some v := hv
    rw [List.getElem?_replicate] at hv
    by_cases hi : i < n
    · rw [if_pos hi] at hv; cases hv; exact absurd rfl h2
    · rw [if_neg hi] at hv; cases hv
  | w :: as, asA, n, off, h, hc => by
    obtain ⟨y, asB, rfl, hy, hB⟩ := rx_st_cons h
    have hcat := rx_cat_cv hy
    replace hc : (bif rx_isJ w then Nat.add (rx_cat as) 2 else Nat.succ (rx_cat as)) ≤ n := hc
    cases hj : rx_isJ w with
    | true =>
      rw [hj, cond_true] at hc
      replace hc : rx_cat as + 2 ≤ n := hc
      rw [hj] at hcat
      have ih := rx_args_ok (as := as) (n := n - 2) (off := off + 2) hB (by omega)
      have e : rx_args (w :: as) n = w :: 2 :: rx_args as (n - 2) := by show (bif rx_isJ w then w :: 2 :: rx_args as (n - 2) else w :: rx_args as (n - 1)) = _; rw [hj]; rfl
      rw [e]
      refine ⟨by simp only [List.length_cons, ih.1]; omega, fun i v hv h2 => ?_⟩
      have eA : lv_args off (y :: asB) = (off, y) :: lv_args (off + 2) asB := by simp [lv_args, hcat]
      rw [eA]
      match i, hv with
      | 0, hv => cases hv; exact ⟨y, hy, List.mem_cons_self⟩
      | 1, hv => cases hv; exact absurd rfl h2
      | i + 2, hv =>
        obtain ⟨x, h3, h4⟩ := ih.2 i v (by simpa using hv) h2
        exact ⟨x, h3, List.mem_cons_of_mem _ (by rw [show off + (i + 2) = off + 2 + i by omega]; exact h4)⟩
    | false =>
      rw [hj, cond_false] at hc
      replace hc : rx_cat as + 1 ≤ n := hc
      rw [hj] at hcat
      have ih := rx_args_ok (as := as) (n := n - 1) (off := off + 1) hB (by omega)
      have e : rx_args (w :: as) n = w :: rx_args as (n - 1) := by show (bif rx_isJ w then w :: 2 :: rx_args as (n - 2) else w :: rx_args as (n - 1)) = _; rw [hj]; rfl
      rw [e]
      refine ⟨by simp only [List.length_cons, ih.1]; omega, fun i v hv h2 => ?_⟩
      have eA : lv_args off (y :: asB) = (off, y) :: lv_args (off + 1) asB := by simp [lv_args, hcat]
      rw [eA]
      match i, hv with
      | 0, hv => cases hv; exact ⟨y, hy, List.mem_cons_self⟩
      | i + 1, hv =>
        obtain ⟨x, h3, h4⟩ := ih.2 i v (by simpa using hv) h2
        exact ⟨x, h3, List.mem_cons_of_mem _ (by rw [show off + (i + 1) = off + 1 + i by omega]; exact h4)⟩
theorem rx_lg_sl {b : Nat → Nat} {ad : List Nat} {en : List Int32} : ∀ {as : List Nat} {asA : List Value}, as.map (rx_cv b ad en) = asA.map some → (lg_sl asA).length = rx_cat as
  | [], [], _ => rfl
  | [], _ :: _, h => by cases h
  | _ :: _, [], h => by cases h
  | v :: as, x :: asA, h => by
    obtain ⟨x', r', e, hx, h⟩ := rx_st_cons h
    cases e
    have ih := rx_lg_sl h
    have hc := rx_cat_cv hx
    show (lg_sl (x :: asA)).length = (bif rx_isJ v then Nat.add (rx_cat as) 2 else Nat.succ (rx_cat as))
    have e2 : (lg_sl (x :: asA)).length = (if x.category = 2 then 2 else 1) + (lg_sl asA).length := by
      unfold lg_sl
      rw [List.flatMap_cons, List.length_append]
      by_cases h2 : x.category = 2 <;> simp [h2]
    rw [e2, ih]
    cases hj : rx_isJ v with
    | true => rw [hj] at hc; rw [if_pos (by rw [hc]; rfl)]; show 2 + rx_cat as = rx_cat as + 2; omega
    | false => rw [hj] at hc; rw [if_neg (by rw [hc]; decide)]; show 1 + rx_cat as = rx_cat as + 1; omega
