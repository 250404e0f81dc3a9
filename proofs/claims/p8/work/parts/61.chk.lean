noncomputable def rx_hasN (w : Nat × Nat) (own : String) (i : Nat) (y : MethodName) (host : String) : Bool := match rx_nth (rx_tb w.1) w.2 with
  | some z => decide (z = Jvm.Cond.methodLinkNest own i y host)
  | none => false
theorem rx_hasN_ok {w : Nat × Nat} {own : String} {i : Nat} {y : MethodName} {host : String} (h : rx_hasN w own i y host = true) : Jvm.Cond.methodLinkNest own i y host ∈ lw_nest := by
  unfold rx_hasN at h
  rw [rx_nth_eq] at h
  cases e : (rx_tb w.1)[w.2]? with
  | none => rw [e] at h; cases h
  | some z =>
    rw [e] at h
    have e2 : z = _ := of_decide_eq_true h
    subst e2
    exact List.mem_filter.mpr ⟨rx_tb_in (List.mem_of_getElem? e), rfl⟩
/-- what the tables say of a class -/
noncomputable def rx_CL (K : rx_K) (na : Nat) : Prop := ∃ (C : String) (T : u_T) (Nf : Nat) (ty0 : Nat → FieldType) (fs : List Value) (l : List Nat), vwCl[na]? = some (C, T, Nf) ∧ (∀ k, k < Nf → parseFieldDescriptor (T k).2.2.1 = some (ty0 k)) ∧ (∀ a, a < Nf → ∀ b, b < Nf → a ≠ b → (T a).2.1 ≠ (T b).2.1) ∧ (∀ w ∈ u_ws C T Nf, w ∈ lw_G) ∧ (∀ nb ks k, nb < Nf → rx_nth K.2 na = some ks → rx_nth ks nb = some k → rx_fkt k (ty0 nb)) ∧
  rx_nth K.1 na = some l ∧ l.length = Nf ∧ (∀ b ad en, l.map (rx_cv b ad en) = fs.map some) ∧ (∀ j, j < Nf → defaultValue (ty0 j) = vp_V fs j) ∧ Jvm.Cond.instantiable C Nf ∈ lw_G ∧ Jvm.Cond.initialized C ∈ lw_G
noncomputable def rx_wI (q : rx_M) : Nat × Nat := q.2.2.2.2.1
noncomputable def rx_wS (q : rx_M) : Nat × Nat := q.2.2.2.2.2.1
noncomputable def rx_wC (q : rx_M) : Nat × Nat := q.2.2.2.1
noncomputable def rx_wN (q : rx_M) : Nat × Nat := q.2.2.2.2.2.2
abbrev rx_XT : Type := (Nat × Nat) × (Nat × Nat) × (Nat × Nat) × (Nat × Nat) × (Nat × Nat) × (Nat × Nat) × (Nat × Nat) × (Nat × Nat) × (Nat × Nat) × (Nat × Nat)
/-- the notes of an instruction, by program; X: where five words of the JDK stand -/
noncomputable def rx_cw (X : rx_XT) (P : List rx_M) (own mn : String) (pc na nb : Nat) (w : Nat × Nat) (ins : Instr) : Bool := match ins with
  | .iinc _ n => decide (Int32.ofInt n = Int32.ofNat na)
  | .iconst n => decide (Int32.ofInt n = Int32.ofNat na)
  | .bipush n => decide ((Int8.ofInt n).toInt32 = Int32.ofNat na)
  | .sipush n => decide ((Int16.ofInt n).toInt32 = Int32.ofNat na)
  | .lconst n => decide (Int64.ofNat n.val = Int64.ofNat na)
  | .ldc_w i => rx_has w (.constant own i (Int32.ofNat na))
  | .ldc i => bif Nat.beq (rx_tk na) 0 then rx_has w (.constant own i (Int32.ofNat (rx_pl na))) else rx_isW na && (decide (own = "TurnNet$Reader") && decide (i = rx_sidx.getD (Nat.sub (rx_pl na) 1000) 0))
  | .ldc2_w i => rx_has w (.constantLong own i (Int64.ofNat na))
  | .goto off => decide ((pc : Int) + off = (na : Int))
  | .ifCond _ off => decide ((pc : Int) + off = (na : Int))
  | .if_icmp _ off => decide ((pc : Int) + off = (na : Int))
  | .tableswitch d _ _ _ => decide ((pc : Int) + d = (na : Int))
  | .getfield i => (match rx_nth vwCl na with
    | some q => Nat.blt na 12 && (Nat.blt nb q.2.2 && rx_has w (.fieldLink own i (q.2.1 nb).1 (q.2.1 nb).2.1 (q.2.1 nb).2.2.1))
    | none => false)
  | .putfield i => (match rx_nth vwCl na with
    | some q => Nat.blt na 12 && (Nat.blt nb q.2.2 && (rx_has w (.fieldLink own i (q.2.1 nb).1 (q.2.1 nb).2.1 (q.2.1 nb).2.2.1) && (decide ((q.2.1 nb).2.2.2 = false) || (decide ((q.2.1 nb).2.2.2 = true) && (decide (mn = "<init>") && decide ((q.2.1 nb).1 = own))))))
    | none => false)
  | .newarray t => rx_has w (.arrayClass (newarray.typeOf t))
  | .anewarray i => rx_has w (.classLink own i "TurnNet$State")
  | .new i => (match rx_nth vwCl na with
    | some q => Nat.blt na 12 && rx_has w (.classLink own i q.1)
    | none => false)
  | .invokevirtual i => bif Nat.beq nb 13 then rx_has w (.methodLink own i yJ0_length_8abf5) else bif Nat.beq nb 17 then rx_has w (.methodLink own i yJ0_charAt_5068e) else (match rx_nth P na with
    | some q => decide (nb ≠ 1) && (decide (nb ≠ 2 ∧ nb % 4 ≠ 1) && (rx_has w (.methodLink own i (rx_y q)) && (rx_has (rx_wI q) (.instanceMethod (rx_y q)) && (rx_has (rx_wS q) (.selects (rx_y q).cls (rx_y q) (rx_y q)) && (Nat.blt (nb / 4) 12 && (match rx_nth vwCl (nb / 4) with
      | some z => decide (z.1 = (rx_y q).cls)
      | none => false))))))
    | none => false)
  | .invokespecial i => bif Nat.beq nb 1 then rx_has w (.methodLink own i objectInit) && (rx_has X.1 (.instanceMethod objectInit) && rx_has X.2.1 (.code objectInit ⟨#[0xb1]⟩ 1 none)) else (match rx_nth P na with
    | some q => decide (nb ≠ 1) && (decide (nb ≠ 2 ∧ nb % 4 ≠ 1) && (decide ((rx_y q).name = "<init>") && (decide (rx_rt q = none) && (rx_has (rx_wI q) (.instanceMethod (rx_y q)) && (rx_has w (.methodLink own i (rx_y q)) || rx_hasN w own i (rx_y q) "TurnNet")))))
    | none => false)
  | .invokestatic i => bif Nat.beq nb 2 then rx_has w (.methodLink own i arraycopyName) && (rx_has X.2.2.1 (.native arraycopyName) && (rx_has X.2.2.2.1 (.static arraycopyName) && rx_has X.2.2.2.2.1 (.initialized "java/lang/System"))) else bif Nat.beq nb 5 then rx_has w (.methodLink own i Lib.Math.max.name) && (rx_has X.2.2.2.2.2.2.1 (.static Lib.Math.max.name) && (rx_has X.2.2.2.2.2.1 (.initialized "java/lang/Math") && rx_has X.2.2.2.2.2.2.2.1 (.code Lib.Math.max.name Lib.Math.max.code 2 (some .int)))) else bif Nat.beq nb 9 then rx_has w (.methodLink own i Lib.Math.min.name) && (rx_has X.2.2.2.2.2.2.2.2.1 (.static Lib.Math.min.name) && (rx_has X.2.2.2.2.2.1 (.initialized "java/lang/Math") && rx_has X.2.2.2.2.2.2.2.2.2 (.code Lib.Math.min.name Lib.Math.min.code 2 (some .int)))) else (match rx_nth P na with
    | some q => decide (nb ≠ 1) && (decide (nb ≠ 2 ∧ nb % 4 ≠ 1) && (rx_has w (.methodLink own i (rx_y q)) && rx_has (rx_wI q) (.static (rx_y q))))
    | none => false)
  | _ => true
noncomputable def rx_cd1 (bytes : ByteArray) (pc len : Nat) (ins : Instr) : Bool := decide (decode bytes pc = .ok (ins, len)) && (match ins with
  | .tableswitch _ _ _ _ => true
  | i => Nat.beq len (rx_ln i))
theorem rx_cd1_ok {bytes : ByteArray} {pc len : Nat} {ins : Instr} (h : rx_cd1 bytes pc len ins = true) : rx_dec bytes pc ins := by
  obtain ⟨h1, h2⟩ := rx_and2.mp h
  have h1 : decode bytes pc = .ok (ins, len) := of_decide_eq_true h1
  cases ins with
  | tableswitch d lo hi offs => exact ⟨len, h1⟩
  | _ => have h2 := rx_beq.mp h2; rw [h2] at h1; exact h1
theorem rx_cw_wd {X : rx_XT} {P : List rx_M} {K : rx_K} (hCL : ∀ na, na < 12 → rx_CL K na) {own mn : String} {pc na nb : Nat} {w : Nat × Nat} {ins : Instr} (h : rx_cw X P own mn pc na nb w ins = true) : rx_wd K own mn pc na nb ins := by
  cases ins with
  | iinc i n => exact (show Int32.ofInt n = Int32.ofNat na from of_decide_eq_true h)
  | iconst n => exact (show Int32.ofInt n = Int32.ofNat na from of_decide_eq_true h)
  | bipush n => exact (show (Int8.ofInt n).toInt32 = Int32.ofNat na from of_decide_eq_true h)
  | sipush n => exact (show (Int16.ofInt n).toInt32 = Int32.ofNat na from of_decide_eq_true h)
  | lconst n => exact (show Int64.ofNat n.val = Int64.ofNat na from of_decide_eq_true h)
  | ldc_w i => exact rx_has_ok h
  | ldc i =>
    replace h : (bif Nat.beq (rx_tk na) 0 then rx_has w (.constant own i (Int32.ofNat (rx_pl na))) else rx_isW na && (decide (own = "TurnNet$Reader") && decide (i = rx_sidx.getD (Nat.sub (rx_pl na) 1000) 0))) = true := h
    cases hb : Nat.beq (rx_tk na) 0 with
    | true =>
      rw [hb, cond_true] at h
      have h0 : na % 4 = 0 := rx_beq.mp hb
      exact Or.inl ⟨na / 4, by omega, rx_has_ok h⟩
    | false =>
      rw [hb, cond_false] at h
      obtain ⟨d1, h⟩ := rx_and2.mp h
      obtain ⟨d2, d3⟩ := rx_and2.mp h
      obtain ⟨e1, d1⟩ := rx_and2.mp d1
      obtain ⟨e2, e3⟩ := rx_and2.mp d1
      have e1 : na % 4 = 2 := rx_beq.mp e1
      have e2 : 1000 ≤ na / 4 := rx_ble.mp e2
      have e3 : na / 4 < 1008 := rx_blt.mp e3
      exact Or.inr ⟨na / 4 - 1000, by omega, by omega, of_decide_eq_true d2, of_decide_eq_true d3⟩
  | ldc2_w i => exact rx_has_ok h
  | goto off => exact (show (pc : Int) + off = (na : Int) from of_decide_eq_true h)
  | ifCond k off => exact (show (pc : Int) + off = (na : Int) from of_decide_eq_true h)
  | if_icmp k off => exact (show (pc : Int) + off = (na : Int) from of_decide_eq_true h)
  | tableswitch d lo hi offs => exact (show (pc : Int) + d = (na : Int) from of_decide_eq_true h)
  | getfield i =>
    replace h : (match rx_nth vwCl na with
      | some q => Nat.blt na 12 && (Nat.blt nb q.2.2 && rx_has w (.fieldLink own i (q.2.1 nb).1 (q.2.1 nb).2.1 (q.2.1 nb).2.2.1))
      | none => false) = true := h
    rw [rx_nth_eq] at h
    cases e : vwCl[na]? with
    | none => rw [e] at h; cases h
    | some q =>
      rw [e] at h
      obtain ⟨d1, h⟩ := rx_and2.mp h
      obtain ⟨d2, d3⟩ := rx_and2.mp h
      obtain ⟨C, T, Nf, ty0, fs, l, q1, q2, q3, q4, q5, q6, q7, q8, q9, q10, q11⟩ := hCL na (rx_blt.mp d1)
      cases e.symm.trans q1
      exact ⟨C, T, Nf, e, rx_blt.mp d1, rx_blt.mp d2, rx_has_ok d3, q4⟩
  | putfield i =>
    replace h : (match rx_nth vwCl na with
      | some q => Nat.blt na 12 && (Nat.blt nb q.2.2 && (rx_has w (.fieldLink own i (q.2.1 nb).1 (q.2.1 nb).2.1 (q.2.1 nb).2.2.1) && (decide ((q.2.1 nb).2.2.2 = false) || (decide ((q.2.1 nb).2.2.2 = true) && (decide (mn = "<init>") && decide ((q.2.1 nb).1 = own))))))
      | none => false) = true := h
    rw [rx_nth_eq] at h
    cases e : vwCl[na]? with
    | none => rw [e] at h; cases h
    | some q =>
      rw [e] at h
      obtain ⟨d1, h⟩ := rx_and2.mp h
      obtain ⟨d2, h⟩ := rx_and2.mp h
      obtain ⟨d3, d4⟩ := rx_and2.mp h
      obtain ⟨C, T, Nf, ty0, fs, l, q1, q2, q3, q4, q5, q6, q7, q8, q9, q10, q11⟩ := hCL na (rx_blt.mp d1)
      cases e.symm.trans q1
      refine ⟨C, T, Nf, ty0, e, rx_blt.mp d1, rx_blt.mp d2, rx_has_ok d3, q4, q2, q3, ?_, fun ks k hks hk => q5 nb ks k (rx_blt.mp d2) hks hk⟩
      rcases rx_or2.mp d4 with d | d
      · exact Or.inl (of_decide_eq_true d)
      · obtain ⟨e1, d⟩ := rx_and2.mp d
        obtain ⟨e2, e3⟩ := rx_and2.mp d
        exact Or.inr ⟨of_decide_eq_true e1, of_decide_eq_true e2, of_decide_eq_true e3⟩
  | newarray t => exact rx_has_ok h
  | anewarray i => exact rx_has_ok h
  | new i =>
    replace h : (match rx_nth vwCl na with
      | some q => Nat.blt na 12 && rx_has w (.classLink own i q.1)
      | none => false) = true := h
    rw [rx_nth_eq] at h
    cases e : vwCl[na]? with
    | none => rw [e] at h; cases h
    | some q =>
      rw [e] at h
      obtain ⟨d1, d2⟩ := rx_and2.mp h
      obtain ⟨C, T, Nf, ty0, fs, l, q1, q2, q3, q4, q5, q6, q7, q8, q9, q10, q11⟩ := hCL na (rx_blt.mp d1)
      cases e.symm.trans q1
      exact ⟨C, T, Nf, ty0, fs, l, e, rx_blt.mp d1, q6, q7, q8, q9, q2, q4, rx_has_ok d2, q10, q11⟩
  | _ => trivial
theorem rx_cw_site {X : rx_XT} {P : List rx_M} {own mn : String} {pc na nb : Nat} {w : Nat × Nat} {ins : Instr} (h : rx_cw X P own mn pc na nb w ins = true) : rx_site P own na nb ins := by
  cases ins with
  | invokevirtual i =>
    replace h : (bif Nat.beq nb 13 then rx_has w (.methodLink own i yJ0_length_8abf5) else bif Nat.beq nb 17 then rx_has w (.methodLink own i yJ0_charAt_5068e) else (match rx_nth P na with
      | some q => decide (nb ≠ 1) && (decide (nb ≠ 2 ∧ nb % 4 ≠ 1) && (rx_has w (.methodLink own i (rx_y q)) && (rx_has (rx_wI q) (.instanceMethod (rx_y q)) && (rx_has (rx_wS q) (.selects (rx_y q).cls (rx_y q) (rx_y q)) && (Nat.blt (nb / 4) 12 && (match rx_nth vwCl (nb / 4) with
        | some z => decide (z.1 = (rx_y q).cls)
        | none => false))))))
      | none => false)) = true := h
    cases hb13 : Nat.beq nb 13 with
    | true =>
      rw [hb13, cond_true] at h
      exact Or.inl ⟨rx_beq.mp hb13, rx_has_ok h⟩
    | false =>
      rw [hb13, cond_false] at h
      cases hb17 : Nat.beq nb 17 with
      | true =>
        rw [hb17, cond_true] at h
        exact Or.inr (Or.inl ⟨rx_beq.mp hb17, rx_has_ok h⟩)
      | false =>
        rw [hb17, cond_false] at h
        cases e : rx_nth P na with
        | none => rw [e] at h; cases h
        | some q =>
          rw [e] at h
          obtain ⟨d1, h⟩ := rx_and2.mp h
          obtain ⟨d2, h⟩ := rx_and2.mp h
          obtain ⟨d3, h⟩ := rx_and2.mp h
          obtain ⟨d4, h⟩ := rx_and2.mp h
          obtain ⟨d5, h⟩ := rx_and2.mp h
          obtain ⟨d6, h⟩ := rx_and2.mp h
          rw [rx_nth_eq] at h
          cases e2 : vwCl[nb / 4]? with
          | none => rw [e2] at h; cases h
          | some z =>
            rw [e2] at h
            obtain ⟨z1, z2, z3⟩ := z
            have hz : z1 = (rx_y q).cls := of_decide_eq_true h
            subst hz
            exact Or.inr (Or.inr ⟨of_decide_eq_true d1, (of_decide_eq_true d2).1, (of_decide_eq_true d2).2, q, e, rx_has_ok d3, rx_has_ok d4, rx_has_ok d5, ⟨z2, z3, e2⟩, rx_blt.mp d6⟩)
  | invokespecial i =>
    replace h : (bif Nat.beq nb 1 then rx_has w (.methodLink own i objectInit) && (rx_has X.1 (.instanceMethod objectInit) && rx_has X.2.1 (.code objectInit ⟨#[0xb1]⟩ 1 none)) else (match rx_nth P na with
      | some q => decide (nb ≠ 1) && (decide (nb ≠ 2 ∧ nb % 4 ≠ 1) && (decide ((rx_y q).name = "<init>") && (decide (rx_rt q = none) && (rx_has (rx_wI q) (.instanceMethod (rx_y q)) && (rx_has w (.methodLink own i (rx_y q)) || rx_hasN w own i (rx_y q) "TurnNet")))))
      | none => false)) = true := h
    cases hb : Nat.beq nb 1 with
    | true =>
      rw [hb, cond_true] at h
      obtain ⟨d1, h⟩ := rx_and2.mp h
      obtain ⟨d2, d3⟩ := rx_and2.mp h
      exact Or.inl ⟨rx_beq.mp hb, rx_has_ok d1, rx_has_ok d2, rx_has_ok d3⟩
    | false =>
      rw [hb, cond_false] at h
      cases e : rx_nth P na with
      | none => rw [e] at h; cases h
      | some q =>
        rw [e] at h
        obtain ⟨d1, h⟩ := rx_and2.mp h
        obtain ⟨d2, h⟩ := rx_and2.mp h
        obtain ⟨d3, h⟩ := rx_and2.mp h
        obtain ⟨d4, h⟩ := rx_and2.mp h
        obtain ⟨d5, h⟩ := rx_and2.mp h
        refine Or.inr ⟨of_decide_eq_true d1, (of_decide_eq_true d2).1, (of_decide_eq_true d2).2, q, e, of_decide_eq_true d3, of_decide_eq_true d4, rx_has_ok d5, ?_⟩
        rcases rx_or2.mp h with h | h
        · exact Or.inl (rx_has_ok h)
        · exact Or.inr ⟨_, rx_hasN_ok h⟩
  | invokestatic i =>
    replace h : (bif Nat.beq nb 2 then rx_has w (.methodLink own i arraycopyName) && (rx_has X.2.2.1 (.native arraycopyName) && (rx_has X.2.2.2.1 (.static arraycopyName) && rx_has X.2.2.2.2.1 (.initialized "java/lang/System"))) else bif Nat.beq nb 5 then rx_has w (.methodLink own i Lib.Math.max.name) && (rx_has X.2.2.2.2.2.2.1 (.static Lib.Math.max.name) && (rx_has X.2.2.2.2.2.1 (.initialized "java/lang/Math") && rx_has X.2.2.2.2.2.2.2.1 (.code Lib.Math.max.name Lib.Math.max.code 2 (some .int)))) else bif Nat.beq nb 9 then rx_has w (.methodLink own i Lib.Math.min.name) && (rx_has X.2.2.2.2.2.2.2.2.1 (.static Lib.Math.min.name) && (rx_has X.2.2.2.2.2.1 (.initialized "java/lang/Math") && rx_has X.2.2.2.2.2.2.2.2.2 (.code Lib.Math.min.name Lib.Math.min.code 2 (some .int)))) else (match rx_nth P na with
      | some q => decide (nb ≠ 1) && (decide (nb ≠ 2 ∧ nb % 4 ≠ 1) && (rx_has w (.methodLink own i (rx_y q)) && rx_has (rx_wI q) (.static (rx_y q))))
      | none => false)) = true := h
    cases hb : Nat.beq nb 2 with
    | true =>
      rw [hb, cond_true] at h
      obtain ⟨d1, h⟩ := rx_and2.mp h
      obtain ⟨d2, h⟩ := rx_and2.mp h
      obtain ⟨d3, d4⟩ := rx_and2.mp h
      exact Or.inl ⟨rx_beq.mp hb, rx_has_ok d1, rx_has_ok d2, rx_has_ok d3, rx_has_ok d4⟩
    | false =>
      rw [hb, cond_false] at h
      cases hb5 : Nat.beq nb 5 with
      | true =>
        rw [hb5, cond_true] at h
        obtain ⟨d1, h⟩ := rx_and2.mp h
        obtain ⟨d2, h⟩ := rx_and2.mp h
        obtain ⟨d3, d4⟩ := rx_and2.mp h
        exact Or.inr (Or.inr (Or.inl ⟨rx_beq.mp hb5, rx_has_ok d1, rx_has_ok d2, rx_has_ok d3, rx_has_ok d4⟩))
      | false =>
        rw [hb5, cond_false] at h
        cases hb9 : Nat.beq nb 9 with
        | true =>
          rw [hb9, cond_true] at h
          obtain ⟨d1, h⟩ := rx_and2.mp h
          obtain ⟨d2, h⟩ := rx_and2.mp h
          obtain ⟨d3, d4⟩ := rx_and2.mp h
          exact Or.inr (Or.inr (Or.inr ⟨rx_beq.mp hb9, rx_has_ok d1, rx_has_ok d2, rx_has_ok d3, rx_has_ok d4⟩))
        | false =>
          rw [hb9, cond_false] at h
          cases e : rx_nth P na with
          | none => rw [e] at h; cases h
          | some q =>
            rw [e] at h
            obtain ⟨d1, h⟩ := rx_and2.mp h
            obtain ⟨d2, h⟩ := rx_and2.mp h
            obtain ⟨d3, d4⟩ := rx_and2.mp h
            exact Or.inr (Or.inl ⟨of_decide_eq_true d1, (of_decide_eq_true d2).1, (of_decide_eq_true d2).2, q, e, rx_has_ok d3, rx_has_ok d4⟩)
  | _ => trivial
/-- a method's code, by program (but for what its steps do: that is by rfl) -/
noncomputable def rx_cm (X : rx_XT) (P : List rx_M) (r : rx_M) : Bool := (rx_cd r).all (fun ch => ch.all (fun x => rx_cd1 (rx_b r) x.1 x.2.2.2.2.1 x.2.2.2.1 && (Nat.beq x.2.1 (rx_kd x.2.2.2.1) && rx_cw X P (rx_y r).cls (rx_y r).name x.1 x.2.2.2.2.2.1 x.2.2.2.2.2.2.1 (x.2.2.2.2.2.2.2.1, x.2.2.2.2.2.2.2.2) x.2.2.2.1)))
theorem rx_cm_ok {X : rx_XT} {P : List rx_M} {K : rx_K} {r : rx_M} (hCL : ∀ na, na < 12 → rx_CL K na) (h : rx_cm X P r = true) (hh : ∀ ch ∈ rx_cd r, ∀ x ∈ ch, x.2.1 = 0 → x.2.2.1 = rx_sem x.2.2.2.1) : rx_ST P K r := by
  intro ch hch x hx
  have h1 := List.all_eq_true.mp (List.all_eq_true.mp h ch hch) x hx
  obtain ⟨d1, h1⟩ := rx_and2.mp h1
  obtain ⟨d2, d3⟩ := rx_and2.mp h1
  exact ⟨rx_cd1_ok d1, rx_beq.mp d2, hh ch hch x hx, rx_cw_wd hCL d3, rx_cw_site d3⟩
/-- a method that is called, by program -/
noncomputable def rx_cq (q : rx_M) : Bool := plainName (rx_y q).cls && (rx_has (rx_wC q) (.code (rx_y q) (rx_b q) (rx_mL (rx_n q)) (rx_rt q)) && (rx_has (rx_wN q) (.initialized (rx_y q).cls) && (decide ((rx_y q).cls ≠ "java/lang/invoke/MethodHandle") && (decide ((rx_y q).cls ≠ "java/lang/invoke/VarHandle") && (decide ((parseMethodDescriptor (rx_y q).desc).map (fun d => d.parameters.length) = some (rx_np (rx_n q))) && (Nat.beq (rx_sl (rx_n q)) 0 &&
  ((Nat.beq (rx_rk (rx_n q)) 0 && decide (rx_rt q = none)) || ((Nat.beq (rx_rk (rx_n q)) 1 && decide (rx_rt q = some .int)) || ((Nat.beq (rx_rk (rx_n q)) 2 && decide (rx_rt q = some .boolean)) || ((Nat.beq (rx_rk (rx_n q)) 3 && decide (rx_rt q = some .long)) || (Nat.beq (rx_rk (rx_n q)) 4 && decide (rx_rt q = some (.object "TurnNet$State")))))))))))))
theorem rx_cq_ok {q : rx_M} (h : rx_cq q = true) : rx_QW q := by
  obtain ⟨d1, h⟩ := rx_and2.mp h
  obtain ⟨d2, h⟩ := rx_and2.mp h
  obtain ⟨d3, h⟩ := rx_and2.mp h
  obtain ⟨d4, h⟩ := rx_and2.mp h
  obtain ⟨d5, h⟩ := rx_and2.mp h
  obtain ⟨d6, h⟩ := rx_and2.mp h
  obtain ⟨d7, h⟩ := rx_and2.mp h
  refine ⟨d1, rx_has_ok d2, rx_has_ok d3, of_decide_eq_true d4, of_decide_eq_true d5, of_decide_eq_true d6, rx_beq.mp d7, ?_⟩
  rcases rx_or2.mp h with h | h
  · obtain ⟨a, b⟩ := rx_and2.mp h
    exact Or.inl ⟨rx_beq.mp a, of_decide_eq_true b⟩
  rcases rx_or2.mp h with h | h
  · obtain ⟨a, b⟩ := rx_and2.mp h
    exact Or.inr (Or.inl ⟨rx_beq.mp a, of_decide_eq_true b⟩)
  rcases rx_or2.mp h with h | h
  · obtain ⟨a, b⟩ := rx_and2.mp h
    exact Or.inr (Or.inr (Or.inl ⟨rx_beq.mp a, of_decide_eq_true b⟩))
  rcases rx_or2.mp h with h | h
  · obtain ⟨a, b⟩ := rx_and2.mp h
    exact Or.inr (Or.inr (Or.inr (Or.inl ⟨rx_beq.mp a, of_decide_eq_true b⟩)))
  · obtain ⟨a, b⟩ := rx_and2.mp h
    exact Or.inr (Or.inr (Or.inr (Or.inr ⟨rx_beq.mp a, _, of_decide_eq_true b⟩)))
noncomputable def rx_cr (q : rx_M) : Bool := plainName (rx_y q).cls && (rx_has (rx_wN q) (.initialized (rx_y q).cls) && (decide ((rx_y q).cls ≠ "java/lang/invoke/MethodHandle") && (decide ((rx_y q).cls ≠ "java/lang/invoke/VarHandle") && (decide ((parseMethodDescriptor (rx_y q).desc).map (fun d => d.parameters.length) = some (rx_np (rx_n q))) && (Nat.beq (rx_sl (rx_n q)) 0 &&
  ((Nat.beq (rx_rk (rx_n q)) 0 && decide (rx_rt q = none)) || ((Nat.beq (rx_rk (rx_n q)) 1 && decide (rx_rt q = some .int)) || ((Nat.beq (rx_rk (rx_n q)) 2 && decide (rx_rt q = some .boolean)) || ((Nat.beq (rx_rk (rx_n q)) 3 && decide (rx_rt q = some .long)) || (Nat.beq (rx_rk (rx_n q)) 4 && decide (rx_rt q = some (.object "TurnNet$State"))))))))))))
theorem rx_cr_ok {q : rx_M} {a b : Nat} (hc : rx_nth (rx_tb a) b = some (.code (rx_y q) (rx_b q) (rx_mL (rx_n q)) (rx_rt q))) (hg : goodWord (.code (rx_y q) (rx_b q) (rx_mL (rx_n q)) (rx_rt q)) = true) (h : rx_cr q = true) : rx_QW q := by
  rw [rx_nth_eq] at hc
  obtain ⟨d1, h⟩ := rx_and2.mp h
  obtain ⟨d3, h⟩ := rx_and2.mp h
  obtain ⟨d4, h⟩ := rx_and2.mp h
  obtain ⟨d5, h⟩ := rx_and2.mp h
  obtain ⟨d6, h⟩ := rx_and2.mp h
  obtain ⟨d7, h⟩ := rx_and2.mp h
  refine ⟨d1, lw_G_of (rx_tb_in (List.mem_of_getElem? hc)) hg, rx_has_ok d3, of_decide_eq_true d4, of_decide_eq_true d5, of_decide_eq_true d6, rx_beq.mp d7, ?_⟩
  rcases rx_or2.mp h with h | h
  · obtain ⟨a, b⟩ := rx_and2.mp h
    exact Or.inl ⟨rx_beq.mp a, of_decide_eq_true b⟩
  rcases rx_or2.mp h with h | h
  · obtain ⟨a, b⟩ := rx_and2.mp h
    exact Or.inr (Or.inl ⟨rx_beq.mp a, of_decide_eq_true b⟩)
  rcases rx_or2.mp h with h | h
  · obtain ⟨a, b⟩ := rx_and2.mp h
    exact Or.inr (Or.inr (Or.inl ⟨rx_beq.mp a, of_decide_eq_true b⟩))
  rcases rx_or2.mp h with h | h
  · obtain ⟨a, b⟩ := rx_and2.mp h
    exact Or.inr (Or.inr (Or.inr (Or.inl ⟨rx_beq.mp a, of_decide_eq_true b⟩)))
  · obtain ⟨a, b⟩ := rx_and2.mp h
    exact Or.inr (Or.inr (Or.inr (Or.inr ⟨rx_beq.mp a, _, of_decide_eq_true b⟩)))
