theorem rx_sm_aload_n (k : Fin 4) : rx_sem (.aload_n k) = rx_h_ld rx_isR k.val 1 := rfl
theorem rx_sm_iload_n (k : Fin 4) : rx_sem (.iload_n k) = rx_h_ld rx_isI k.val 1 := rfl
theorem rx_sm_lload_n (k : Fin 4) : rx_sem (.lload_n k) = rx_h_ld rx_isJ k.val 1 := rfl
theorem rx_sm_iload (i : Nat) : rx_sem (.iload i) = rx_h_ld rx_isI i 2 := rfl
theorem rx_sm_istore_n (k : Fin 4) : rx_sem (.istore_n k) = rx_h_sto rx_isI k.val 1 := rfl
theorem rx_sm_astore_n (k : Fin 4) : rx_sem (.astore_n k) = rx_h_sto rx_isR k.val 1 := rfl
theorem rx_sm_istore (i : Nat) : rx_sem (.istore i) = rx_h_sto rx_isI i 2 := rfl
theorem rx_sm_lstore_n (k : Fin 4) : rx_sem (.lstore_n k) = rx_h_stJ k.val 1 := rfl
theorem rx_sm_lstore (i : Nat) : rx_sem (.lstore i) = rx_h_stJ i 2 := rfl
theorem rx_sm_iinc (i : Nat) (x1 : Int) : rx_sem (.iinc i x1) = rx_h_inc i := rfl
theorem rx_sm_iconst (x0 : Int) : rx_sem (.iconst x0) = rx_h_psh 1 := rfl
theorem rx_sm_bipush (x0 : Int) : rx_sem (.bipush x0) = rx_h_psh 2 := rfl
theorem rx_sm_sipush (x0 : Int) : rx_sem (.sipush x0) = rx_h_psh 3 := rfl
theorem rx_sm_lconst (x0 : Fin 2) : rx_sem (.lconst x0) = rx_h_pshJ 1 := rfl
theorem rx_sm_ldc_w (x0 : Nat) : rx_sem (.ldc_w x0) = rx_h_psh 3 := rfl
theorem rx_sm_ldc2_w (x0 : Nat) : rx_sem (.ldc2_w x0) = rx_h_pshJ 3 := rfl
theorem rx_sm_iadd : rx_sem (.iadd) = rx_h_ar rx_f_add rx_g32 := rfl
theorem rx_sm_isub : rx_sem (.isub) = rx_h_ar rx_f_sub rx_g32 := rfl
theorem rx_sm_imul : rx_sem (.imul) = rx_h_ar rx_f_mul rx_g32 := rfl
theorem rx_sm_iand : rx_sem (.iand) = rx_h_ar rx_f_and rx_gand := rfl
theorem rx_sm_ishl : rx_sem (.ishl) = rx_h_ar rx_f_shl rx_g32 := rfl
theorem rx_sm_ishr : rx_sem (.ishr) = rx_h_ark rx_f_shr := rfl
theorem rx_sm_iushr : rx_sem (.iushr) = rx_h_ar rx_f_ushr rx_g32 := rfl
theorem rx_sm_i2b : rx_sem (.i2b) = rx_h_un rx_f_i2b := rfl
theorem rx_sm_ineg : rx_sem (.ineg) = rx_h_un rx_f_neg := rfl
theorem rx_sm_ior : rx_sem (.ior) = rx_h_ark rx_f_or := rfl
theorem rx_sm_ixor : rx_sem (.ixor) = rx_h_ark rx_f_xor := rfl
theorem rx_sm_idiv : rx_sem (.idiv) = rx_h_ark rx_f_div := rfl
theorem rx_sm_irem : rx_sem (.irem) = rx_h_ark rx_f_rem := rfl
theorem rx_sm_ladd : rx_sem (.ladd) = rx_h_arJ rx_j_add := rfl
theorem rx_sm_lsub : rx_sem (.lsub) = rx_h_arJ rx_j_sub := rfl
theorem rx_sm_lmul : rx_sem (.lmul) = rx_h_arJ rx_j_mul := rfl
theorem rx_sm_land : rx_sem (.land) = rx_h_arJ rx_j_and := rfl
theorem rx_sm_lor : rx_sem (.lor) = rx_h_arJ rx_j_or := rfl
theorem rx_sm_lxor : rx_sem (.lxor) = rx_h_arJ rx_j_xor := rfl
theorem rx_sm_lshl : rx_sem (.lshl) = rx_h_shJ rx_j_shl := rfl
theorem rx_sm_lshr : rx_sem (.lshr) = rx_h_shJ rx_j_shr := rfl
theorem rx_sm_lload (i : Nat) : rx_sem (.lload i) = rx_h_ld rx_isJ i 2 := rfl
theorem rx_sm_laload : rx_sem (.laload) = rx_h_ald (fun t => Nat.beq t 14) := rfl
theorem rx_sm_lastore : rx_sem (.lastore) = rx_h_last := rfl
theorem rx_sm_lcmp : rx_sem (.lcmp) = rx_h_lcmp := rfl
theorem rx_sm_dup : rx_sem (.dup) = rx_h_dup := rfl
theorem rx_sm_pop : rx_sem (.pop) = rx_h_pop := rfl
theorem rx_sm_dup2 : rx_sem (.dup2) = rx_h_dup2 := rfl
theorem rx_sm_pop2 : rx_sem (.pop2) = rx_h_pop2 := rfl
theorem rx_sm_ldc (x0 : Nat) : rx_sem (.ldc x0) = rx_h_ldc := rfl
theorem rx_sm_goto (x0 : Int) : rx_sem (.goto x0) = rx_h_goto := rfl
theorem rx_sm_ifCond (k : Jvm.ClassFile.Cond) (x1 : Int) : rx_sem (.ifCond k x1) = rx_h_if k := rfl
theorem rx_sm_if_icmp (k : Jvm.ClassFile.Cond) (x1 : Int) : rx_sem (.if_icmp k x1) = rx_h_icmp k := rfl
theorem rx_sm_tableswitch (x0 : Int) (lo : Int) (hi : Int) (offs : Array Int) : rx_sem (.tableswitch x0 lo hi offs) = rx_h_tsw lo hi offs := rfl
theorem rx_sm_getfield (x0 : Nat) : rx_sem (.getfield x0) = rx_h_gf := rfl
theorem rx_sm_putfield (x0 : Nat) : rx_sem (.putfield x0) = rx_h_pf := rfl
theorem rx_sm_iaload : rx_sem (.iaload) = rx_h_ald (fun t => Nat.beq t 13) := rfl
theorem rx_sm_baload : rx_sem (.baload) = rx_h_ald (fun t => Nat.beq t 12 || Nat.beq t 15) := rfl
theorem rx_sm_aaload : rx_sem (.aaload) = rx_h_ald (fun t => Nat.beq t 16) := rfl
theorem rx_sm_iastore : rx_sem (.iastore) = rx_h_iast := rfl
theorem rx_sm_bastore : rx_sem (.bastore) = rx_h_bast := rfl
theorem rx_sm_aastore : rx_sem (.aastore) = rx_h_aast := rfl
theorem rx_sm_arraylength : rx_sem (.arraylength) = rx_h_alen := rfl
theorem rx_sm_newarray (t : Jvm.ClassFile.ArrayType) : rx_sem (.newarray t) = rx_h_newa t := rfl
theorem rx_sm_anewarray (x0 : Nat) : rx_sem (.anewarray x0) = rx_h_anew := rfl
theorem rx_sm_new (x0 : Nat) : rx_sem (.new x0) = rx_h_new := rfl
def rx_Hl (l : List rx_E) : Prop := List.rec (motive := fun _ => Prop) True (fun x _ ih => (x.2.1 = 0 → x.2.2.1 = rx_sem x.2.2.2.1) ∧ ih) l
def rx_Hc (c : List (List rx_E)) : Prop := List.rec (motive := fun _ => Prop) True (fun l _ ih => rx_Hl l ∧ ih) c
theorem rx_Hl_ok : ∀ {l : List rx_E}, rx_Hl l → ∀ x ∈ l, x.2.1 = 0 → x.2.2.1 = rx_sem x.2.2.2.1
  | [], _, x, hx => absurd hx List.not_mem_nil
  | _ :: _, h, x, hx => (List.mem_cons.mp hx).elim (fun e => by rw [e]; exact h.1) (fun hx => rx_Hl_ok h.2 x hx)
theorem rx_Hc_ok : ∀ {c : List (List rx_E)}, rx_Hc c → ∀ ch ∈ c, ∀ x ∈ ch, x.2.1 = 0 → x.2.2.1 = rx_sem x.2.2.2.1
  | [], _, x, hx => absurd hx List.not_mem_nil
  | _ :: _, h, x, hx => (List.mem_cons.mp hx).elim (fun e => by rw [e]; exact rx_Hl_ok h.1) (fun hx => rx_Hc_ok h.2 x hx)
theorem rx_nz {n : Nat} {p : Prop} (h : Nat.beq n 0 = false) (z : n = 0) : p := by
  rw [z] at h
  exact Bool.noConfusion h
noncomputable def rx_hasN (w : Nat × Nat) (own : String) (i : Nat) (y : MethodName) (host : String) : Bool := match rx_nth (rx_tb w.1) w.2 with
  | some z => decide (z = Jvm.Cond.methodLinkNest own i y host)
  | none => false
theorem rx_hasN_ok {w : Nat × Nat} {own : String} {i : Nat} {y : MethodName} {host : String} (h : rx_hasN w own i y host = true) : Jvm.Cond.methodLinkNest own i y host ∈ lw_nest := by
  unfold rx_hasN at h
  rw [rx_nth_eq] at h
  cases e : (rx_tb w.1)[w.2]? with
  | none => rw [e] at h; cases h
  | some z =>
    rw [e] at h
    have e2 : z = _ := of_decide_eq_true h
    subst e2
    exact List.mem_filter.mpr ⟨rx_tb_in (List.mem_of_getElem? e), rfl⟩
/-- what the tables say of a class -/
noncomputable def rx_CL (K : rx_K) (na : Nat) : Prop := ∃ (C : String) (T : u_T) (Nf : Nat) (ty0 : Nat → FieldType) (fs : List Value) (l : List Nat), vwCl[na]? = some (C, T, Nf) ∧ (∀ k, k < Nf → parseFieldDescriptor (T k).2.2.1 = some (ty0 k)) ∧ (∀ a, a < Nf → ∀ b, b < Nf → a ≠ b → (T a).2.1 ≠ (T b).2.1) ∧ (∀ w ∈ u_ws C T Nf, w ∈ lw_G) ∧ (∀ nb ks k, nb < Nf → rx_nth K.2 na = some ks → rx_nth ks nb = some k → rx_fkt k (ty0 nb)) ∧
  rx_nth K.1 na = some l ∧ l.length = Nf ∧ (∀ b ad en, l.map (rx_cv b ad en) = fs.map some) ∧ (∀ j, j < Nf → defaultValue (ty0 j) = vp_V fs j) ∧ Jvm.Cond.instantiable C Nf ∈ lw_G ∧ Jvm.Cond.initialized C ∈ lw_G
noncomputable def rx_wI (q : rx_M) : Nat × Nat := q.2.2.2.2.1
noncomputable def rx_wS (q : rx_M) : Nat × Nat := q.2.2.2.2.2.1
noncomputable def rx_wC (q : rx_M) : Nat × Nat := q.2.2.2.1
noncomputable def rx_wN (q : rx_M) : Nat × Nat := q.2.2.2.2.2.2
abbrev rx_XT : Type := (Nat × Nat) × (Nat × Nat) × (Nat × Nat) × (Nat × Nat) × (Nat × Nat) × (Nat × Nat) × (Nat × Nat) × (Nat × Nat) × (Nat × Nat) × (Nat × Nat)
/-- the notes of an instruction, by program; X: where five words of the JDK stand -/
noncomputable def rx_cw (X : rx_XT) (P : List rx_M) (own mn : String) (pc na nb : Nat) (w : Nat × Nat) (ins : Instr) : Bool := match ins with
  | .iinc _ n => decide (Int32.ofInt n = Int32.ofNat na)
  | .iconst n => decide (Int32.ofInt n = Int32.ofNat na)
  | .bipush n => decide ((Int8.ofInt n).toInt32 = Int32.ofNat na)
  | .sipush n => decide ((Int16.ofInt n).toInt32 = Int32.ofNat na)
  | .lconst n => decide (Int64.ofNat n.val = Int64.ofNat na)
  | .ldc_w i => rx_has w (.constant own i (Int32.ofNat na))
  | .ldc i => bif Nat.beq (rx_tk na) 0 then rx_has w (.constant own i (Int32.ofNat (rx_pl na))) else rx_isW na && (decide (own = "TurnNet$Reader") && decide (i = rx_sidx.getD (Nat.sub (rx_pl na) 1000) 0))
  | .ldc2_w i => rx_has w (.constantLong own i (Int64.ofNat na))
  | .goto off => decide ((pc : Int) + off = (na : Int))
  | .ifCond _ off => decide ((pc : Int) + off = (na : Int))
  | .if_icmp _ off => decide ((pc : Int) + off = (na : Int))
  | .tableswitch d _ _ _ => decide ((pc : Int) + d = (na : Int))
  | .getfield i => (match rx_nth vwCl na with
    | some q => Nat.blt na 12 && (Nat.blt nb q.2.2 && rx_has w (.fieldLink own i (q.2.1 nb).1 (q.2.1 nb).2.1 (q.2.1 nb).2.2.1))
    | none => false)
  | .putfield i => (match rx_nth vwCl na with
    | some q => Nat.blt na 12 && (Nat.blt nb q.2.2 && (rx_has w (.fieldLink own i (q.2.1 nb).1 (q.2.1 nb).2.1 (q.2.1 nb).2.2.1) && (decide ((q.2.1 nb).2.2.2 = false) || (decide ((q.2.1 nb).2.2.2 = true) && (decide (mn = "<init>") && decide ((q.2.1 nb).1 = own))))))
    | none => false)
  | .newarray t => rx_has w (.arrayClass (newarray.typeOf t))
  | .anewarray i => rx_has w (.classLink own i "TurnNet$State")
  | .new i => (match rx_nth vwCl na with
    | some q => Nat.blt na 12 && rx_has w (.classLink own i q.1)
    | none => false)
  | .invokevirtual i => bif Nat.beq nb 13 then rx_has w (.methodLink own i yJ0_length_8abf5) else bif Nat.beq nb 17 then rx_has w (.methodLink own i yJ0_charAt_5068e) else (match rx_nth P na with
    | some q => decide (nb ≠ 1) && (decide (nb ≠ 2 ∧ nb % 4 ≠ 1) && (rx_has w (.methodLink own i (rx_y q)) && (rx_has (rx_wI q) (.instanceMethod (rx_y q)) && (rx_has (rx_wS q) (.selects (rx_y q).cls (rx_y q) (rx_y q)) && (Nat.blt (nb / 4) 12 && (match rx_nth vwCl (nb / 4) with
      | some z => decide (z.1 = (rx_y q).cls)
      | none => false))))))
    | none => false)
  | .invokespecial i => bif Nat.beq nb 1 then rx_has w (.methodLink own i objectInit) && (rx_has X.1 (.instanceMethod objectInit) && rx_has X.2.1 (.code objectInit ⟨#[0xb1]⟩ 1 none)) else (match rx_nth P na with
    | some q => decide (nb ≠ 1) && (decide (nb ≠ 2 ∧ nb % 4 ≠ 1) && (decide ((rx_y q).name = "<init>") && (decide (rx_rt q = none) && (rx_has (rx_wI q) (.instanceMethod (rx_y q)) && (rx_has w (.methodLink own i (rx_y q)) || rx_hasN w own i (rx_y q) "TurnNet")))))
    | none => false)
  | .invokestatic i => bif Nat.beq nb 2 then rx_has w (.methodLink own i arraycopyName) && (rx_has X.2.2.1 (.native arraycopyName) && (rx_has X.2.2.2.1 (.static arraycopyName) && rx_has X.2.2.2.2.1 (.initialized "java/lang/System"))) else bif Nat.beq nb 5 then rx_has w (.methodLink own i Lib.Math.max.name) && (rx_has X.2.2.2.2.2.2.1 (.static Lib.Math.max.name) && (rx_has X.2.2.2.2.2.1 (.initialized "java/lang/Math") && rx_has X.2.2.2.2.2.2.2.1 (.code Lib.Math.max.name Lib.Math.max.code 2 (some .int)))) else bif Nat.beq nb 9 then rx_has w (.methodLink own i Lib.Math.min.name) && (rx_has X.2.2.2.2.2.2.2.2.1 (.static Lib.Math.min.name) && (rx_has X.2.2.2.2.2.1 (.initialized "java/lang/Math") && rx_has X.2.2.2.2.2.2.2.2.2 (.code Lib.Math.min.name Lib.Math.min.code 2 (some .int)))) else (match rx_nth P na with
    | some q => decide (nb ≠ 1) && (decide (nb ≠ 2 ∧ nb % 4 ≠ 1) && (rx_has w (.methodLink own i (rx_y q)) && rx_has (rx_wI q) (.static (rx_y q))))
    | none => false)
  | _ => true
/-- the bytes from a place on -/
noncomputable def rxe_dr (l : List UInt8) : Nat → List UInt8 := List.rec (motive := fun _ => Nat → List UInt8) (fun _ => []) (fun x t ih i => Nat.casesOn i (x :: t) (fun j => ih j)) l
theorem rxe_dr_eq : ∀ (l : List UInt8) (n : Nat), rxe_dr l n = l.drop n
  | [], 0 => rfl
  | [], _ + 1 => rfl
  | _ :: _, 0 => rfl
  | _ :: t, n + 1 => rxe_dr_eq t n
def rxe_at (code : ByteArray) (p : Nat) (b : UInt8) : Prop := ∃ hp : p < code.size, code[p] = b
theorem rxe_dr_at {code : ByteArray} {p : Nat} {b : UInt8} {r : List UInt8} (h : code.data.toList.drop p = b :: r) : rxe_at code p b ∧ code.data.toList.drop (p + 1) = r := by
  obtain ⟨⟨l⟩⟩ := code
  have h : l.drop p = b :: r := h
  have hl : p < l.length := by
    rcases Nat.lt_or_ge p l.length with q | q
    · exact q
    · rw [List.drop_eq_nil_of_le q] at h; cases h
  rw [List.drop_eq_getElem_cons hl] at h
  exact ⟨⟨hl, (List.cons.inj h).1⟩, (List.cons.inj h).2⟩
theorem rxe_u1 {code : ByteArray} {p : Nat} {b : UInt8} (h : rxe_at code p b) : (Jvm.ClassFile.Reader.u1 : Jvm.ClassFile.Decoder Nat) code p = .ok (b.toNat, p + 1) := by
  obtain ⟨hp, hb⟩ := h
  subst hb
  show (dite (p < code.size) (fun q => (do set (p + 1); Pure.pure (code[p]'q).toNat : Jvm.ClassFile.Decoder Nat)) (fun _ => throw (Jvm.ClassFile.HasTruncated.truncated p)) : Jvm.ClassFile.Decoder Nat) code p = _
  rw [dif_pos hp]
  rfl
theorem rxe_bd {α β : Type} {r : Jvm.ClassFile.Decoder α} {f : α → Jvm.ClassFile.Decoder β} {code : ByteArray} {p s : Nat} {a : α} (h : r code p = .ok (a, s)) : (r >>= f) code p = f a code s := by
  show (do let (a, s) ← r code p; f a code s : Except Jvm.ClassFile.DecodeError (β × Nat)) = _
  rw [h]
  rfl
theorem rxe_mp {α β : Type} {r : Jvm.ClassFile.Decoder α} {g : α → β} {code : ByteArray} {p s : Nat} {a : α} (h : r code p = .ok (a, s)) : (g <$> r) code p = .ok (g a, s) := by
  show (do let (a, s) ← r code p; Pure.pure (g a, s) : Except Jvm.ClassFile.DecodeError (β × Nat)) = _
  rw [h]
  rfl
theorem rxe_u2 {code : ByteArray} {p : Nat} {b c : UInt8} (h : rxe_at code p b) (h2 : rxe_at code (p + 1) c) : (Jvm.ClassFile.Reader.u2 : Jvm.ClassFile.Decoder Nat) code p = .ok (b.toNat * 256 + c.toNat, p + 2) := by
  show ((Jvm.ClassFile.Reader.u1 : Jvm.ClassFile.Decoder Nat) >>= fun x => (Jvm.ClassFile.Reader.u1 : Jvm.ClassFile.Decoder Nat) >>= fun y => (Pure.pure (x * 256 + y) : Jvm.ClassFile.Decoder Nat)) code p = _
  rw [rxe_bd (rxe_u1 h), rxe_bd (rxe_u1 h2)]
  rfl
theorem rxe_dk {code : ByteArray} {pc n : Nat} {ins : Instr} (h : (Jvm.ClassFile.Decoder.instr pc) code pc = .ok (ins, pc + n)) : decode code pc = .ok (ins, n) := by
  show (do let (i, nx) ← (Jvm.ClassFile.Decoder.instr pc) code pc; Pure.pure (i, nx - pc) : Except Jvm.ClassFile.DecodeError (Instr × Nat)) = _
  rw [h]
  show Except.ok (ins, pc + n - pc) = _
  rw [Nat.add_sub_cancel_left]
/-- how instr goes on behind the opcode -/
def rxe_F (pc : Nat) (f : Nat → Jvm.ClassFile.Decoder Instr) : Prop := Jvm.ClassFile.Decoder.instr pc = ((Jvm.ClassFile.Reader.u1 : Jvm.ClassFile.Decoder Nat) >>= f)
theorem rxe_A {code : ByteArray} {pc op : Nat} {f : Nat → Jvm.ClassFile.Decoder Instr} {b : UInt8} {r : List UInt8} {ins : Instr} (hf : rxe_F pc f) (h : code.data.toList.drop pc = b :: r) (hb : b.toNat = op) (hi : f op = Pure.pure ins) : decode code pc = .ok (ins, 1) := by
  refine rxe_dk ?_
  rw [show Jvm.ClassFile.Decoder.instr pc = _ from hf, rxe_bd (rxe_u1 (rxe_dr_at h).1), hb, hi]
  rfl
theorem rxe_B {code : ByteArray} {pc op : Nat} {f : Nat → Jvm.ClassFile.Decoder Instr} {b c : UInt8} {r : List UInt8} {g : Nat → Instr} (hf : rxe_F pc f) (h : code.data.toList.drop pc = b :: c :: r) (hb : b.toNat = op) (hi : f op = ((Jvm.ClassFile.Reader.u1 : Jvm.ClassFile.Decoder Nat) >>= fun a => Pure.pure (g a))) : decode code pc = .ok (g c.toNat, 2) := by
  obtain ⟨a1, h2⟩ := rxe_dr_at h
  refine rxe_dk ?_
  rw [show Jvm.ClassFile.Decoder.instr pc = _ from hf, rxe_bd (rxe_u1 a1), hb, hi, rxe_bd (rxe_u1 (rxe_dr_at h2).1)]
  rfl
theorem rxe_C {code : ByteArray} {pc op : Nat} {f : Nat → Jvm.ClassFile.Decoder Instr} {b c d : UInt8} {r : List UInt8} {g : Nat → Instr} (hf : rxe_F pc f) (h : code.data.toList.drop pc = b :: c :: d :: r) (hb : b.toNat = op) (hi : f op = ((Jvm.ClassFile.Reader.u2 : Jvm.ClassFile.Decoder Nat) >>= fun a => Pure.pure (g a))) : decode code pc = .ok (g (c.toNat * 256 + d.toNat), 3) := by
  obtain ⟨a1, h2⟩ := rxe_dr_at h
  obtain ⟨a2, h3⟩ := rxe_dr_at h2
  refine rxe_dk ?_
  rw [show Jvm.ClassFile.Decoder.instr pc = _ from hf, rxe_bd (rxe_u1 a1), hb, hi, rxe_bd (rxe_u2 a2 (rxe_dr_at h3).1)]
  rfl
theorem rxe_S {code : ByteArray} {pc op : Nat} {f : Nat → Jvm.ClassFile.Decoder Instr} {b c : UInt8} {r : List UInt8} {g : Int → Instr} (hf : rxe_F pc f) (h : code.data.toList.drop pc = b :: c :: r) (hb : b.toNat = op) (hi : f op = ((Jvm.ClassFile.Reader.s1 : Jvm.ClassFile.Decoder Int) >>= fun a => Pure.pure (g a))) : decode code pc = .ok (g (Jvm.ClassFile.Reader.signed 8 c.toNat), 2) := by
  obtain ⟨a1, h2⟩ := rxe_dr_at h
  have e : (Jvm.ClassFile.Reader.s1 : Jvm.ClassFile.Decoder Int) code (pc + 1) = .ok (Jvm.ClassFile.Reader.signed 8 c.toNat, pc + 1 + 1) := rxe_mp (rxe_u1 (rxe_dr_at h2).1)
  refine rxe_dk ?_
  rw [show Jvm.ClassFile.Decoder.instr pc = _ from hf, rxe_bd (rxe_u1 a1), hb, hi, rxe_bd e]
  rfl
theorem rxe_T {code : ByteArray} {pc op : Nat} {f : Nat → Jvm.ClassFile.Decoder Instr} {b c d : UInt8} {r : List UInt8} {g : Int → Instr} (hf : rxe_F pc f) (h : code.data.toList.drop pc = b :: c :: d :: r) (hb : b.toNat = op) (hi : f op = ((Jvm.ClassFile.Reader.s2 : Jvm.ClassFile.Decoder Int) >>= fun a => Pure.pure (g a))) : decode code pc = .ok (g (Jvm.ClassFile.Reader.signed 16 (c.toNat * 256 + d.toNat)), 3) := by
  obtain ⟨a1, h2⟩ := rxe_dr_at h
  obtain ⟨a2, h3⟩ := rxe_dr_at h2
  have e : (Jvm.ClassFile.Reader.s2 : Jvm.ClassFile.Decoder Int) code (pc + 1) = .ok (Jvm.ClassFile.Reader.signed 16 (c.toNat * 256 + d.toNat), pc + 1 + 2) := rxe_mp (rxe_u2 a2 (rxe_dr_at h3).1)
  refine rxe_dk ?_
  rw [show Jvm.ClassFile.Decoder.instr pc = _ from hf, rxe_bd (rxe_u1 a1), hb, hi, rxe_bd e]
  rfl
theorem rxe_I {code : ByteArray} {pc op : Nat} {f : Nat → Jvm.ClassFile.Decoder Instr} {b c d : UInt8} {r : List UInt8} {g : Nat → Int → Instr} (hf : rxe_F pc f) (h : code.data.toList.drop pc = b :: c :: d :: r) (hb : b.toNat = op) (hi : f op = ((Jvm.ClassFile.Reader.u1 : Jvm.ClassFile.Decoder Nat) >>= fun x => (Jvm.ClassFile.Reader.s1 : Jvm.ClassFile.Decoder Int) >>= fun y => Pure.pure (g x y))) : decode code pc = .ok (g c.toNat (Jvm.ClassFile.Reader.signed 8 d.toNat), 3) := by
  obtain ⟨a1, h2⟩ := rxe_dr_at h
  obtain ⟨a2, h3⟩ := rxe_dr_at h2
  have e : (Jvm.ClassFile.Reader.s1 : Jvm.ClassFile.Decoder Int) code (pc + 1 + 1) = .ok (Jvm.ClassFile.Reader.signed 8 d.toNat, pc + 1 + 1 + 1) := rxe_mp (rxe_u1 (rxe_dr_at h3).1)
  refine rxe_dk ?_
  rw [show Jvm.ClassFile.Decoder.instr pc = _ from hf, rxe_bd (rxe_u1 a1), hb, hi, rxe_bd (rxe_u1 a2), rxe_bd e]
  rfl
noncomputable def rxe_1 (r : List UInt8) (i : Nat) : Bool := match r with | c :: _ => Nat.beq c.toNat i | _ => false
noncomputable def rxe_2 (r : List UInt8) (i : Nat) : Bool := match r with | c :: d :: _ => Nat.beq (c.toNat * 256 + d.toNat) i | _ => false
noncomputable def rxe_s (r : List UInt8) (i : Int) : Bool := match r with | c :: _ => decide (Jvm.ClassFile.Reader.signed 8 c.toNat = i) | _ => false
noncomputable def rxe_t (r : List UInt8) (i : Int) : Bool := match r with | c :: d :: _ => decide (Jvm.ClassFile.Reader.signed 16 (c.toNat * 256 + d.toNat) = i) | _ => false
theorem rxe_1_ok {r : List UInt8} {i : Nat} (h : rxe_1 r i = true) : ∃ c t, r = c :: t ∧ c.toNat = i := by
  cases r with
  | nil => cases h
  | cons c t => exact ⟨c, t, rfl, rx_beq.mp h⟩
theorem rxe_2_ok {r : List UInt8} {i : Nat} (h : rxe_2 r i = true) : ∃ c d t, r = c :: d :: t ∧ c.toNat * 256 + d.toNat = i := by
  cases r with
  | nil => cases h
  | cons c t =>
    cases t with
    | nil => cases h
    | cons d t => exact ⟨c, d, t, rfl, rx_beq.mp h⟩
theorem rxe_s_ok {r : List UInt8} {i : Int} (h : rxe_s r i = true) : ∃ c t, r = c :: t ∧ Jvm.ClassFile.Reader.signed 8 c.toNat = i := by
  cases r with
  | nil => cases h
  | cons c t => exact ⟨c, t, rfl, of_decide_eq_true h⟩
theorem rxe_t_ok {r : List UInt8} {i : Int} (h : rxe_t r i = true) : ∃ c d t, r = c :: d :: t ∧ Jvm.ClassFile.Reader.signed 16 (c.toNat * 256 + d.toNat) = i := by
  cases r with
  | nil => cases h
  | cons c t =>
    cases t with
    | nil => cases h
    | cons d t => exact ⟨c, d, t, rfl, of_decide_eq_true h⟩
noncomputable def rxe_c (c : Jvm.ClassFile.Cond) : Nat := match c with | .eq => 0 | .ne => 1 | .lt => 2 | .ge => 3 | .gt => 4 | .le => 5
noncomputable def rxe_e (op : Nat) (r : List UInt8) (len : Nat) (ins : Instr) : Bool := match ins with
  | .aload_n n => Nat.beq op (42 + n.val) && Nat.beq len 1
  | .iload_n n => Nat.beq op (26 + n.val) && Nat.beq len 1
  | .lload_n n => Nat.beq op (30 + n.val) && Nat.beq len 1
  | .istore_n n => Nat.beq op (59 + n.val) && Nat.beq len 1
  | .lstore_n n => Nat.beq op (63 + n.val) && Nat.beq len 1
  | .astore_n n => Nat.beq op (75 + n.val) && Nat.beq len 1
  | .iconst i => (match i with | .ofNat k => Nat.beq op (k + 3) && (Nat.ble k 5 && Nat.beq len 1) | .negSucc k => Nat.beq op 2 && (Nat.beq k 0 && Nat.beq len 1))
  | .lconst l => Nat.beq op (9 + l.val) && Nat.beq len 1
  | .iaload => Nat.beq op 46 && Nat.beq len 1
  | .laload => Nat.beq op 47 && Nat.beq len 1
  | .aaload => Nat.beq op 50 && Nat.beq len 1
  | .baload => Nat.beq op 51 && Nat.beq len 1
  | .iastore => Nat.beq op 79 && Nat.beq len 1
  | .lastore => Nat.beq op 80 && Nat.beq len 1
  | .aastore => Nat.beq op 83 && Nat.beq len 1
  | .bastore => Nat.beq op 84 && Nat.beq len 1
  | .pop => Nat.beq op 87 && Nat.beq len 1
  | .pop2 => Nat.beq op 88 && Nat.beq len 1
  | .dup => Nat.beq op 89 && Nat.beq len 1
  | .dup2 => Nat.beq op 92 && Nat.beq len 1
  | .iadd => Nat.beq op 96 && Nat.beq len 1
  | .ladd => Nat.beq op 97 && Nat.beq len 1
  | .isub => Nat.beq op 100 && Nat.beq len 1
  | .lsub => Nat.beq op 101 && Nat.beq len 1
  | .imul => Nat.beq op 104 && Nat.beq len 1
  | .lmul => Nat.beq op 105 && Nat.beq len 1
  | .idiv => Nat.beq op 108 && Nat.beq len 1
  | .ldiv => Nat.beq op 109 && Nat.beq len 1
  | .irem => Nat.beq op 112 && Nat.beq len 1
  | .ineg => Nat.beq op 116 && Nat.beq len 1
  | .ishl => Nat.beq op 120 && Nat.beq len 1
  | .lshl => Nat.beq op 121 && Nat.beq len 1
  | .ishr => Nat.beq op 122 && Nat.beq len 1
  | .lshr => Nat.beq op 123 && Nat.beq len 1
  | .iushr => Nat.beq op 124 && Nat.beq len 1
  | .iand => Nat.beq op 126 && Nat.beq len 1
  | .land => Nat.beq op 127 && Nat.beq len 1
  | .ior => Nat.beq op 128 && Nat.beq len 1
  | .lor => Nat.beq op 129 && Nat.beq len 1
  | .ixor => Nat.beq op 130 && Nat.beq len 1
  | .lxor => Nat.beq op 131 && Nat.beq len 1
  | .i2l => Nat.beq op 133 && Nat.beq len 1
  | .l2i => Nat.beq op 136 && Nat.beq len 1
  | .i2b => Nat.beq op 145 && Nat.beq len 1
  | .lcmp => Nat.beq op 148 && Nat.beq len 1
  | .ireturn => Nat.beq op 172 && Nat.beq len 1
  | .lreturn => Nat.beq op 173 && Nat.beq len 1
  | .areturn => Nat.beq op 176 && Nat.beq len 1
  | .return_ => Nat.beq op 177 && Nat.beq len 1
  | .arraylength => Nat.beq op 190 && Nat.beq len 1
  | .athrow => Nat.beq op 191 && Nat.beq len 1
  | .ldc i => Nat.beq op 18 && (Nat.beq len 2 && rxe_1 r i)
  | .iload i => Nat.beq op 21 && (Nat.beq len 2 && rxe_1 r i)
  | .lload i => Nat.beq op 22 && (Nat.beq len 2 && rxe_1 r i)
  | .aload i => Nat.beq op 25 && (Nat.beq len 2 && rxe_1 r i)
  | .istore i => Nat.beq op 54 && (Nat.beq len 2 && rxe_1 r i)
  | .lstore i => Nat.beq op 55 && (Nat.beq len 2 && rxe_1 r i)
  | .astore i => Nat.beq op 58 && (Nat.beq len 2 && rxe_1 r i)
  | .ldc_w i => Nat.beq op 19 && (Nat.beq len 3 && rxe_2 r i)
  | .ldc2_w i => Nat.beq op 20 && (Nat.beq len 3 && rxe_2 r i)
  | .getfield i => Nat.beq op 180 && (Nat.beq len 3 && rxe_2 r i)
  | .putfield i => Nat.beq op 181 && (Nat.beq len 3 && rxe_2 r i)
  | .invokevirtual i => Nat.beq op 182 && (Nat.beq len 3 && rxe_2 r i)
  | .invokespecial i => Nat.beq op 183 && (Nat.beq len 3 && rxe_2 r i)
  | .invokestatic i => Nat.beq op 184 && (Nat.beq len 3 && rxe_2 r i)
  | .new i => Nat.beq op 187 && (Nat.beq len 3 && rxe_2 r i)
  | .anewarray i => Nat.beq op 189 && (Nat.beq len 3 && rxe_2 r i)
  | .bipush i => Nat.beq op 16 && (Nat.beq len 2 && rxe_s r i)
  | .sipush i => Nat.beq op 17 && (Nat.beq len 3 && rxe_t r i)
  | .goto i => Nat.beq op 167 && (Nat.beq len 3 && rxe_t r i)
  | .ifCond c i => Nat.beq op (153 + rxe_c c) && (Nat.beq len 3 && rxe_t r i)
  | .if_icmp c i => Nat.beq op (159 + rxe_c c) && (Nat.beq len 3 && rxe_t r i)
  | .iinc i d => Nat.beq op 132 && (Nat.beq len 3 && (rxe_1 r i && rxe_s r.tail d))
  | _ => false
noncomputable def rxe_k (bytes : ByteArray) (pc len : Nat) (ins : Instr) : Bool := match rxe_dr bytes.data.toList pc with
  | [] => false
  | o :: r => rxe_e o.toNat r len ins
/-- what instr does behind each of the opcodes used -/
theorem rxe_fs (pc : Nat) : ∃ f, rxe_F pc f ∧ f 42 = (Pure.pure (Instr.aload_n 0)) ∧ f 43 = (Pure.pure (Instr.aload_n 1)) ∧ f 44 = (Pure.pure (Instr.aload_n 2)) ∧ f 45 = (Pure.pure (Instr.aload_n 3)) ∧ f 26 = (Pure.pure (Instr.iload_n 0)) ∧ f 27 = (Pure.pure (Instr.iload_n 1)) ∧ f 28 = (Pure.pure (Instr.iload_n 2)) ∧ f 29 = (Pure.pure (Instr.iload_n 3)) ∧ f 30 = (Pure.pure (Instr.lload_n 0)) ∧ f 31 = (Pure.pure (Instr.lload_n 1)) ∧ f 32 = (Pure.pure (Instr.lload_n 2)) ∧ f 33 = (Pure.pure (Instr.lload_n 3)) ∧ f 59 = (Pure.pure (Instr.istore_n 0)) ∧ f 60 = (Pure.pure (Instr.istore_n 1)) ∧ f 61 = (Pure.pure (Instr.istore_n 2)) ∧ f 62 = (Pure.pure (Instr.istore_n 3)) ∧ f 63 = (Pure.pure (Instr.lstore_n 0)) ∧ f 64 = (Pure.pure (Instr.lstore_n 1)) ∧ f 65 = (Pure.pure (Instr.lstore_n 2)) ∧ f 66 = (Pure.pure (Instr.lstore_n 3)) ∧ f 75 = (Pure.pure (Instr.astore_n 0)) ∧ f 76 = (Pure.pure (Instr.astore_n 1)) ∧ f 77 = (Pure.pure (Instr.astore_n 2)) ∧ f 78 = (Pure.pure (Instr.astore_n 3)) ∧ f 2 = (Pure.pure (Instr.iconst (-1))) ∧ f 3 = (Pure.pure (Instr.iconst 0)) ∧ f 4 = (Pure.pure (Instr.iconst 1)) ∧ f 5 = (Pure.pure (Instr.iconst 2)) ∧ f 6 = (Pure.pure (Instr.iconst 3)) ∧ f 7 = (Pure.pure (Instr.iconst 4)) ∧ f 8 = (Pure.pure (Instr.iconst 5)) ∧ f 9 = (Pure.pure (Instr.lconst 0)) ∧ f 10 = (Pure.pure (Instr.lconst 1)) ∧ f 46 = (Pure.pure Instr.iaload) ∧ f 47 = (Pure.pure Instr.laload) ∧ f 50 = (Pure.pure Instr.aaload) ∧ f 51 = (Pure.pure Instr.baload) ∧ f 79 = (Pure.pure Instr.iastore) ∧ f 80 = (Pure.pure Instr.lastore) ∧ f 83 = (Pure.pure Instr.aastore) ∧ f 84 = (Pure.pure Instr.bastore) ∧ f 87 = (Pure.pure Instr.pop) ∧ f 88 = (Pure.pure Instr.pop2) ∧ f 89 = (Pure.pure Instr.dup) ∧ f 92 = (Pure.pure Instr.dup2) ∧ f 96 = (Pure.pure Instr.iadd) ∧ f 97 = (Pure.pure Instr.ladd) ∧ f 100 = (Pure.pure Instr.isub) ∧ f 101 = (Pure.pure Instr.lsub) ∧ f 104 = (Pure.pure Instr.imul) ∧ f 105 = (Pure.pure Instr.lmul) ∧ f 108 = (Pure.pure Instr.idiv) ∧ f 109 = (Pure.pure Instr.ldiv) ∧ f 112 = (Pure.pure Instr.irem) ∧ f 116 = (Pure.pure Instr.ineg) ∧ f 120 = (Pure.pure Instr.ishl) ∧ f 121 = (Pure.pure Instr.lshl) ∧ f 122 = (Pure.pure Instr.ishr) ∧ f 123 = (Pure.pure Instr.lshr) ∧ f 124 = (Pure.pure Instr.iushr) ∧ f 126 = (Pure.pure Instr.iand) ∧ f 127 = (Pure.pure Instr.land) ∧ f 128 = (Pure.pure Instr.ior) ∧ f 129 = (Pure.pure Instr.lor) ∧ f 130 = (Pure.pure Instr.ixor) ∧ f 131 = (Pure.pure Instr.lxor) ∧ f 133 = (Pure.pure Instr.i2l) ∧ f 136 = (Pure.pure Instr.l2i) ∧ f 145 = (Pure.pure Instr.i2b) ∧ f 148 = (Pure.pure Instr.lcmp) ∧ f 172 = (Pure.pure Instr.ireturn) ∧ f 173 = (Pure.pure Instr.lreturn) ∧ f 176 = (Pure.pure Instr.areturn) ∧ f 177 = (Pure.pure Instr.return_) ∧ f 190 = (Pure.pure Instr.arraylength) ∧ f 191 = (Pure.pure Instr.athrow) ∧ f 18 = ((Jvm.ClassFile.Reader.u1 : Jvm.ClassFile.Decoder Nat) >>= fun a => Pure.pure (Instr.ldc a)) ∧ f 21 = ((Jvm.ClassFile.Reader.u1 : Jvm.ClassFile.Decoder Nat) >>= fun a => Pure.pure (Instr.iload a)) ∧ f 22 = ((Jvm.ClassFile.Reader.u1 : Jvm.ClassFile.Decoder Nat) >>= fun a => Pure.pure (Instr.lload a)) ∧ f 25 = ((Jvm.ClassFile.Reader.u1 : Jvm.ClassFile.Decoder Nat) >>= fun a => Pure.pure (Instr.aload a)) ∧ f 54 = ((Jvm.ClassFile.Reader.u1 : Jvm.ClassFile.Decoder Nat) >>= fun a => Pure.pure (Instr.istore a)) ∧ f 55 = ((Jvm.ClassFile.Reader.u1 : Jvm.ClassFile.Decoder Nat) >>= fun a => Pure.pure (Instr.lstore a)) ∧ f 58 = ((Jvm.ClassFile.Reader.u1 : Jvm.ClassFile.Decoder Nat) >>= fun a => Pure.pure (Instr.astore a)) ∧ f 19 = ((Jvm.ClassFile.Reader.u2 : Jvm.ClassFile.Decoder Nat) >>= fun a => Pure.pure (Instr.ldc_w a)) ∧ f 20 = ((Jvm.ClassFile.Reader.u2 : Jvm.ClassFile.Decoder Nat) >>= fun a => Pure.pure (Instr.ldc2_w a)) ∧ f 180 = ((Jvm.ClassFile.Reader.u2 : Jvm.ClassFile.Decoder Nat) >>= fun a => Pure.pure (Instr.getfield a)) ∧ f 181 = ((Jvm.ClassFile.Reader.u2 : Jvm.ClassFile.Decoder Nat) >>= fun a => Pure.pure (Instr.putfield a)) ∧ f 182 = ((Jvm.ClassFile.Reader.u2 : Jvm.ClassFile.Decoder Nat) >>= fun a => Pure.pure (Instr.invokevirtual a)) ∧ f 183 = ((Jvm.ClassFile.Reader.u2 : Jvm.ClassFile.Decoder Nat) >>= fun a => Pure.pure (Instr.invokespecial a)) ∧ f 184 = ((Jvm.ClassFile.Reader.u2 : Jvm.ClassFile.Decoder Nat) >>= fun a => Pure.pure (Instr.invokestatic a)) ∧ f 187 = ((Jvm.ClassFile.Reader.u2 : Jvm.ClassFile.Decoder Nat) >>= fun a => Pure.pure (Instr.new a)) ∧ f 189 = ((Jvm.ClassFile.Reader.u2 : Jvm.ClassFile.Decoder Nat) >>= fun a => Pure.pure (Instr.anewarray a)) ∧ f 16 = ((Jvm.ClassFile.Reader.s1 : Jvm.ClassFile.Decoder Int) >>= fun a => Pure.pure (Instr.bipush a)) ∧ f 17 = ((Jvm.ClassFile.Reader.s2 : Jvm.ClassFile.Decoder Int) >>= fun a => Pure.pure (Instr.sipush a)) ∧ f 167 = ((Jvm.ClassFile.Reader.s2 : Jvm.ClassFile.Decoder Int) >>= fun a => Pure.pure (Instr.goto a)) ∧ f 153 = ((Jvm.ClassFile.Reader.s2 : Jvm.ClassFile.Decoder Int) >>= fun a => Pure.pure (Instr.ifCond .eq a)) ∧ f 159 = ((Jvm.ClassFile.Reader.s2 : Jvm.ClassFile.Decoder Int) >>= fun a => Pure.pure (Instr.if_icmp .eq a)) ∧ f 154 = ((Jvm.ClassFile.Reader.s2 : Jvm.ClassFile.Decoder Int) >>= fun a => Pure.pure (Instr.ifCond .ne a)) ∧ f 160 = ((Jvm.ClassFile.Reader.s2 : Jvm.ClassFile.Decoder Int) >>= fun a => Pure.pure (Instr.if_icmp .ne a)) ∧ f 155 = ((Jvm.ClassFile.Reader.s2 : Jvm.ClassFile.Decoder Int) >>= fun a => Pure.pure (Instr.ifCond .lt a)) ∧ f 161 = ((Jvm.ClassFile.Reader.s2 : Jvm.ClassFile.Decoder Int) >>= fun a => Pure.pure (Instr.if_icmp .lt a)) ∧ f 156 = ((Jvm.ClassFile.Reader.s2 : Jvm.ClassFile.Decoder Int) >>= fun a => Pure.pure (Instr.ifCond .ge a)) ∧ f 162 = ((Jvm.ClassFile.Reader.s2 : Jvm.ClassFile.Decoder Int) >>= fun a => Pure.pure (Instr.if_icmp .ge a)) ∧ f 157 = ((Jvm.ClassFile.Reader.s2 : Jvm.ClassFile.Decoder Int) >>= fun a => Pure.pure (Instr.ifCond .gt a)) ∧ f 163 = ((Jvm.ClassFile.Reader.s2 : Jvm.ClassFile.Decoder Int) >>= fun a => Pure.pure (Instr.if_icmp .gt a)) ∧ f 158 = ((Jvm.ClassFile.Reader.s2 : Jvm.ClassFile.Decoder Int) >>= fun a => Pure.pure (Instr.ifCond .le a)) ∧ f 164 = ((Jvm.ClassFile.Reader.s2 : Jvm.ClassFile.Decoder Int) >>= fun a => Pure.pure (Instr.if_icmp .le a)) ∧ f 132 = ((Jvm.ClassFile.Reader.u1 : Jvm.ClassFile.Decoder Nat) >>= fun x => (Jvm.ClassFile.Reader.s1 : Jvm.ClassFile.Decoder Int) >>= fun y => Pure.pure (Instr.iinc x y)) :=
  ⟨_, rfl, rfl, rfl, rfl, rfl, rfl, rfl, rfl, rfl, rfl, rfl, rfl, rfl, rfl, rfl, rfl, rfl, rfl, rfl, rfl, rfl, rfl, rfl, rfl, rfl, rfl, rfl, rfl, rfl, rfl, rfl, rfl, rfl, rfl, rfl, rfl, rfl, rfl, rfl, rfl, rfl, rfl, rfl, rfl, rfl, rfl, rfl, rfl, rfl, rfl, rfl, rfl, rfl, rfl, rfl, rfl, rfl, rfl, rfl, rfl, rfl, rfl, rfl, rfl, rfl, rfl, rfl, rfl, rfl, rfl, rfl, rfl, rfl, rfl, rfl, rfl, rfl, rfl, rfl, rfl, rfl, rfl, rfl, rfl, rfl, rfl, rfl, rfl, rfl, rfl, rfl, rfl, rfl, rfl, rfl, rfl, rfl, rfl, rfl, rfl, rfl, rfl, rfl, rfl, rfl, rfl, rfl, rfl, rfl⟩
theorem rxe_k_ok {code : ByteArray} {pc len : Nat} {ins : Instr} (h : rxe_k code pc len ins = true) : decode code pc = .ok (ins, len) := by
  obtain ⟨f, hf, f42, f43, f44, f45, f26, f27, f28, f29, f30, f31, f32, f33, f59, f60, f61, f62, f63, f64, f65, f66, f75, f76, f77, f78, f2, f3, f4, f5, f6, f7, f8, f9, f10, f46, f47, f50, f51, f79, f80, f83, f84, f87, f88, f89, f92, f96, f97, f100, f101, f104, f105, f108, f109, f112, f116, f120, f121, f122, f123, f124, f126, f127, f128, f129, f130, f131, f133, f136, f145, f148, f172, f173, f176, f177, f190, f191, f18, f21, f22, f25, f54, f55, f58, f19, f20, f180, f181, f182, f183, f184, f187, f189, f16, f17, f167, f153, f159, f154, f160, f155, f161, f156, f162, f157, f163, f158, f164, f132⟩ := rxe_fs pc
  unfold rxe_k at h
  rw [rxe_dr_eq] at h
  cases hd : code.data.toList.drop pc with
  | nil => rw [hd] at h; cases h
  | cons o r =>
    rw [hd] at h
    have h : rxe_e o.toNat r len ins = true := h
    cases ins with
    | aload_n n =>
      obtain ⟨h1, h2⟩ := rx_and2.mp h
      have h2 := rx_beq.mp h2
      subst h2
      have h1 := rx_beq.mp h1
      obtain ⟨n, hn⟩ := n
      match n, hn, h1 with
      | 0, _, h1 => exact rxe_A hf hd h1 f42
      | 1, _, h1 => exact rxe_A hf hd h1 f43
      | 2, _, h1 => exact rxe_A hf hd h1 f44
      | 3, _, h1 => exact rxe_A hf hd h1 f45
      | k + 4, hn, _ => omega
    | iload_n n =>
      obtain ⟨h1, h2⟩ := rx_and2.mp h
      have h2 := rx_beq.mp h2
      subst h2
      have h1 := rx_beq.mp h1
      obtain ⟨n, hn⟩ := n
      match n, hn, h1 with
      | 0, _, h1 => exact rxe_A hf hd h1 f26
      | 1, _, h1 => exact rxe_A hf hd h1 f27
      | 2, _, h1 => exact rxe_A hf hd h1 f28
      | 3, _, h1 => exact rxe_A hf hd h1 f29
      | k + 4, hn, _ => omega
    | lload_n n =>
      obtain ⟨h1, h2⟩ := rx_and2.mp h
      have h2 := rx_beq.mp h2
      subst h2
      have h1 := rx_beq.mp h1
      obtain ⟨n, hn⟩ := n
      match n, hn, h1 with
      | 0, _, h1 => exact rxe_A hf hd h1 f30
      | 1, _, h1 => exact rxe_A hf hd h1 f31
      | 2, _, h1 => exact rxe_A hf hd h1 f32
      | 3, _, h1 => exact rxe_A hf hd h1 f33
      | k + 4, hn, _ => omega
    | istore_n n =>
      obtain ⟨h1, h2⟩ := rx_and2.mp h
      have h2 := rx_beq.mp h2
      subst h2
      have h1 := rx_beq.mp h1
      obtain ⟨n, hn⟩ := n
      match n, hn, h1 with
      | 0, _, h1 => exact rxe_A hf hd h1 f59
      | 1, _, h1 => exact rxe_A hf hd h1 f60
      | 2, _, h1 => exact rxe_A hf hd h1 f61
      | 3, _, h1 => exact rxe_A hf hd h1 f62
      | k + 4, hn, _ => omega
    | lstore_n n =>
      obtain ⟨h1, h2⟩ := rx_and2.mp h
      have h2 := rx_beq.mp h2
      subst h2
      have h1 := rx_beq.mp h1
      obtain ⟨n, hn⟩ := n
      match n, hn, h1 with
      | 0, _, h1 => exact rxe_A hf hd h1 f63
      | 1, _, h1 => exact rxe_A hf hd h1 f64
      | 2, _, h1 => exact rxe_A hf hd h1 f65
      | 3, _, h1 => exact rxe_A hf hd h1 f66
      | k + 4, hn, _ => omega
    | astore_n n =>
      obtain ⟨h1, h2⟩ := rx_and2.mp h
      have h2 := rx_beq.mp h2
      subst h2
      have h1 := rx_beq.mp h1
      obtain ⟨n, hn⟩ := n
      match n, hn, h1 with
      | 0, _, h1 => exact rxe_A hf hd h1 f75
      | 1, _, h1 => exact rxe_A hf hd h1 f76
      | 2, _, h1 => exact rxe_A hf hd h1 f77
      | 3, _, h1 => exact rxe_A hf hd h1 f78
      | k + 4, hn, _ => omega
    | iconst i =>
      cases i with
      | ofNat k =>
        obtain ⟨h1, k3⟩ := rx_and2.mp h
        obtain ⟨h3, h2⟩ := rx_and2.mp k3
        have h2 := rx_beq.mp h2
        subst h2
        have h1 := rx_beq.mp h1
        have h3 := rx_ble.mp h3
        match k, h1, h3 with
        | 0, h1, _ => exact rxe_A hf hd h1 f3
        | 1, h1, _ => exact rxe_A hf hd h1 f4
        | 2, h1, _ => exact rxe_A hf hd h1 f5
        | 3, h1, _ => exact rxe_A hf hd h1 f6
        | 4, h1, _ => exact rxe_A hf hd h1 f7
        | 5, h1, _ => exact rxe_A hf hd h1 f8
        | k + 6, _, h3 => omega
      | negSucc k =>
        obtain ⟨h1, k3⟩ := rx_and2.mp h
        obtain ⟨h3, h2⟩ := rx_and2.mp k3
        have h2 := rx_beq.mp h2
        subst h2
        have h1 := rx_beq.mp h1
        have h3 := rx_beq.mp h3
        subst h3
        exact rxe_A hf hd h1 f2
    | lconst n =>
      obtain ⟨h1, h2⟩ := rx_and2.mp h
      have h2 := rx_beq.mp h2
      subst h2
      have h1 := rx_beq.mp h1
      obtain ⟨n, hn⟩ := n
      match n, hn, h1 with
      | 0, _, h1 => exact rxe_A hf hd h1 f9
      | 1, _, h1 => exact rxe_A hf hd h1 f10
      | k + 2, hn, _ => omega
    | iaload =>
      obtain ⟨h1, h2⟩ := rx_and2.mp h
      have h2 := rx_beq.mp h2
      subst h2
      exact rxe_A hf hd (rx_beq.mp h1) f46
    | laload =>
      obtain ⟨h1, h2⟩ := rx_and2.mp h
      have h2 := rx_beq.mp h2
      subst h2
      exact rxe_A hf hd (rx_beq.mp h1) f47
    | aaload =>
      obtain ⟨h1, h2⟩ := rx_and2.mp h
      have h2 := rx_beq.mp h2
      subst h2
      exact rxe_A hf hd (rx_beq.mp h1) f50
    | baload =>
      obtain ⟨h1, h2⟩ := rx_and2.mp h
      have h2 := rx_beq.mp h2
      subst h2
      exact rxe_A hf hd (rx_beq.mp h1) f51
    | iastore =>
      obtain ⟨h1, h2⟩ := rx_and2.mp h
      have h2 := rx_beq.mp h2
      subst h2
      exact rxe_A hf hd (rx_beq.mp h1) f79
    | lastore =>
      obtain ⟨h1, h2⟩ := rx_and2.mp h
      have h2 := rx_beq.mp h2
      subst h2
      exact rxe_A hf hd (rx_beq.mp h1) f80
    | aastore =>
      obtain ⟨h1, h2⟩ := rx_and2.mp h
      have h2 := rx_beq.mp h2
      subst h2
      exact rxe_A hf hd (rx_beq.mp h1) f83
    | bastore =>
      obtain ⟨h1, h2⟩ := rx_and2.mp h
      have h2 := rx_beq.mp h2
      subst h2
      exact rxe_A hf hd (rx_beq.mp h1) f84
    | pop =>
      obtain ⟨h1, h2⟩ := rx_and2.mp h
      have h2 := rx_beq.mp h2
      subst h2
      exact rxe_A hf hd (rx_beq.mp h1) f87
    | pop2 =>
      obtain ⟨h1, h2⟩ := rx_and2.mp h
      have h2 := rx_beq.mp h2
      subst h2
      exact rxe_A hf hd (rx_beq.mp h1) f88
    | dup =>
      obtain ⟨h1, h2⟩ := rx_and2.mp h
      have h2 := rx_beq.mp h2
      subst h2
      exact rxe_A hf hd (rx_beq.mp h1) f89
    | dup2 =>
      obtain ⟨h1, h2⟩ := rx_and2.mp h
      have h2 := rx_beq.mp h2
      subst h2
      exact rxe_A hf hd (rx_beq.mp h1) f92
    | iadd =>
      obtain ⟨h1, h2⟩ := rx_and2.mp h
      have h2 := rx_beq.mp h2
      subst h2
      exact rxe_A hf hd (rx_beq.mp h1) f96
    | ladd =>
      obtain ⟨h1, h2⟩ := rx_and2.mp h
      have h2 := rx_beq.mp h2
      subst h2
      exact rxe_A hf hd (rx_beq.mp h1) f97
    | isub =>
      obtain ⟨h1, h2⟩ := rx_and2.mp h
      have h2 := rx_beq.mp h2
      subst h2
      exact rxe_A hf hd (rx_beq.mp h1) f100
    | lsub =>
      obtain ⟨h1, h2⟩ := rx_and2.mp h
      have h2 := rx_beq.mp h2
      subst h2
      exact rxe_A hf hd (rx_beq.mp h1) f101
    | imul =>
      obtain ⟨h1, h2⟩ := rx_and2.mp h
      have h2 := rx_beq.mp h2
      subst h2
      exact rxe_A hf hd (rx_beq.mp h1) f104
    | lmul =>
      obtain ⟨h1, h2⟩ := rx_and2.mp h
      have h2 := rx_beq.mp h2
      subst h2
      exact rxe_A hf hd (rx_beq.mp h1) f105
    | idiv =>
      obtain ⟨h1, h2⟩ := rx_and2.mp h
      have h2 := rx_beq.mp h2
      subst h2
      exact rxe_A hf hd (rx_beq.mp h1) f108
    | ldiv =>
      obtain ⟨h1, h2⟩ := rx_and2.mp h
      have h2 := rx_beq.mp h2
      subst h2
      exact rxe_A hf hd (rx_beq.mp h1) f109
    | irem =>
      obtain ⟨h1, h2⟩ := rx_and2.mp h
      have h2 := rx_beq.mp h2
      subst h2
      exact rxe_A hf hd (rx_beq.mp h1) f112
    | ineg =>
      obtain ⟨h1, h2⟩ := rx_and2.mp h
      have h2 := rx_beq.mp h2
      subst h2
      exact rxe_A hf hd (rx_beq.mp h1) f116
    | ishl =>
      obtain ⟨h1, h2⟩ := rx_and2.mp h
      have h2 := rx_beq.mp h2
      subst h2
      exact rxe_A hf hd (rx_beq.mp h1) f120
    | lshl =>
      obtain ⟨h1, h2⟩ := rx_and2.mp h
      have h2 := rx_beq.mp h2
      subst h2
      exact rxe_A hf hd (rx_beq.mp h1) f121
    | ishr =>
      obtain ⟨h1, h2⟩ := rx_and2.mp h
      have h2 := rx_beq.mp h2
      subst h2
      exact rxe_A hf hd (rx_beq.mp h1) f122
    | lshr =>
      obtain ⟨h1, h2⟩ := rx_and2.mp h
      have h2 := rx_beq.mp h2
      subst h2
      exact rxe_A hf hd (rx_beq.mp h1) f123
    | iushr =>
      obtain ⟨h1, h2⟩ := rx_and2.mp h
      have h2 := rx_beq.mp h2
      subst h2
      exact rxe_A hf hd (rx_beq.mp h1) f124
    | iand =>
      obtain ⟨h1, h2⟩ := rx_and2.mp h
      have h2 := rx_beq.mp h2
      subst h2
      exact rxe_A hf hd (rx_beq.mp h1) f126
    | land =>
      obtain ⟨h1, h2⟩ := rx_and2.mp h
      have h2 := rx_beq.mp h2
      subst h2
      exact rxe_A hf hd (rx_beq.mp h1) f127
    | ior =>
      obtain ⟨h1, h2⟩ := rx_and2.mp h
      have h2 := rx_beq.mp h2
      subst h2
      exact rxe_A hf hd (rx_beq.mp h1) f128
    | lor =>
      obtain ⟨h1, h2⟩ := rx_and2.mp h
      have h2 := rx_beq.mp h2
      subst h2
      exact rxe_A hf hd (rx_beq.mp h1) f129
    | ixor =>
      obtain ⟨h1, h2⟩ := rx_and2.mp h
      have h2 := rx_beq.mp h2
      subst h2
      exact rxe_A hf hd (rx_beq.mp h1) f130
    | lxor =>
      obtain ⟨h1, h2⟩ := rx_and2.mp h
      have h2 := rx_beq.mp h2
      subst h2
      exact rxe_A hf hd (rx_beq.mp h1) f131
    | i2l =>
      obtain ⟨h1, h2⟩ := rx_and2.mp h
      have h2 := rx_beq.mp h2
      subst h2
      exact rxe_A hf hd (rx_beq.mp h1) f133
    | l2i =>
      obtain ⟨h1, h2⟩ := rx_and2.mp h
      have h2 := rx_beq.mp h2
      subst h2
      exact rxe_A hf hd (rx_beq.mp h1) f136
    | i2b =>
      obtain ⟨h1, h2⟩ := rx_and2.mp h
      have h2 := rx_beq.mp h2
      subst h2
      exact rxe_A hf hd (rx_beq.mp h1) f145
    | lcmp =>
      obtain ⟨h1, h2⟩ := rx_and2.mp h
      have h2 := rx_beq.mp h2
      subst h2
      exact rxe_A hf hd (rx_beq.mp h1) f148
    | ireturn =>
      obtain ⟨h1, h2⟩ := rx_and2.mp h
      have h2 := rx_beq.mp h2
      subst h2
      exact rxe_A hf hd (rx_beq.mp h1) f172
    | lreturn =>
      obtain ⟨h1, h2⟩ := rx_and2.mp h
      have h2 := rx_beq.mp h2
      subst h2
      exact rxe_A hf hd (rx_beq.mp h1) f173
    | areturn =>
      obtain ⟨h1, h2⟩ := rx_and2.mp h
      have h2 := rx_beq.mp h2
      subst h2
      exact rxe_A hf hd (rx_beq.mp h1) f176
    | return_ =>
      obtain ⟨h1, h2⟩ := rx_and2.mp h
      have h2 := rx_beq.mp h2
      subst h2
      exact rxe_A hf hd (rx_beq.mp h1) f177
    | arraylength =>
      obtain ⟨h1, h2⟩ := rx_and2.mp h
      have h2 := rx_beq.mp h2
      subst h2
      exact rxe_A hf hd (rx_beq.mp h1) f190
    | athrow =>
      obtain ⟨h1, h2⟩ := rx_and2.mp h
      have h2 := rx_beq.mp h2
      subst h2
      exact rxe_A hf hd (rx_beq.mp h1) f191
    | ldc i =>
      obtain ⟨h1, k3⟩ := rx_and2.mp h
      obtain ⟨h2, h3⟩ := rx_and2.mp k3
      have h2 := rx_beq.mp h2
      subst h2
      have h1 := rx_beq.mp h1
      obtain ⟨c, t, e, e2⟩ := rxe_1_ok h3
      subst e
      subst e2
      exact rxe_B (g := fun a => Instr.ldc a) hf hd h1 f18
    | iload i =>
      obtain ⟨h1, k3⟩ := rx_and2.mp h
      obtain ⟨h2, h3⟩ := rx_and2.mp k3
      have h2 := rx_beq.mp h2
      subst h2
      have h1 := rx_beq.mp h1
      obtain ⟨c, t, e, e2⟩ := rxe_1_ok h3
      subst e
      subst e2
      exact rxe_B (g := fun a => Instr.iload a) hf hd h1 f21
    | lload i =>
      obtain ⟨h1, k3⟩ := rx_and2.mp h
      obtain ⟨h2, h3⟩ := rx_and2.mp k3
      have h2 := rx_beq.mp h2
      subst h2
      have h1 := rx_beq.mp h1
      obtain ⟨c, t, e, e2⟩ := rxe_1_ok h3
      subst e
      subst e2
      exact rxe_B (g := fun a => Instr.lload a) hf hd h1 f22
    | aload i =>
      obtain ⟨h1, k3⟩ := rx_and2.mp h
      obtain ⟨h2, h3⟩ := rx_and2.mp k3
      have h2 := rx_beq.mp h2
      subst h2
      have h1 := rx_beq.mp h1
      obtain ⟨c, t, e, e2⟩ := rxe_1_ok h3
      subst e
      subst e2
      exact rxe_B (g := fun a => Instr.aload a) hf hd h1 f25
    | istore i =>
      obtain ⟨h1, k3⟩ := rx_and2.mp h
      obtain ⟨h2, h3⟩ := rx_and2.mp k3
      have h2 := rx_beq.mp h2
      subst h2
      have h1 := rx_beq.mp h1
      obtain ⟨c, t, e, e2⟩ := rxe_1_ok h3
      subst e
      subst e2
      exact rxe_B (g := fun a => Instr.istore a) hf hd h1 f54
    | lstore i =>
      obtain ⟨h1, k3⟩ := rx_and2.mp h
      obtain ⟨h2, h3⟩ := rx_and2.mp k3
      have h2 := rx_beq.mp h2
      subst h2
      have h1 := rx_beq.mp h1
      obtain ⟨c, t, e, e2⟩ := rxe_1_ok h3
      subst e
      subst e2
      exact rxe_B (g := fun a => Instr.lstore a) hf hd h1 f55
    | astore i =>
      obtain ⟨h1, k3⟩ := rx_and2.mp h
      obtain ⟨h2, h3⟩ := rx_and2.mp k3
      have h2 := rx_beq.mp h2
      subst h2
      have h1 := rx_beq.mp h1
      obtain ⟨c, t, e, e2⟩ := rxe_1_ok h3
      subst e
      subst e2
      exact rxe_B (g := fun a => Instr.astore a) hf hd h1 f58
    | ldc_w i =>
      obtain ⟨h1, k3⟩ := rx_and2.mp h
      obtain ⟨h2, h3⟩ := rx_and2.mp k3
      have h2 := rx_beq.mp h2
      subst h2
      have h1 := rx_beq.mp h1
      obtain ⟨c, d, t, e, e2⟩ := rxe_2_ok h3
      subst e
      subst e2
      exact rxe_C (g := fun a => Instr.ldc_w a) hf hd h1 f19
    | ldc2_w i =>
      obtain ⟨h1, k3⟩ := rx_and2.mp h
      obtain ⟨h2, h3⟩ := rx_and2.mp k3
      have h2 := rx_beq.mp h2
      subst h2
      have h1 := rx_beq.mp h1
      obtain ⟨c, d, t, e, e2⟩ := rxe_2_ok h3
      subst e
      subst e2
      exact rxe_C (g := fun a => Instr.ldc2_w a) hf hd h1 f20
    | getfield i =>
      obtain ⟨h1, k3⟩ := rx_and2.mp h
      obtain ⟨h2, h3⟩ := rx_and2.mp k3
      have h2 := rx_beq.mp h2
      subst h2
      have h1 := rx_beq.mp h1
      obtain ⟨c, d, t, e, e2⟩ := rxe_2_ok h3
      subst e
      subst e2
      exact rxe_C (g := fun a => Instr.getfield a) hf hd h1 f180
    | putfield i =>
      obtain ⟨h1, k3⟩ := rx_and2.mp h
      obtain ⟨h2, h3⟩ := rx_and2.mp k3
      have h2 := rx_beq.mp h2
      subst h2
      have h1 := rx_beq.mp h1
      obtain ⟨c, d, t, e, e2⟩ := rxe_2_ok h3
      subst e
      subst e2
      exact rxe_C (g := fun a => Instr.putfield a) hf hd h1 f181
    | invokevirtual i =>
      obtain ⟨h1, k3⟩ := rx_and2.mp h
      obtain ⟨h2, h3⟩ := rx_and2.mp k3
      have h2 := rx_beq.mp h2
      subst h2
      have h1 := rx_beq.mp h1
      obtain ⟨c, d, t, e, e2⟩ := rxe_2_ok h3
      subst e
      subst e2
      exact rxe_C (g := fun a => Instr.invokevirtual a) hf hd h1 f182
    | invokespecial i =>
      obtain ⟨h1, k3⟩ := rx_and2.mp h
      obtain ⟨h2, h3⟩ := rx_and2.mp k3
      have h2 := rx_beq.mp h2
      subst h2
      have h1 := rx_beq.mp h1
      obtain ⟨c, d, t, e, e2⟩ := rxe_2_ok h3
      subst e
      subst e2
      exact rxe_C (g := fun a => Instr.invokespecial a) hf hd h1 f183
    | invokestatic i =>
      obtain ⟨h1, k3⟩ := rx_and2.mp h
      obtain ⟨h2, h3⟩ := rx_and2.mp k3
      have h2 := rx_beq.mp h2
      subst h2
      have h1 := rx_beq.mp h1
      obtain ⟨c, d, t, e, e2⟩ := rxe_2_ok h3
      subst e
      subst e2
      exact rxe_C (g := fun a => Instr.invokestatic a) hf hd h1 f184
    | new i =>
      obtain ⟨h1, k3⟩ := rx_and2.mp h
      obtain ⟨h2, h3⟩ := rx_and2.mp k3
      have h2 := rx_beq.mp h2
      subst h2
      have h1 := rx_beq.mp h1
      obtain ⟨c, d, t, e, e2⟩ := rxe_2_ok h3
      subst e
      subst e2
      exact rxe_C (g := fun a => Instr.new a) hf hd h1 f187
    | anewarray i =>
      obtain ⟨h1, k3⟩ := rx_and2.mp h
      obtain ⟨h2, h3⟩ := rx_and2.mp k3
      have h2 := rx_beq.mp h2
      subst h2
      have h1 := rx_beq.mp h1
      obtain ⟨c, d, t, e, e2⟩ := rxe_2_ok h3
      subst e
      subst e2
      exact rxe_C (g := fun a => Instr.anewarray a) hf hd h1 f189
    | bipush i =>
      obtain ⟨h1, k3⟩ := rx_and2.mp h
      obtain ⟨h2, h3⟩ := rx_and2.mp k3
      have h2 := rx_beq.mp h2
      subst h2
      have h1 := rx_beq.mp h1
      obtain ⟨c, t, e, e2⟩ := rxe_s_ok h3
      subst e
      subst e2
      exact rxe_S (g := fun a => Instr.bipush a) hf hd h1 f16
    | sipush i =>
      obtain ⟨h1, k3⟩ := rx_and2.mp h
      obtain ⟨h2, h3⟩ := rx_and2.mp k3
      have h2 := rx_beq.mp h2
      subst h2
      have h1 := rx_beq.mp h1
      obtain ⟨c, d, t, e, e2⟩ := rxe_t_ok h3
      subst e
      subst e2
      exact rxe_T (g := fun a => Instr.sipush a) hf hd h1 f17
    | goto i =>
      obtain ⟨h1, k3⟩ := rx_and2.mp h
      obtain ⟨h2, h3⟩ := rx_and2.mp k3
      have h2 := rx_beq.mp h2
      subst h2
      have h1 := rx_beq.mp h1
      obtain ⟨c, d, t, e, e2⟩ := rxe_t_ok h3
      subst e
      subst e2
      exact rxe_T (g := fun a => Instr.goto a) hf hd h1 f167
    | ifCond c i =>
      obtain ⟨h1, k3⟩ := rx_and2.mp h
      obtain ⟨h2, h3⟩ := rx_and2.mp k3
      have h2 := rx_beq.mp h2
      subst h2
      have h1 := rx_beq.mp h1
      obtain ⟨x, d, t, e, e2⟩ := rxe_t_ok h3
      subst e
      subst e2
      cases c with
      | eq => exact rxe_T (g := fun a => Instr.ifCond .eq a) hf hd h1 f153
      | ne => exact rxe_T (g := fun a => Instr.ifCond .ne a) hf hd h1 f154
      | lt => exact rxe_T (g := fun a => Instr.ifCond .lt a) hf hd h1 f155
      | ge => exact rxe_T (g := fun a => Instr.ifCond .ge a) hf hd h1 f156
      | gt => exact rxe_T (g := fun a => Instr.ifCond .gt a) hf hd h1 f157
      | le => exact rxe_T (g := fun a => Instr.ifCond .le a) hf hd h1 f158
    | if_icmp c i =>
      obtain ⟨h1, k3⟩ := rx_and2.mp h
      obtain ⟨h2, h3⟩ := rx_and2.mp k3
      have h2 := rx_beq.mp h2
      subst h2
      have h1 := rx_beq.mp h1
      obtain ⟨x, d, t, e, e2⟩ := rxe_t_ok h3
      subst e
      subst e2
      cases c with
      | eq => exact rxe_T (g := fun a => Instr.if_icmp .eq a) hf hd h1 f159
      | ne => exact rxe_T (g := fun a => Instr.if_icmp .ne a) hf hd h1 f160
      | lt => exact rxe_T (g := fun a => Instr.if_icmp .lt a) hf hd h1 f161
      | ge => exact rxe_T (g := fun a => Instr.if_icmp .ge a) hf hd h1 f162
      | gt => exact rxe_T (g := fun a => Instr.if_icmp .gt a) hf hd h1 f163
      | le => exact rxe_T (g := fun a => Instr.if_icmp .le a) hf hd h1 f164
    | iinc i d =>
      obtain ⟨h1, k3⟩ := rx_and2.mp h
      obtain ⟨h2, h3⟩ := rx_and2.mp k3
      have h2 := rx_beq.mp h2
      subst h2
      have h1 := rx_beq.mp h1
      obtain ⟨h5, h4⟩ := rx_and2.mp h3
      obtain ⟨c, t, e, e2⟩ := rxe_1_ok h5
      subst e
      obtain ⟨x, t2, e4, e3⟩ := rxe_s_ok h4
      have e4 : t = x :: t2 := e4
      subst e4
      subst e2
      subst e3
      exact rxe_I (g := fun a b => Instr.iinc a b) hf hd h1 f132
    | _ => exact Bool.noConfusion (show false = true from h)
noncomputable def rx_cd1 (bytes : ByteArray) (pc len : Nat) (ins : Instr) : Bool := (rxe_k bytes pc len ins || decide (decode bytes pc = .ok (ins, len))) && (match ins with
  | .tableswitch _ _ _ _ => true
  | i => Nat.beq len (rx_ln i))
theorem rx_cd1_ok {bytes : ByteArray} {pc len : Nat} {ins : Instr} (h : rx_cd1 bytes pc len ins = true) : rx_dec bytes pc ins := by
  obtain ⟨h1, h2⟩ := rx_and2.mp h
  have h1 : decode bytes pc = .ok (ins, len) := ((Bool.or_eq_true _ _).mp h1).elim rxe_k_ok of_decide_eq_true
  cases ins with
  | tableswitch d lo hi offs => exact ⟨len, h1⟩
  | _ => have h2 := rx_beq.mp h2; rw [h2] at h1; exact h1
theorem rx_cw_wd {X : rx_XT} {P : List rx_M} {K : rx_K} (hCL : ∀ na, na < 12 → rx_CL K na) {own mn : String} {pc na nb : Nat} {w : Nat × Nat} {ins : Instr} (h : rx_cw X P own mn pc na nb w ins = true) : rx_wd K own mn pc na nb ins := by
  cases ins with
  | iinc i n => exact (show Int32.ofInt n = Int32.ofNat na from of_decide_eq_true h)
  | iconst n => exact (show Int32.ofInt n = Int32.ofNat na from of_decide_eq_true h)
  | bipush n => exact (show (Int8.ofInt n).toInt32 = Int32.ofNat na from of_decide_eq_true h)
  | sipush n => exact (show (Int16.ofInt n).toInt32 = Int32.ofNat na from of_decide_eq_true h)
  | lconst n => exact (show Int64.ofNat n.val = Int64.ofNat na from of_decide_eq_true h)
  | ldc_w i => exact rx_has_ok h
  | ldc i =>
    replace h : (bif Nat.beq (rx_tk na) 0 then rx_has w (.constant own i (Int32.ofNat (rx_pl na))) else rx_isW na && (decide (own = "TurnNet$Reader") && decide (i = rx_sidx.getD (Nat.sub (rx_pl na) 1000) 0))) = true := h
    cases hb : Nat.beq (rx_tk na) 0 with
    | true =>
      rw [hb, cond_true] at h
      have h0 : na % 4 = 0 := rx_beq.mp hb
      exact Or.inl ⟨na / 4, by omega, rx_has_ok h⟩
    | false =>
      rw [hb, cond_false] at h
      obtain ⟨d1, h⟩ := rx_and2.mp h
      obtain ⟨d2, d3⟩ := rx_and2.mp h
      obtain ⟨e1, d1⟩ := rx_and2.mp d1
      obtain ⟨e2, e3⟩ := rx_and2.mp d1
      have e1 : na % 4 = 2 := rx_beq.mp e1
      have e2 : 1000 ≤ na / 4 := rx_ble.mp e2
      have e3 : na / 4 < 1008 := rx_blt.mp e3
      exact Or.inr ⟨na / 4 - 1000, by omega, by omega, of_decide_eq_true d2, of_decide_eq_true d3⟩
  | ldc2_w i => exact rx_has_ok h
  | goto off => exact (show (pc : Int) + off = (na : Int) from of_decide_eq_true h)
  | ifCond k off => exact (show (pc : Int) + off = (na : Int) from of_decide_eq_true h)
  | if_icmp k off => exact (show (pc : Int) + off = (na : Int) from of_decide_eq_true h)
  | tableswitch d lo hi offs => exact (show (pc : Int) + d = (na : Int) from of_decide_eq_true h)
  | getfield i =>
    replace h : (match rx_nth vwCl na with
      | some q => Nat.blt na 12 && (Nat.blt nb q.2.2 && rx_has w (.fieldLink own i (q.2.1 nb).1 (q.2.1 nb).2.1 (q.2.1 nb).2.2.1))
      | none => false) = true := h
    rw [rx_nth_eq] at h
    cases e : vwCl[na]? with
    | none => rw [e] at h; cases h
    | some q =>
      rw [e] at h
      obtain ⟨d1, h⟩ := rx_and2.mp h
      obtain ⟨d2, d3⟩ := rx_and2.mp h
      obtain ⟨C, T, Nf, ty0, fs, l, q1, q2, q3, q4, q5, q6, q7, q8, q9, q10, q11⟩ := hCL na (rx_blt.mp d1)
      cases e.symm.trans q1
      exact ⟨C, T, Nf, e, rx_blt.mp d1, rx_blt.mp d2, rx_has_ok d3, q4⟩
  | putfield i =>
    replace h : (match rx_nth vwCl na with
      | some q => Nat.blt na 12 && (Nat.blt nb q.2.2 && (rx_has w (.fieldLink own i (q.2.1 nb).1 (q.2.1 nb).2.1 (q.2.1 nb).2.2.1) && (decide ((q.2.1 nb).2.2.2 = false) || (decide ((q.2.1 nb).2.2.2 = true) && (decide (mn = "<init>") && decide ((q.2.1 nb).1 = own))))))
      | none => false) = true := h
    rw [rx_nth_eq] at h
    cases e : vwCl[na]? with
    | none => rw [e] at h; cases h
    | some q =>
      rw [e] at h
      obtain ⟨d1, h⟩ := rx_and2.mp h
      obtain ⟨d2, h⟩ := rx_and2.mp h
      obtain ⟨d3, d4⟩ := rx_and2.mp h
      obtain ⟨C, T, Nf, ty0, fs, l, q1, q2, q3, q4, q5, q6, q7, q8, q9, q10, q11⟩ := hCL na (rx_blt.mp d1)
      cases e.symm.trans q1
      refine ⟨C, T, Nf, ty0, e, rx_blt.mp d1, rx_blt.mp d2, rx_has_ok d3, q4, q2, q3, ?_, fun ks k hks hk => q5 nb ks k (rx_blt.mp d2) hks hk⟩
      rcases rx_or2.mp d4 with d | d
      · exact Or.inl (of_decide_eq_true d)
      · obtain ⟨e1, d⟩ := rx_and2.mp d
        obtain ⟨e2, e3⟩ := rx_and2.mp d
        exact Or.inr ⟨of_decide_eq_true e1, of_decide_eq_true e2, of_decide_eq_true e3⟩
  | newarray t => exact rx_has_ok h
  | anewarray i => exact rx_has_ok h
  | new i =>
    replace h : (match rx_nth vwCl na with
      | some q => Nat.blt na 12 && rx_has w (.classLink own i q.1)
      | none => false) = true := h
    rw [rx_nth_eq] at h
    cases e : vwCl[na]? with
    | none => rw [e] at h; cases h
    | some q =>
      rw [e] at h
      obtain ⟨d1, d2⟩ := rx_and2.mp h
      obtain ⟨C, T, Nf, ty0, fs, l, q1, q2, q3, q4, q5, q6, q7, q8, q9, q10, q11⟩ := hCL na (rx_blt.mp d1)
      cases e.symm.trans q1
      exact ⟨C, T, Nf, ty0, fs, l, e, rx_blt.mp d1, q6, q7, q8, q9, q2, q4, rx_has_ok d2, q10, q11⟩
  | _ => trivial
theorem rx_cw_site {X : rx_XT} {P : List rx_M} {own mn : String} {pc na nb : Nat} {w : Nat × Nat} {ins : Instr} (h : rx_cw X P own mn pc na nb w ins = true) : rx_site P own na nb ins := by
  cases ins with
  | invokevirtual i =>
    replace h : (bif Nat.beq nb 13 then rx_has w (.methodLink own i yJ0_length_8abf5) else bif Nat.beq nb 17 then rx_has w (.methodLink own i yJ0_charAt_5068e) else (match rx_nth P na with
      | some q => decide (nb ≠ 1) && (decide (nb ≠ 2 ∧ nb % 4 ≠ 1) && (rx_has w (.methodLink own i (rx_y q)) && (rx_has (rx_wI q) (.instanceMethod (rx_y q)) && (rx_has (rx_wS q) (.selects (rx_y q).cls (rx_y q) (rx_y q)) && (Nat.blt (nb / 4) 12 && (match rx_nth vwCl (nb / 4) with
        | some z => decide (z.1 = (rx_y q).cls)
        | none => false))))))
      | none => false)) = true := h
    cases hb13 : Nat.beq nb 13 with
    | true =>
      rw [hb13, cond_true] at h
      exact Or.inl ⟨rx_beq.mp hb13, rx_has_ok h⟩
    | false =>
      rw [hb13, cond_false] at h
      cases hb17 : Nat.beq nb 17 with
      | true =>
        rw [hb17, cond_true] at h
        exact Or.inr (Or.inl ⟨rx_beq.mp hb17, rx_has_ok h⟩)
      | false =>
        rw [hb17, cond_false] at h
        cases e : rx_nth P na with
        | none => rw [e] at h; cases h
        | some q =>
          rw [e] at h
          obtain ⟨d1, h⟩ := rx_and2.mp h
          obtain ⟨d2, h⟩ := rx_and2.mp h
          obtain ⟨d3, h⟩ := rx_and2.mp h
          obtain ⟨d4, h⟩ := rx_and2.mp h
          obtain ⟨d5, h⟩ := rx_and2.mp h
          obtain ⟨d6, h⟩ := rx_and2.mp h
          rw [rx_nth_eq] at h
          cases e2 : vwCl[nb / 4]? with
          | none => rw [e2] at h; cases h
          | some z =>
            rw [e2] at h
            obtain ⟨z1, z2, z3⟩ := z
            have hz : z1 = (rx_y q).cls := of_decide_eq_true h
            subst hz
            exact Or.inr (Or.inr ⟨of_decide_eq_true d1, (of_decide_eq_true d2).1, (of_decide_eq_true d2).2, q, e, rx_has_ok d3, rx_has_ok d4, rx_has_ok d5, ⟨z2, z3, e2⟩, rx_blt.mp d6⟩)
  | invokespecial i =>
    replace h : (bif Nat.beq nb 1 then rx_has w (.methodLink own i objectInit) && (rx_has X.1 (.instanceMethod objectInit) && rx_has X.2.1 (.code objectInit ⟨#[0xb1]⟩ 1 none)) else (match rx_nth P na with
      | some q => decide (nb ≠ 1) && (decide (nb ≠ 2 ∧ nb % 4 ≠ 1) && (decide ((rx_y q).name = "<init>") && (decide (rx_rt q = none) && (rx_has (rx_wI q) (.instanceMethod (rx_y q)) && (rx_has w (.methodLink own i (rx_y q)) || rx_hasN w own i (rx_y q) "TurnNet")))))
      | none => false)) = true := h
    cases hb : Nat.beq nb 1 with
    | true =>
      rw [hb, cond_true] at h
      obtain ⟨d1, h⟩ := rx_and2.mp h
      obtain ⟨d2, d3⟩ := rx_and2.mp h
      exact Or.inl ⟨rx_beq.mp hb, rx_has_ok d1, rx_has_ok d2, rx_has_ok d3⟩
    | false =>
      rw [hb, cond_false] at h
      cases e : rx_nth P na with
      | none => rw [e] at h; cases h
      | some q =>
        rw [e] at h
        obtain ⟨d1, h⟩ := rx_and2.mp h
        obtain ⟨d2, h⟩ := rx_and2.mp h
        obtain ⟨d3, h⟩ := rx_and2.mp h
        obtain ⟨d4, h⟩ := rx_and2.mp h
        obtain ⟨d5, h⟩ := rx_and2.mp h
        refine Or.inr ⟨of_decide_eq_true d1, (of_decide_eq_true d2).1, (of_decide_eq_true d2).2, q, e, of_decide_eq_true d3, of_decide_eq_true d4, rx_has_ok d5, ?_⟩
        rcases rx_or2.mp h with h | h
        · exact Or.inl (rx_has_ok h)
        · exact Or.inr ⟨_, rx_hasN_ok h⟩
  | invokestatic i =>
    replace h : (bif Nat.beq nb 2 then rx_has w (.methodLink own i arraycopyName) && (rx_has X.2.2.1 (.native arraycopyName) && (rx_has X.2.2.2.1 (.static arraycopyName) && rx_has X.2.2.2.2.1 (.initialized "java/lang/System"))) else bif Nat.beq nb 5 then rx_has w (.methodLink own i Lib.Math.max.name) && (rx_has X.2.2.2.2.2.2.1 (.static Lib.Math.max.name) && (rx_has X.2.2.2.2.2.1 (.initialized "java/lang/Math") && rx_has X.2.2.2.2.2.2.2.1 (.code Lib.Math.max.name Lib.Math.max.code 2 (some .int)))) else bif Nat.beq nb 9 then rx_has w (.methodLink own i Lib.Math.min.name) && (rx_has X.2.2.2.2.2.2.2.2.1 (.static Lib.Math.min.name) && (rx_has X.2.2.2.2.2.1 (.initialized "java/lang/Math") && rx_has X.2.2.2.2.2.2.2.2.2 (.code Lib.Math.min.name Lib.Math.min.code 2 (some .int)))) else (match rx_nth P na with
      | some q => decide (nb ≠ 1) && (decide (nb ≠ 2 ∧ nb % 4 ≠ 1) && (rx_has w (.methodLink own i (rx_y q)) && rx_has (rx_wI q) (.static (rx_y q))))
      | none => false)) = true := h
    cases hb : Nat.beq nb 2 with
    | true =>
      rw [hb, cond_true] at h
      obtain ⟨d1, h⟩ := rx_and2.mp h
      obtain ⟨d2, h⟩ := rx_and2.mp h
      obtain ⟨d3, d4⟩ := rx_and2.mp h
      exact Or.inl ⟨rx_beq.mp hb, rx_has_ok d1, rx_has_ok d2, rx_has_ok d3, rx_has_ok d4⟩
    | false =>
      rw [hb, cond_false] at h
      cases hb5 : Nat.beq nb 5 with
      | true =>
        rw [hb5, cond_true] at h
        obtain ⟨d1, h⟩ := rx_and2.mp h
        obtain ⟨d2, h⟩ := rx_and2.mp h
        obtain ⟨d3, d4⟩ := rx_and2.mp h
        exact Or.inr (Or.inr (Or.inl ⟨rx_beq.mp hb5, rx_has_ok d1, rx_has_ok d2, rx_has_ok d3, rx_has_ok d4⟩))
      | false =>
        rw [hb5, cond_false] at h
        cases hb9 : Nat.beq nb 9 with
        | true =>
          rw [hb9, cond_true] at h
          obtain ⟨d1, h⟩ := rx_and2.mp h
          obtain ⟨d2, h⟩ := rx_and2.mp h
          obtain ⟨d3, d4⟩ := rx_and2.mp h
          exact Or.inr (Or.inr (Or.inr ⟨rx_beq.mp hb9, rx_has_ok d1, rx_has_ok d2, rx_has_ok d3, rx_has_ok d4⟩))
        | false =>
          rw [hb9, cond_false] at h
          cases e : rx_nth P na with
          | none => rw [e] at h; cases h
          | some q =>
            rw [e] at h
            obtain ⟨d1, h⟩ := rx_and2.mp h
            obtain ⟨d2, h⟩ := rx_and2.mp h
            obtain ⟨d3, d4⟩ := rx_and2.mp h
            exact Or.inr (Or.inl ⟨of_decide_eq_true d1, (of_decide_eq_true d2).1, (of_decide_eq_true d2).2, q, e, rx_has_ok d3, rx_has_ok d4⟩)
  | _ => trivial
/-- a method's code, by program (but for what its steps do: that is by rfl) -/
noncomputable def rx_cm (X : rx_XT) (P : List rx_M) (r : rx_M) : Bool := (rx_cd r).all (fun ch => ch.all (fun x => rx_cd1 (rx_b r) x.1 x.2.2.2.2.1 x.2.2.2.1 && (Nat.beq x.2.1 (rx_kd x.2.2.2.1) && rx_cw X P (rx_y r).cls (rx_y r).name x.1 x.2.2.2.2.2.1 x.2.2.2.2.2.2.1 (x.2.2.2.2.2.2.2.1, x.2.2.2.2.2.2.2.2) x.2.2.2.1)))
theorem rx_cm_ok {X : rx_XT} {P : List rx_M} {K : rx_K} {r : rx_M} (hCL : ∀ na, na < 12 → rx_CL K na) (h : rx_cm X P r = true) (hh : ∀ ch ∈ rx_cd r, ∀ x ∈ ch, x.2.1 = 0 → x.2.2.1 = rx_sem x.2.2.2.1) : rx_ST P K r := by
  intro ch hch x hx
  have h1 := List.all_eq_true.mp (List.all_eq_true.mp h ch hch) x hx
  obtain ⟨d1, h1⟩ := rx_and2.mp h1
  obtain ⟨d2, d3⟩ := rx_and2.mp h1
  exact ⟨rx_cd1_ok d1, rx_beq.mp d2, hh ch hch x hx, rx_cw_wd hCL d3, rx_cw_site d3⟩
/-- a method that is called, by program -/
noncomputable def rx_cq (q : rx_M) : Bool := plainName (rx_y q).cls && (rx_has (rx_wC q) (.code (rx_y q) (rx_b q) (rx_mL (rx_n q)) (rx_rt q)) && (rx_has (rx_wN q) (.initialized (rx_y q).cls) && (decide ((rx_y q).cls ≠ "java/lang/invoke/MethodHandle") && (decide ((rx_y q).cls ≠ "java/lang/invoke/VarHandle") && (decide ((parseMethodDescriptor (rx_y q).desc).map (fun d => d.parameters.length) = some (rx_np (rx_n q))) && (Nat.beq (rx_sl (rx_n q)) 0 &&
  ((Nat.beq (rx_rk (rx_n q)) 0 && decide (rx_rt q = none)) || ((Nat.beq (rx_rk (rx_n q)) 1 && decide (rx_rt q = some .int)) || ((Nat.beq (rx_rk (rx_n q)) 2 && decide (rx_rt q = some .boolean)) || ((Nat.beq (rx_rk (rx_n q)) 3 && decide (rx_rt q = some .long)) || (Nat.beq (rx_rk (rx_n q)) 4 && decide (rx_rt q = some (.object "TurnNet$State")))))))))))))
theorem rx_cq_ok {q : rx_M} (h : rx_cq q = true) : rx_QW q := by
  obtain ⟨d1, h⟩ := rx_and2.mp h
  obtain ⟨d2, h⟩ := rx_and2.mp h
  obtain ⟨d3, h⟩ := rx_and2.mp h
  obtain ⟨d4, h⟩ := rx_and2.mp h
  obtain ⟨d5, h⟩ := rx_and2.mp h
  obtain ⟨d6, h⟩ := rx_and2.mp h
  obtain ⟨d7, h⟩ := rx_and2.mp h
  refine ⟨d1, rx_has_ok d2, rx_has_ok d3, of_decide_eq_true d4, of_decide_eq_true d5, of_decide_eq_true d6, rx_beq.mp d7, ?_⟩
  rcases rx_or2.mp h with h | h
  · obtain ⟨a, b⟩ := rx_and2.mp h
    exact Or.inl ⟨rx_beq.mp a, of_decide_eq_true b⟩
  rcases rx_or2.mp h with h | h
  · obtain ⟨a, b⟩ := rx_and2.mp h
    exact Or.inr (Or.inl ⟨rx_beq.mp a, of_decide_eq_true b⟩)
  rcases rx_or2.mp h with h | h
  · obtain ⟨a, b⟩ := rx_and2.mp h
    exact Or.inr (Or.inr (Or.inl ⟨rx_beq.mp a, of_decide_eq_true b⟩))
  rcases rx_or2.mp h with h | h
  · obtain ⟨a, b⟩ := rx_and2.mp h
    exact Or.inr (Or.inr (Or.inr (Or.inl ⟨rx_beq.mp a, of_decide_eq_true b⟩)))
  · obtain ⟨a, b⟩ := rx_and2.mp h
    exact Or.inr (Or.inr (Or.inr (Or.inr ⟨rx_beq.mp a, _, of_decide_eq_true b⟩)))
noncomputable def rx_cr (q : rx_M) : Bool := plainName (rx_y q).cls && (rx_has (rx_wN q) (.initialized (rx_y q).cls) && (decide ((rx_y q).cls ≠ "java/lang/invoke/MethodHandle") && (decide ((rx_y q).cls ≠ "java/lang/invoke/VarHandle") && (decide ((parseMethodDescriptor (rx_y q).desc).map (fun d => d.parameters.length) = some (rx_np (rx_n q))) && (Nat.beq (rx_sl (rx_n q)) 0 &&
  ((Nat.beq (rx_rk (rx_n q)) 0 && decide (rx_rt q = none)) || ((Nat.beq (rx_rk (rx_n q)) 1 && decide (rx_rt q = some .int)) || ((Nat.beq (rx_rk (rx_n q)) 2 && decide (rx_rt q = some .boolean)) || ((Nat.beq (rx_rk (rx_n q)) 3 && decide (rx_rt q = some .long)) || (Nat.beq (rx_rk (rx_n q)) 4 && decide (rx_rt q = some (.object "TurnNet$State"))))))))))))
theorem rx_cr_ok {q : rx_M} {a b : Nat} (hc : rx_nth (rx_tb a) b = some (.code (rx_y q) (rx_b q) (rx_mL (rx_n q)) (rx_rt q))) (hg : goodWord (.code (rx_y q) (rx_b q) (rx_mL (rx_n q)) (rx_rt q)) = true) (h : rx_cr q = true) : rx_QW q := by
  rw [rx_nth_eq] at hc
  obtain ⟨d1, h⟩ := rx_and2.mp h
  obtain ⟨d3, h⟩ := rx_and2.mp h
  obtain ⟨d4, h⟩ := rx_and2.mp h
  obtain ⟨d5, h⟩ := rx_and2.mp h
  obtain ⟨d6, h⟩ := rx_and2.mp h
  obtain ⟨d7, h⟩ := rx_and2.mp h
  refine ⟨d1, lw_G_of (rx_tb_in (List.mem_of_getElem? hc)) hg, rx_has_ok d3, of_decide_eq_true d4, of_decide_eq_true d5, of_decide_eq_true d6, rx_beq.mp d7, ?_⟩
  rcases rx_or2.mp h with h | h
  · obtain ⟨a, b⟩ := rx_and2.mp h
    exact Or.inl ⟨rx_beq.mp a, of_decide_eq_true b⟩
  rcases rx_or2.mp h with h | h
  · obtain ⟨a, b⟩ := rx_and2.mp h
    exact Or.inr (Or.inl ⟨rx_beq.mp a, of_decide_eq_true b⟩)
  rcases rx_or2.mp h with h | h
  · obtain ⟨a, b⟩ := rx_and2.mp h
    exact Or.inr (Or.inr (Or.inl ⟨rx_beq.mp a, of_decide_eq_true b⟩))
  rcases rx_or2.mp h with h | h
  · obtain ⟨a, b⟩ := rx_and2.mp h
    exact Or.inr (Or.inr (Or.inr (Or.inl ⟨rx_beq.mp a, of_decide_eq_true b⟩)))
  · obtain ⟨a, b⟩ := rx_and2.mp h
    exact Or.inr (Or.inr (Or.inr (Or.inr ⟨rx_beq.mp a, _, of_decide_eq_true b⟩)))
