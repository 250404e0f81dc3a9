theorem rx_shr_ok : ∀ i j n, rx_f_shr i j = some n → Int32.ofNat i >>> (Int32.ofNat j &&& 31) = Int32.ofNat n := by
  intro i j n h
  cases h
  exact (rx_i32_of _).symm
theorem rx_or_ok : ∀ i j n, rx_f_or i j = some n → Int32.ofNat i ||| Int32.ofNat j = Int32.ofNat n := by
  intro i j n h
  cases h
  show _ = Int32.ofNat ((i ||| j) % 4294967296)
  rw [rx_ofN_mod]
  apply Int32.toBitVec_inj.mp
  simp [Int32.toBitVec_or]
theorem rx_xor_ok : ∀ i j n, rx_f_xor i j = some n → Int32.ofNat i ^^^ Int32.ofNat j = Int32.ofNat n := by
  intro i j n h
  cases h
  show _ = Int32.ofNat ((i ^^^ j) % 4294967296)
  rw [rx_ofN_mod]
  apply Int32.toBitVec_inj.mp
  simp [Int32.toBitVec_xor]
theorem rx_ne0 {j : Nat} (h : Nat.beq (Nat.mod j 4294967296) 0 = false) : ¬ Int32.ofNat j = 0 := by
  intro z
  have h1 := congrArg rx_bias z
  rw [rx_bias_ofNat, show (0 : Int32) = Int32.ofNat 0 from rfl, rx_bias_ofNat] at h1
  unfold rx_bi at h1
  replace h1 : (j + 2147483648) % 4294967296 = (0 + 2147483648) % 4294967296 := h1
  have h2 : j % 4294967296 = 0 := by omega
  have h3 : Nat.mod j 4294967296 = 0 := h2
  rw [h3] at h
  cases h
theorem rx_div_ok : ∀ i j n, rx_f_div i j = some n → (¬ Int32.ofNat j = 0) ∧ Int32.ofNat i / Int32.ofNat j = Int32.ofNat n := by
  intro i j n h
  obtain ⟨h0, h⟩ := rx_condF h
  cases h
  exact ⟨rx_ne0 h0, (rx_i32_of _).symm⟩
theorem rx_rem_ok : ∀ i j n, rx_f_rem i j = some n → (¬ Int32.ofNat j = 0) ∧ Int32.ofNat i - Int32.ofNat i / Int32.ofNat j * Int32.ofNat j = Int32.ofNat n := by
  intro i j n h
  obtain ⟨h0, h⟩ := rx_condF h
  cases h
  exact ⟨rx_ne0 h0, (rx_i32_of _).symm⟩
noncomputable def rx_ln (ins : Instr) : Nat := match ins with
  | .iload _ => 2 | .lload _ => 2 | .ldc _ => 2 | .istore _ => 2 | .lstore _ => 2 | .bipush _ => 2 | .newarray _ => 2
  | .iinc _ _ => 3 | .sipush _ => 3 | .ldc_w _ => 3 | .ldc2_w _ => 3 | .goto _ => 3 | .ifCond _ _ => 3 | .if_icmp _ _ => 3 | .getfield _ => 3 | .putfield _ => 3 | .anewarray _ => 3 | .new _ => 3 | .invokevirtual _ => 3 | .invokespecial _ => 3 | .invokestatic _ => 3
  | _ => 1
/-- what must hold of an instruction's notes -/
noncomputable def rx_wd (K : rx_K) (own mn : String) (pc na nb : Nat) (ins : Instr) : Prop := match ins with
  | .iinc _ n => Int32.ofInt n = Int32.ofNat na
  | .iconst n => Int32.ofInt n = Int32.ofNat na
  | .bipush n => (Int8.ofInt n).toInt32 = Int32.ofNat na
  | .sipush n => (Int16.ofInt n).toInt32 = Int32.ofNat na
  | .lconst n => Int64.ofNat n.val = Int64.ofNat na
  | .ldc_w i => Jvm.Cond.constant own i (Int32.ofNat na) ∈ lw_G
  | .ldc i => (∃ n, na = 4 * n ∧ Jvm.Cond.constant own i (Int32.ofNat n) ∈ lw_G) ∨ ∃ k, k < 8 ∧ na = 4 * (1000 + k) + 2 ∧ own = "TurnNet$Reader" ∧ i = rx_sidx.getD k 0
  | .ldc2_w i => Jvm.Cond.constantLong own i (Int64.ofNat na) ∈ lw_G
  | .goto off => (pc : Int) + off = (na : Int)
  | .ifCond _ off => (pc : Int) + off = (na : Int)
  | .if_icmp _ off => (pc : Int) + off = (na : Int)
  | .tableswitch d _ _ _ => (pc : Int) + d = (na : Int)
  | .getfield i => rx_SF own i na nb
  | .putfield i => rx_SP K own mn i na nb
  | .newarray t => Jvm.Cond.arrayClass (newarray.typeOf t) ∈ lw_G
  | .anewarray i => Jvm.Cond.classLink own i "TurnNet$State" ∈ lw_G
  | .new i => rx_SN K own i na
  | _ => True
noncomputable def rx_dec (bytes : ByteArray) (pc : Nat) (ins : Instr) : Prop := match ins with
  | .tableswitch d lo hi offs => ∃ len, decode bytes pc = .ok (.tableswitch d lo hi offs, len)
  | i => decode bytes pc = .ok (i, rx_ln i)
noncomputable def lw_nest : List Jvm.Cond := lw_tbl.filter (fun w => match w with | .methodLinkNest _ _ _ _ => true | _ => false)
/-- what a method's run stands on -/
noncomputable def rx_Cx (cy : Nat → ClassId) (D : va_G) (r : rx_M) (p : Program) (R : Room) (s : State) (m : MethodId) (args : Array Value) (meth : Method) (c : Code) : Prop :=
  p.tables.exec = Jvm.exec ∧ c.code = rx_b r ∧ meth.sig.returnType = rx_rt r ∧ c.maxLocals = rx_mL (rx_n r) ∧ s.vm.findClass (rx_y r).cls = some m.cls ∧ (∀ w ∈ lw_G, w.before args s = true) ∧ meth.locks = false ∧ ((rx_y r).name = "<init>" → meth.name = "<init>") ∧ va_K D vwCl (rx_tys cy) s ∧ (∀ w ∈ lw_nest, va_Nw w s) ∧ va_AO "TurnNet$State" s ∧
  rx_rf (rx_n r) ≤ R.frames ∧ rx_rl (rx_n r) ≤ R.locals ∧ rx_rc (rx_n r) ≤ R.cells ∧ rx_rs (rx_n r) ≤ R.slots
section RXS7
variable {p : Program} {l : Launch} {e : Env} {R : Room} {s : State} {m : MethodId} {args : Array Value} {below : List Frame} {meth : Method} {c : Code} {Q : State → Prop}
variable {cy : Nat → ClassId} {D : va_G} {b : Nat → Nat} {A : Nat → Prop} {H0 : Heap} {ad0 : List Nat} {en0 : List Int32} {nL : Nat}
variable {K : rx_K} {pc na nb cn sn : Nat} {lv : rx_L} {st : List Nat} {hp : rx_H} {iv : rx_I} {out : List rx_S} {r : rx_M}
theorem rx_s_ldc {i : Nat} (hx : p.tables.exec = Jvm.exec) (hb : c.code = rx_b r) (hown : s.vm.findClass (rx_y r).cls = some m.cls) (hts : ∀ w ∈ lw_G, w.before args s = true) (hZ : rx_Zt b A s) (hd : decode (rx_b r) pc = .ok (.ldc i, 2))
    (hw : (∃ n, na = 4 * n ∧ Jvm.Cond.constant (rx_y r).cls i (Int32.ofNat n) ∈ lw_G) ∨ ∃ k, k < 8 ∧ na = 4 * (1000 + k) + 2 ∧ (rx_y r).cls = "TurnNet$Reader" ∧ i = rx_sidx.getD k 0)
    (h : rx_h_ldc K (rx_n r) pc na nb lv st hp iv cn sn = some out) (hG : ∀ σ ∈ out, rx_G p l e R s m args below meth c Q cy D b A H0 ad0 en0 nL σ) : rx_G p l e R s m args below meth c Q cy D b A H0 ad0 en0 nL (pc, lv, st, hp, iv, cn, sn) := by
  intro ad en ls stA H locs ws hR
  obtain ⟨h1, h2, h3, h4, h5, h6, h7, h8, h9⟩ := hR
  obtain ⟨-, h⟩ := rx_cond h
  cases h
  rcases hw with ⟨n, hn, hw⟩ | ⟨k, hk, hn, ho, hi⟩
  · subst hn
    exact lv_ldc hx hb hown (hts _ hw) hd (hG _ List.mem_cons_self ad en ls (.int (Int32.ofNat n) :: stA) H locs ws ⟨h1, h2, h3, h4, h5, h6, h7, rx_st_push (rx_int_cv b ad en n) h8, h9⟩)
  · have hcv : rx_cv b ad en na = some (.ref (b (k + 1))) := by
      rw [rx_cvS (by omega) (by omega), show na / 4 - 999 = k + 1 by omega]
    subst hi
    rw [ho] at hown
    exact va_ldcS hx hb hown (hZ.2.1 k hk) hd (hG _ List.mem_cons_self ad en ls (.ref (b (k + 1)) :: stA) H locs ws ⟨h1, h2, h3, h4, h5, h6, h7, rx_st_push hcv h8, h9⟩)
set_option maxHeartbeats 1000000 in
theorem rx_s_sem {ins : Instr} (C : rx_Cx cy D r p R s m args meth c) (hN : nL = rx_mL (rx_n r)) (hSc : rx_Sc (rx_n r) b A H0 en0 s) (hA : ∀ q, H0.size ≤ q → A q) (hd : rx_dec (rx_b r) pc ins) (hw : rx_wd K (rx_y r).cls (rx_y r).name pc na nb ins)
    (h : rx_sem ins K (rx_n r) pc na nb lv st hp iv cn sn = some out) (hG : ∀ σ ∈ out, rx_G p l e R s m args below meth c Q cy D b A H0 ad0 en0 nL σ) : rx_G p l e R s m args below meth c Q cy D b A H0 ad0 en0 nL (pc, lv, st, hp, iv, cn, sn) := by
  obtain ⟨hx, hb, hr, hml, hown, hts, hlocks, hmn, hK, hNest, hAO, hR1, hR2, hR3, hR4⟩ := C
  cases ins with
  | aload_n k => exact rx_s_ld (K := K) (N := rx_n r) (na := na) (nb := nb) (T := fun x => ∃ a, x = .ref a) (fun ad en v x hk hx' => rx_isR_cv hk hx') rfl (fun hT hl kk => by obtain ⟨a, rfl⟩ := hT; exact lv_aload_n hx hb hd rfl hl kk) h hG
  | iload_n k => exact rx_s_ld (K := K) (N := rx_n r) (na := na) (nb := nb) (T := fun x => ∃ a, x = .int a) (fun ad en v x hk hx' => rx_isI_cv hk hx') rfl (fun hT hl kk => by obtain ⟨a, rfl⟩ := hT; exact lv_iload_n hx hb hd rfl hl kk) h hG
  | lload_n k => exact rx_s_ld (K := K) (N := rx_n r) (na := na) (nb := nb) (T := fun x => ∃ a, x = .long a) (fun ad en v x hk hx' => ⟨_, rx_isJ_cv hk hx'⟩) rfl (fun hT hl kk => by obtain ⟨a, rfl⟩ := hT; exact lv_lload_n hx hb hd rfl hl kk) h hG
  | iload i => exact rx_s_ld (K := K) (N := rx_n r) (na := na) (nb := nb) (T := fun x => ∃ a, x = .int a) (fun ad en v x hk hx' => rx_isI_cv hk hx') rfl (fun hT hl kk => by obtain ⟨a, rfl⟩ := hT; exact lv_iload hx hb hd hl kk) h hG
  | istore_n k => exact rx_s_sto (K := K) (N := rx_n r) (na := na) (nb := nb) hN (T := fun x => ∃ a, x = .int a) (fun ad en v x hk hx' => rx_isI_cv hk hx') (fun hT hi hl kk => by obtain ⟨a, rfl⟩ := hT; exact lv_istore_n hx hb hd rfl hl hi rfl kk) h hG
  | astore_n k => exact rx_s_sto (K := K) (N := rx_n r) (na := na) (nb := nb) hN (T := fun x => ∃ a, x = .ref a) (fun ad en v x hk hx' => rx_isR_cv hk hx') (fun hT hi hl kk => by obtain ⟨a, rfl⟩ := hT; exact lv_astore_n hx hb hd rfl hl hi rfl kk) h hG
  | istore i => exact rx_s_sto (K := K) (N := rx_n r) (na := na) (nb := nb) hN (T := fun x => ∃ a, x = .int a) (fun ad en v x hk hx' => rx_isI_cv hk hx') (fun hT hi hl kk => by obtain ⟨a, rfl⟩ := hT; exact lv_istore hx hb hd hl hi rfl kk) h hG
  | lstore_n k => exact rx_s_stJ (K := K) (N := rx_n r) (na := na) (nb := nb) hN (fun hi hl kk => lv_lstore_n hx hb hd rfl hl hi rfl kk) h hG
  | lstore i => exact rx_s_stJ (K := K) (N := rx_n r) (na := na) (nb := nb) hN (fun hi hl kk => lv_lstore hx hb hd hl hi rfl kk) h hG
  | iinc i n => exact rx_s_inc (K := K) (N := rx_n r) (na := na) (nb := nb) hN hw hx hb hd h hG
  | iconst n => exact rx_s_psh (K := K) (N := rx_n r) (na := na) (nb := nb) (fun kk => lv_iconst hx hb hd hw kk) h hG
  | bipush n => exact rx_s_psh (K := K) (N := rx_n r) (na := na) (nb := nb) (fun kk => lv_bipush hx hb hd hw kk) h hG
  | sipush n => exact rx_s_psh (K := K) (N := rx_n r) (na := na) (nb := nb) (fun kk => lv_sipush hx hb hd hw kk) h hG
  | lconst n => exact rx_s_pshJ (K := K) (N := rx_n r) (na := na) (nb := nb) (fun kk => lv_lconst hx hb hd hw kk) h hG
  | ldc_w i => exact rx_s_psh (K := K) (N := rx_n r) (na := na) (nb := nb) (fun kk => lv_ldcw hx hb hown (hts _ hw) hd kk) h hG
  | ldc2_w i => exact rx_s_pshJ (K := K) (N := rx_n r) (na := na) (nb := nb) (fun kk => lv_ldc2 hx hb hown (hts _ hw) hd kk) h hG
  | iadd => exact rx_s_ar (K := K) (N := rx_n r) (na := na) (nb := nb) (F := fun x y => x + y) (fun kk => lv_iadd hx hb hd kk) rx_add_ok (fun _ _ v x y _ => rx_g32_ok v _) h hG
  | isub => exact rx_s_ar (K := K) (N := rx_n r) (na := na) (nb := nb) (F := fun x y => x - y) (fun kk => lv_isub hx hb hd kk) rx_sub_ok (fun _ _ v x y _ => rx_g32_ok v _) h hG
  | imul => exact rx_s_ar (K := K) (N := rx_n r) (na := na) (nb := nb) (F := fun x y => x * y) (fun kk => lv_imul hx hb hd kk) rx_mul_ok (fun _ _ v x y _ => rx_g32_ok v _) h hG
  | iand => exact rx_s_ar (K := K) (N := rx_n r) (na := na) (nb := nb) (F := fun x y => x &&& y) (fun kk => lv_iand hx hb hd kk) rx_and_ok (fun ad en v x y hv => rx_gand_ok ad en v x y hv) h hG
  | ishl => exact rx_s_ar (K := K) (N := rx_n r) (na := na) (nb := nb) (F := fun x y => x <<< (y &&& 31)) (fun kk => lv_ishl hx hb hd kk) rx_shl_ok (fun _ _ v x y _ => rx_g32_ok v _) h hG
  | ishr => exact rx_s_ark (K := K) (N := rx_n r) (na := na) (nb := nb) (f := rx_f_shr) (F := fun x y => x >>> (y &&& 31)) (fun _ => True) (fun _ kk => lv_ishr hx hb hd kk) (fun i j n z => ⟨trivial, rx_shr_ok i j n z⟩) h hG
  | ior => exact rx_s_ark (K := K) (N := rx_n r) (na := na) (nb := nb) (F := fun x y => x ||| y) (fun _ => True) (fun _ kk => lv_ior hx hb hd kk) (fun i j n z => ⟨trivial, rx_or_ok i j n z⟩) h hG
  | ixor => exact rx_s_ark (K := K) (N := rx_n r) (na := na) (nb := nb) (F := fun x y => x ^^^ y) (fun _ => True) (fun _ kk => lv_ixor hx hb hd kk) (fun i j n z => ⟨trivial, rx_xor_ok i j n z⟩) h hG
  | idiv => exact rx_s_ark (K := K) (N := rx_n r) (na := na) (nb := nb) (F := fun x y => x / y) (fun y => ¬ y = 0) (fun hy kk => lv_idiv hx hb hd hy kk) (fun i j n z => rx_div_ok i j n z) h hG
  | irem => exact rx_s_ark (K := K) (N := rx_n r) (na := na) (nb := nb) (F := fun x y => x - x / y * y) (fun y => ¬ y = 0) (fun hy kk => lv_irem hx hb hd hy kk) (fun i j n z => rx_rem_ok i j n z) h hG
  | ineg => exact rx_s_un (K := K) (N := rx_n r) (na := na) (nb := nb) (F := fun x => -x) (fun kk => lv_ineg hx hb hd kk) (fun i => (rx_i32_of _).symm) h hG
  | ladd => exact rx_s_arJ (K := K) (N := rx_n r) (na := na) (nb := nb) (F := fun x y => x + y) (fun kk => lv_ladd hx hb hd kk) (fun i j => (rx_i64_of _).symm) h hG
  | lsub => exact rx_s_arJ (K := K) (N := rx_n r) (na := na) (nb := nb) (F := fun x y => x - y) (fun kk => lv_lsub hx hb hd kk) (fun i j => (rx_i64_of _).symm) h hG
  | lmul => exact rx_s_arJ (K := K) (N := rx_n r) (na := na) (nb := nb) (F := fun x y => x * y) (fun kk => lv_lmul hx hb hd kk) (fun i j => (rx_i64_of _).symm) h hG
  | land => exact rx_s_arJ (K := K) (N := rx_n r) (na := na) (nb := nb) (F := fun x y => x &&& y) (fun kk => lv_land hx hb hd kk) (fun i j => (rx_i64_of _).symm) h hG
  | lor => exact rx_s_arJ (K := K) (N := rx_n r) (na := na) (nb := nb) (F := fun x y => x ||| y) (fun kk => lv_lor hx hb hd kk) (fun i j => (rx_i64_of _).symm) h hG
  | lxor => exact rx_s_arJ (K := K) (N := rx_n r) (na := na) (nb := nb) (F := fun x y => x ^^^ y) (fun kk => lv_lxor hx hb hd kk) (fun i j => (rx_i64_of _).symm) h hG
  | lshl => exact rx_s_shJ (K := K) (N := rx_n r) (na := na) (nb := nb) (F := fun x y => x <<< (y.toInt64 &&& 63)) (fun kk => lv_lshl hx hb hd rfl kk) (fun i j => (rx_i64_of _).symm) h hG
  | lshr => exact rx_s_shJ (K := K) (N := rx_n r) (na := na) (nb := nb) (F := fun x y => x >>> (y.toInt64 &&& 63)) (fun kk => lv_lshr hx hb hd rfl kk) (fun i j => (rx_i64_of _).symm) h hG
  | lload i => exact rx_s_ld (K := K) (N := rx_n r) (na := na) (nb := nb) (T := fun x => ∃ a, x = .long a) (fun ad en v x hk hx' => ⟨_, rx_isJ_cv hk hx'⟩) rfl (fun hT hl kk => by obtain ⟨a, rfl⟩ := hT; exact lv_lload hx hb hd hl kk) h hG
  | laload => exact rx_s_lald (K := K) (N := rx_n r) (na := na) (nb := nb) hx hb hSc hK hd h hG
  | lastore => exact rx_s_last (K := K) (N := rx_n r) (na := na) (nb := nb) hx hb hK hd h hG
  | iushr => exact rx_s_ar (K := K) (N := rx_n r) (na := na) (nb := nb) (F := fun x y => (x.toUInt32 >>> (y.toUInt32 &&& Int32.toUInt32 31)).toInt32) (fun kk => lv_iushr hx hb hd rfl kk) rx_ushr_ok (fun _ _ v x y _ => rx_g32_ok v _) h hG
  | i2b => exact rx_s_un (K := K) (N := rx_n r) (na := na) (nb := nb) (F := fun x => x.toInt8.toInt32) (fun kk => lv_i2b hx hb hd rfl kk) (fun i => (rx_i32_of _).symm) h hG
  | lcmp => exact rx_s_lcmp (K := K) (N := rx_n r) (na := na) (nb := nb) hx hb hd h hG
  | dup => exact rx_s_dup (K := K) (N := rx_n r) (na := na) (nb := nb) hx hb hd h hG
  | pop => exact rx_s_pop (K := K) (N := rx_n r) (na := na) (nb := nb) hx hb hd h hG
  | pop2 => exact rx_s_pop2 (K := K) (N := rx_n r) (na := na) (nb := nb) hx hb hd h hG
  | ldc i => exact rx_s_ldc (K := K) (na := na) (nb := nb) hx hb hown hts hSc.2.2 hd hw h hG
  | dup2 => exact rx_s_dup2 (K := K) (N := rx_n r) (na := na) (nb := nb) hx hb hd h hG
  | goto off => exact rx_s_goto (K := K) (N := rx_n r) (na := na) (nb := nb) hx hb hd hw h hG
  | ifCond k off => exact rx_s_if (K := K) (N := rx_n r) (na := na) (nb := nb) hx hb hd hw h hG
  | if_icmp k off => exact rx_s_icmp (K := K) (N := rx_n r) (na := na) (nb := nb) hx hb hd hw h hG
  | tableswitch d lo hi offs => obtain ⟨len, hd⟩ := hd; exact rx_s_tsw (K := K) (N := rx_n r) (na := na) (nb := nb) hx hb hd hw h hG
  | getfield i => exact rx_s_gf (K := K) (N := rx_n r) (na := na) (nb := nb) hx hb hts hown hK hd hw h hG
  | putfield i => exact rx_s_pf (K := K) (N := rx_n r) (na := na) (nb := nb) hx hb hts hown hK hmn hd hw h hG
  | iaload => exact rx_s_iald (K := K) (N := rx_n r) (na := na) (nb := nb) hx hb hSc hK hd h hG
  | baload => exact rx_s_bald (K := K) (N := rx_n r) (na := na) (nb := nb) hx hb hSc hK hd h hG
  | aaload => exact rx_s_aald (K := K) (N := rx_n r) (na := na) (nb := nb) hx hb hSc hK hd h hG
  | iastore => exact rx_s_iast (K := K) (N := rx_n r) (na := na) (nb := nb) hx hb hK hd h hG
  | bastore => exact rx_s_bast (K := K) (N := rx_n r) (na := na) (nb := nb) hx hb hK hd h hG
  | aastore => exact rx_s_aast (K := K) (N := rx_n r) (na := na) (nb := nb) hx hb hK hd h hG
  | arraylength => exact rx_s_alen (K := K) (N := rx_n r) (na := na) (nb := nb) hx hb hd hSc hK h hG
  | newarray t => exact rx_s_newa (K := K) (N := rx_n r) (na := na) (nb := nb) hx hb hts hK hA ⟨hR3, hR4⟩ hd hw h hG
  | anewarray i => exact rx_s_anew (K := K) (N := rx_n r) (na := na) (nb := nb) hx hb hts hown hK hAO hA ⟨hR3, hR4⟩ hd hw h hG
  | new i => exact rx_s_new (K := K) (N := rx_n r) (na := na) (nb := nb) hx hb hts hown hK hA ⟨hR3, hR4⟩ hd hw h hG
  | _ => cases h
end RXS7
