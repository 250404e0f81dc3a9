noncomputable def rx_h_ld (ok : Nat → Bool) (i n : Nat) : rx_Hd := fun _ _ pc _ _ lv st hp iv c s => match rx_nth lv i with
  | some v => bif ok v then some [(Nat.add pc n, lv, v :: st, hp, iv, c, s)] else none
  | none => none
noncomputable def rx_h_sto (ok : Nat → Bool) (i n : Nat) : rx_Hd := fun _ r pc _ _ lv st hp iv c s => match st with
  | v :: st' => bif ok v && Nat.blt i (rx_mL r) then some [(Nat.add pc n, rx_put lv i v, st', hp, iv, c, s)] else none
  | [] => none
noncomputable def rx_h_stJ (i n : Nat) : rx_Hd := fun _ r pc _ _ lv st hp iv c s => match st with
  | v :: st' => bif rx_isJ v && Nat.blt (Nat.succ i) (rx_mL r) then some [(Nat.add pc n, rx_putJ lv i v, st', hp, iv, c, s)] else none
  | [] => none
noncomputable def rx_h_inc (i : Nat) : rx_Hd := fun _ r pc a _ lv st hp iv c s => match rx_nth lv i with
    | some v => bif Nat.beq (rx_tk v) 0 && Nat.blt i (rx_mL r) then some [(Nat.add pc 3, rx_put lv i (rx_int (Nat.mod (Nat.add (rx_pl v) a) 4294967296)), st, hp, iv, c, s)] else none
    | none => none
noncomputable def rx_h_psh (n : Nat) : rx_Hd := fun _ _ pc a _ lv st hp iv c s => some [(Nat.add pc n, lv, rx_int a :: st, hp, iv, c, s)]
noncomputable def rx_h_pshJ (n : Nat) : rx_Hd := fun _ _ pc a _ lv st hp iv c s => some [(Nat.add pc n, lv, rx_lng a :: st, hp, iv, c, s)]
/-- the words of the class, by their bytes -/
noncomputable def rx_sbyt : List (List Nat) := [[115, 119, 105, 116, 99, 104, 101, 115], [108, 105, 110, 107], [114, 111, 111, 116], [114, 111, 111, 109], [114, 97, 110, 107], [102, 97, 114], [110, 117, 109, 98, 101, 114], [108, 105, 110, 107, 115]]
noncomputable def rx_isW (v : Nat) : Bool := Nat.beq (rx_tk v) 2 && (Nat.ble 1000 (rx_pl v) && Nat.blt (rx_pl v) 1008)
noncomputable def rx_lok (v : Nat) : Bool := (Nat.beq (rx_tk v) 0 && Nat.blt (rx_pl v) 4294967296) || rx_isW v
noncomputable def rx_h_ldc : rx_Hd := fun _ _ pc a _ lv st hp iv c s => bif rx_lok a then some [(Nat.add pc 2, lv, a :: st, hp, iv, c, s)] else none
/-- arithmetic of two ints: f of known ones; g: the interval of what comes, if one is not known -/
noncomputable def rx_h_ar (f : Nat → Nat → Option Nat) (g : Nat → Nat × Nat) : rx_Hd := fun _ _ pc _ _ lv st hp iv c s => match st with
  | y0 :: x0 :: st' =>
    bif Nat.beq (rx_tk (rx_kn iv x0)) 0 && Nat.beq (rx_tk (rx_kn iv y0)) 0 then (match f (rx_pl (rx_kn iv x0)) (rx_pl (rx_kn iv y0)) with
      | some n => some [(Nat.add pc 1, lv, rx_int n :: st', hp, iv, c, s)]
      | none => none)
    else bif rx_sml iv (rx_kn iv y0) then rx_half pc lv st hp iv c s (rx_kn iv y0)
    else bif rx_sml iv (rx_kn iv x0) then rx_half pc lv st hp iv c s (rx_kn iv x0)
    else bif rx_isI x0 && rx_isI y0 then some [(Nat.add pc 1, lv, rx_sym (rx_len iv) :: st', hp, iv ++ [g (rx_kn iv y0)], c, s)] else none
  | _ => none
noncomputable def rx_g32 : Nat → Nat × Nat := fun _ => (0, 4294967295)
/-- of x &&& n, if n is known and not below 0 -/
noncomputable def rx_gand : Nat → Nat × Nat := fun y => bif Nat.beq (rx_tk y) 0 && Nat.blt (rx_pl y) 2147483648 then (2147483648, Nat.add (rx_pl y) 2147483648) else (0, 4294967295)
noncomputable def rx_f_add : Nat → Nat → Option Nat := fun x y => some (Nat.mod (Nat.add x y) 4294967296)
noncomputable def rx_f_sub : Nat → Nat → Option Nat := fun x y => some (Nat.mod (Nat.add x (Nat.sub 4294967296 (Nat.mod y 4294967296))) 4294967296)
noncomputable def rx_f_mul : Nat → Nat → Option Nat := fun x y => some (Nat.mod (Nat.mul x y) 4294967296)
noncomputable def rx_f_and : Nat → Nat → Option Nat := fun x y => some (Nat.mod (Nat.land x y) 4294967296)
noncomputable def rx_f_shl : Nat → Nat → Option Nat := fun x y => some (Nat.mod (Nat.mul x (Nat.pow 2 (Nat.mod y 32))) 4294967296)
noncomputable def rx_f_ushr : Nat → Nat → Option Nat := fun x y => some (Nat.div (Nat.mod x 4294967296) (Nat.pow 2 (Nat.mod y 32)))
noncomputable def rx_i32 (z : Int32) : Nat := z.toBitVec.toNat
noncomputable def rx_i64 (z : Int64) : Nat := z.toBitVec.toNat
noncomputable def rx_f_shr : Nat → Nat → Option Nat := fun x y => some (rx_i32 (Int32.ofNat x >>> (Int32.ofNat y &&& 31)))
noncomputable def rx_f_or : Nat → Nat → Option Nat := fun x y => some (Nat.mod (Nat.lor x y) 4294967296)
noncomputable def rx_f_xor : Nat → Nat → Option Nat := fun x y => some (Nat.mod (Nat.xor x y) 4294967296)
noncomputable def rx_f_div : Nat → Nat → Option Nat := fun x y => bif Nat.beq (Nat.mod y 4294967296) 0 then none else some (rx_i32 (Int32.ofNat x / Int32.ofNat y))
noncomputable def rx_f_rem : Nat → Nat → Option Nat := fun x y => bif Nat.beq (Nat.mod y 4294967296) 0 then none else some (rx_i32 (Int32.ofNat x - Int32.ofNat x / Int32.ofNat y * Int32.ofNat y))
noncomputable def rx_f_neg : Nat → Nat := fun x => rx_i32 (-(Int32.ofNat x))
noncomputable def rx_f_i2b : Nat → Nat := fun x => rx_i32 (Int32.ofNat x).toInt8.toInt32
noncomputable def rx_f_i2c : Nat → Nat := fun x => rx_i32 ((Int32.ofNat x).toUInt32 % 65536).toInt32
noncomputable def rx_j_add : Nat → Nat → Nat := fun x y => rx_i64 (Int64.ofNat x + Int64.ofNat y)
noncomputable def rx_j_sub : Nat → Nat → Nat := fun x y => rx_i64 (Int64.ofNat x - Int64.ofNat y)
noncomputable def rx_j_mul : Nat → Nat → Nat := fun x y => rx_i64 (Int64.ofNat x * Int64.ofNat y)
noncomputable def rx_j_and : Nat → Nat → Nat := fun x y => rx_i64 (Int64.ofNat x &&& Int64.ofNat y)
noncomputable def rx_j_or : Nat → Nat → Nat := fun x y => rx_i64 (Int64.ofNat x ||| Int64.ofNat y)
noncomputable def rx_j_xor : Nat → Nat → Nat := fun x y => rx_i64 (Int64.ofNat x ^^^ Int64.ofNat y)
noncomputable def rx_j_shl : Nat → Nat → Nat := fun x y => rx_i64 (Int64.ofNat x <<< ((Int32.ofNat y).toInt64 &&& 63))
noncomputable def rx_j_shr : Nat → Nat → Nat := fun x y => rx_i64 (Int64.ofNat x >>> ((Int32.ofNat y).toInt64 &&& 63))
/-- of two ints that are known; of one -/
noncomputable def rx_h_ark (f : Nat → Nat → Option Nat) : rx_Hd := fun _ _ pc _ _ lv st hp iv c s => match st with
  | y :: x :: st' => bif Nat.beq (rx_tk x) 0 && Nat.beq (rx_tk y) 0 then (match f (rx_pl x) (rx_pl y) with
    | some n => some [(Nat.add pc 1, lv, rx_int n :: st', hp, iv, c, s)]
    | none => none) else none
  | _ => none
noncomputable def rx_h_un (f : Nat → Nat) : rx_Hd := fun _ _ pc _ _ lv st hp iv c s => match st with
  | x :: st' => bif Nat.beq (rx_tk x) 0 then some [(Nat.add pc 1, lv, rx_int (f (rx_pl x)) :: st', hp, iv, c, s)] else none
  | [] => none
/-- of two longs; of a long and an int -/
noncomputable def rx_h_arJ (f : Nat → Nat → Nat) : rx_Hd := fun _ _ pc _ _ lv st hp iv c s => match st with
  | y :: x :: st' => bif rx_isJ x && rx_isJ y then some [(Nat.add pc 1, lv, rx_lng (f (rx_pl x) (rx_pl y)) :: st', hp, iv, c, s)] else none
  | _ => none
noncomputable def rx_h_shJ (f : Nat → Nat → Nat) : rx_Hd := fun _ _ pc _ _ lv st hp iv c s => match st with
  | y :: x :: st' => bif rx_isJ x && Nat.beq (rx_tk y) 0 then some [(Nat.add pc 1, lv, rx_lng (f (rx_pl x) (rx_pl y)) :: st', hp, iv, c, s)] else none
  | _ => none
noncomputable def rx_f_no : Nat → Nat → Option Nat := fun _ _ => none
noncomputable def rx_f_lcmp : Nat → Nat → Nat := fun x y => rx_i32 (lg_cmp (Int64.ofNat x) (Int64.ofNat y))
noncomputable def rx_h_lcmp : rx_Hd := fun _ _ pc _ _ lv st hp iv c s => match st with
    | y :: x :: st' => bif rx_isJ x && rx_isJ y then some [(Nat.add pc 1, lv, rx_int (rx_f_lcmp (rx_pl x) (rx_pl y)) :: st', hp, iv, c, s)] else none
    | _ => none
noncomputable def rx_h_dup : rx_Hd := fun _ _ pc _ _ lv st hp iv c s => match st with
    | v :: st' => bif rx_isJ v then none else some [(Nat.add pc 1, lv, v :: v :: st', hp, iv, c, s)]
    | [] => none
noncomputable def rx_h_pop : rx_Hd := fun _ _ pc _ _ lv st hp iv c s => match st with
    | v :: st' => bif rx_isJ v then none else some [(Nat.add pc 1, lv, st', hp, iv, c, s)]
    | [] => none
noncomputable def rx_h_pop2 : rx_Hd := fun _ _ pc _ _ lv st hp iv c s => match st with
    | v :: st' => bif rx_isJ v then some [(Nat.add pc 1, lv, st', hp, iv, c, s)] else none
    | [] => none
noncomputable def rx_h_dup2 : rx_Hd := fun _ _ pc _ _ lv st hp iv c s => match st with
    | v :: w :: st' => bif rx_isJ v || rx_isJ w then none else some [(Nat.add pc 1, lv, v :: w :: v :: w :: st', hp, iv, c, s)]
    | _ => none
noncomputable def rx_h_goto : rx_Hd := fun _ _ _ a _ lv st hp iv c s => some [(a, lv, st, hp, iv, c, s)]
noncomputable def rx_h_if (k : ClassFile.Cond) : rx_Hd := fun _ _ pc a _ lv st hp iv c s => match st with
    | x :: st' => rx_br k a pc x 0 st st' lv hp iv c s
    | [] => none
noncomputable def rx_h_icmp (k : ClassFile.Cond) : rx_Hd := fun _ _ pc a _ lv st hp iv c s => match st with
    | y :: x :: st' => rx_br k a pc x y st st' lv hp iv c s
    | _ => none
/-- a switch: a is where it goes if none fits -/
noncomputable def rx_tsw1 (LB HB : Nat) (offs : Array Int) (pc a v x y : Nat) (lv : rx_L) (st' : List Nat) (hp : rx_H) (iv : rx_I) (c s : Nat) : Option (List rx_S) :=
      bif Nat.blt y LB || Nat.blt HB x then some [(a, lv, st', hp, iv, c, s)]
      else bif Nat.beq x y then (match offs[Nat.sub x LB]? with
        | some o => (match (pc : Int) + o with
          | .ofNat t => some [(t, lv, st', hp, iv, c, s)]
          | _ => none)
        | none => none)
      else rx_two pc lv (v :: st') hp (rx_cut iv v (bif Nat.blt x LB then Nat.pred LB else bif Nat.blt HB y then HB else Nat.div (Nat.add x y) 2)) c s
noncomputable def rx_tsw2 (q : Option (Nat × Nat)) (lo hi : Int) (offs : Array Int) (pc a v : Nat) (lv : rx_L) (st' : List Nat) (hp : rx_H) (iv : rx_I) (c s : Nat) : Option (List rx_S) := match q, lo, hi with
    | some (x, y), .ofNat l0, .ofNat h0 => rx_tsw1 (Nat.add l0 2147483648) (Nat.add h0 2147483648) offs pc a v x y lv st' hp iv c s
    | _, _, _ => none
noncomputable def rx_h_tsw (lo hi : Int) (offs : Array Int) : rx_Hd := fun _ _ pc a _ lv st hp iv c s => match st with
  | v :: st' => rx_tsw2 (rx_io iv v) lo hi offs pc a v lv st' hp iv c s
  | [] => none
noncomputable def rx_h_gf : rx_Hd := fun _ _ pc a b lv st hp iv c s => match st with
  | v :: st' => bif Nat.beq (rx_tk v) 2 && Nat.ble 2 (rx_pl v) then (match rx_hg hp (Nat.sub (rx_pl v) 2) with
    | some (t, _, l) => bif Nat.beq t a then (match rx_nth l b with
        | some x => some [(Nat.add pc 3, lv, x :: st', hp, iv, c, s)]
        | none => none) else none
    | none => none) else none
  | [] => none
noncomputable def rx_h_pf : rx_Hd := fun K _ pc a b lv st hp iv c s => match st with
  | x :: v :: st' => bif Nat.beq (rx_tk v) 2 && Nat.ble 2 (rx_pl v) then (match rx_hg hp (Nat.sub (rx_pl v) 2) with
    | some (t, n, l) => (match rx_nth K.2 a with
      | some ks => (match rx_nth ks b with
        | some k => bif Nat.beq t a && (Nat.blt b n && rx_fok k x) then some [(Nat.add pc 3, lv, st', rx_hs hp (Nat.sub (rx_pl v) 2) (t, n, rx_upd l b x), iv, c, s)] else none
        | none => none)
      | none => none)
    | none => none) else none
  | _ => none
/-- an array is read: kinds that will do -/
noncomputable def rx_h_ald (ok : Nat → Bool) : rx_Hd := fun _ r pc _ _ lv st hp iv c s => match st with
  | ix :: v :: st' =>
    bif Nat.beq v 6 then (bif Nat.beq (rx_tk (rx_kn iv ix)) 0 && (ok 13 && Nat.blt (Nat.succ (rx_pl (rx_kn iv ix))) (rx_sl r)) then some [(Nat.add pc 1, lv, rx_int (rx_sx r (rx_pl (rx_kn iv ix))) :: st', hp, iv, c, s)] else none)
    else bif Nat.beq (rx_tk v) 2 && Nat.ble 2 (rx_pl v) then (match rx_hg hp (Nat.sub (rx_pl v) 2) with
    | some (t, n, l) => bif Nat.beq (rx_tk (rx_kn iv ix)) 0 then (bif ok t && (Nat.blt (rx_pl (rx_kn iv ix)) n && Nat.blt n 100000) then (match rx_nth l (rx_pl (rx_kn iv ix)) with
          | some x => some [(Nat.add pc 1, lv, x :: st', hp, iv, c, s)]
          | none => none) else none)
        else rx_half pc lv st hp iv c s (rx_kn iv ix)
    | none => none) else none
  | _ => none
/-- an array is written: whether a value will do in a kind of array -/
noncomputable def rx_ast (ok : Nat → Nat → Bool) (pc : Nat) (lv : rx_L) (st : List Nat) (hp : rx_H) (iv : rx_I) (c s : Nat) : Option (List rx_S) := match st with
  | x :: ix :: v :: st' => bif Nat.beq (rx_tk v) 2 && Nat.ble 2 (rx_pl v) then (match rx_hg hp (Nat.sub (rx_pl v) 2) with
    | some (t, n, l) => bif Nat.beq (rx_tk (rx_kn iv ix)) 0 then (bif ok t x && (Nat.blt (rx_pl (rx_kn iv ix)) n && Nat.blt n 100000) then some [(Nat.add pc 1, lv, st', rx_hs hp (Nat.sub (rx_pl v) 2) (t, n, rx_upd l (rx_pl (rx_kn iv ix)) x), iv, c, s)] else none)
        else rx_half pc lv st hp iv c s (rx_kn iv ix)
    | none => none) else none
  | _ => none
noncomputable def rx_h_iast : rx_Hd := fun _ _ pc _ _ lv st hp iv c s => rx_ast (fun t v => Nat.beq t 13 && rx_isI v) pc lv st hp iv c s
noncomputable def rx_h_bast : rx_Hd := fun _ _ pc _ _ lv st hp iv c s => rx_ast (fun t v => (Nat.beq t 12 && rx_within iv v 2147483520 2147483775) || (Nat.beq t 15 && rx_bit v)) pc lv st hp iv c s
noncomputable def rx_h_aast : rx_Hd := fun _ _ pc _ _ lv st hp iv c s => rx_ast (fun t v => Nat.beq t 16 && rx_obj hp 7 v) pc lv st hp iv c s
noncomputable def rx_h_last : rx_Hd := fun _ _ pc _ _ lv st hp iv c s => rx_ast (fun t v => Nat.beq t 14 && rx_isJ v) pc lv st hp iv c s
noncomputable def rx_h_alen : rx_Hd := fun _ r pc _ _ lv st hp iv c s => match st with
    | v :: st' => bif Nat.beq v 6 then (bif Nat.blt 0 (rx_sl r) then some [(Nat.add pc 1, lv, rx_int (Nat.pred (rx_sl r)) :: st', hp, iv, c, s)] else none)
      else bif Nat.beq (rx_tk v) 2 && Nat.ble 2 (rx_pl v) then (match rx_hg hp (Nat.sub (rx_pl v) 2) with
        | some (t, n, _) => bif Nat.beq t 13 && Nat.blt n 100000 then some [(Nat.add pc 1, lv, rx_int n :: st', hp, iv, c, s)] else none
        | none => none) else none
    | [] => none
/-- a new cell: there is a place, and room -/
noncomputable def rx_new (r : rx_N) (pc : Nat) (lv : rx_L) (st : List Nat) (hp : rx_H) (iv : rx_I) (c s : Nat) (x : rx_C) : Option (List rx_S) :=
  bif Nat.blt hp.1 256 && (Nat.ble (Nat.succ c) (rx_rc r) && Nat.ble (Nat.add s x.2.1) (rx_rs r)) then some [(pc, lv, rx_ref hp.1 :: st, rx_hp hp x, iv, Nat.succ c, Nat.add s x.2.1)] else none
noncomputable def rx_h_newa (t : ArrayType) : rx_Hd := fun _ r pc _ _ lv st hp iv c s => match st with
    | v :: st' => (match rx_nk t with
      | some (k, d) => bif Nat.beq (rx_tk v) 0 && Nat.ble (rx_pl v) 10000 then rx_new r (Nat.add pc 2) lv st' hp iv c s (k, rx_pl v, List.replicate (rx_pl v) d) else none
      | none => none)
    | [] => none
noncomputable def rx_h_anew : rx_Hd := fun _ r pc _ _ lv st hp iv c s => match st with
    | v :: st' => bif Nat.beq (rx_tk v) 0 && Nat.ble (rx_pl v) 10000 then rx_new r (Nat.add pc 3) lv st' hp iv c s (16, rx_pl v, List.replicate (rx_pl v) 2) else none
    | [] => none
noncomputable def rx_h_new : rx_Hd := fun K r pc a _ lv st hp iv c s => match rx_nth K.1 a with
    | some l => rx_new r (Nat.add pc 3) lv st hp iv c s (a, rx_len l, l)
    | none => none
noncomputable def rx_h_no : rx_Hd := fun _ _ _ _ _ _ _ _ _ _ _ => none
/-- what an instruction does that isn't a call or a return -/
noncomputable def rx_sem (ins : Instr) : rx_Hd := match ins with
  | .aload_n k => rx_h_ld rx_isR k.val 1
  | .iload_n k => rx_h_ld rx_isI k.val 1
  | .lload_n k => rx_h_ld rx_isJ k.val 1
  | .iload i => rx_h_ld rx_isI i 2
  | .istore_n k => rx_h_sto rx_isI k.val 1
  | .astore_n k => rx_h_sto rx_isR k.val 1
  | .istore i => rx_h_sto rx_isI i 2
  | .lstore_n k => rx_h_stJ k.val 1
  | .lstore i => rx_h_stJ i 2
  | .iinc i _ => rx_h_inc i
  | .iconst _ => rx_h_psh 1
  | .bipush _ => rx_h_psh 2
  | .sipush _ => rx_h_psh 3
  | .lconst _ => rx_h_pshJ 1
  | .ldc_w _ => rx_h_psh 3
  | .ldc2_w _ => rx_h_pshJ 3
  | .iadd => rx_h_ar rx_f_add rx_g32
  | .isub => rx_h_ar rx_f_sub rx_g32
  | .imul => rx_h_ar rx_f_mul rx_g32
  | .iand => rx_h_ar rx_f_and rx_gand
  | .ishl => rx_h_ar rx_f_shl rx_g32
  | .ishr => rx_h_ark rx_f_shr
  | .iushr => rx_h_ar rx_f_ushr rx_g32
  | .i2b => rx_h_un rx_f_i2b
  | .ineg => rx_h_un rx_f_neg
  | .ior => rx_h_ark rx_f_or
  | .ixor => rx_h_ark rx_f_xor
  | .idiv => rx_h_ark rx_f_div
  | .irem => rx_h_ark rx_f_rem
  | .ladd => rx_h_arJ rx_j_add
  | .lsub => rx_h_arJ rx_j_sub
  | .lmul => rx_h_arJ rx_j_mul
  | .land => rx_h_arJ rx_j_and
  | .lor => rx_h_arJ rx_j_or
  | .lxor => rx_h_arJ rx_j_xor
  | .lshl => rx_h_shJ rx_j_shl
  | .lshr => rx_h_shJ rx_j_shr
  | .lload i => rx_h_ld rx_isJ i 2
  | .laload => rx_h_ald (fun t => Nat.beq t 14)
  | .lastore => rx_h_last
  | .lcmp => rx_h_lcmp
  | .dup => rx_h_dup
  | .pop => rx_h_pop
  | .dup2 => rx_h_dup2
  | .pop2 => rx_h_pop2
  | .ldc _ => rx_h_ldc
  | .goto _ => rx_h_goto
  | .ifCond k _ => rx_h_if k
  | .if_icmp k _ => rx_h_icmp k
  | .tableswitch _ lo hi offs => rx_h_tsw lo hi offs
  | .getfield _ => rx_h_gf
  | .putfield _ => rx_h_pf
  | .iaload => rx_h_ald (fun t => Nat.beq t 13)
  | .baload => rx_h_ald (fun t => Nat.beq t 12 || Nat.beq t 15)
  | .aaload => rx_h_ald (fun t => Nat.beq t 16)
  | .iastore => rx_h_iast
  | .bastore => rx_h_bast
  | .aastore => rx_h_aast
  | .arraylength => rx_h_alen
  | .newarray t => rx_h_newa t
  | .anewarray _ => rx_h_anew
  | .new _ => rx_h_new
  | _ => rx_h_no
noncomputable def rx_find (pc : Nat) (l : List rx_E) : Option rx_E := List.rec (motive := fun _ => Option rx_E) none (fun x _ ih => bif Nat.beq x.1 pc then some x else ih) l
noncomputable def rx_look (cd : List (List rx_E)) (pc : Nat) : Option rx_E := match rx_nth cd (Nat.div pc 16) with
  | some l => rx_find pc l
  | none => none
/-- all of a list -/
noncomputable def rx_all {α β : Type} (f : α → Option (List β)) (l : List α) : Option (List β) := match l with
  | [x] => f x
  | l => l.foldr (fun x acc => match f x with
    | some a => (match acc with
      | some b => some (a ++ b)
      | none => none)
    | none => none) (some [])
noncomputable def rx_cat (st : List Nat) : Nat := List.rec (motive := fun _ => Nat) 0 (fun v _ n => bif rx_isJ v then Nat.add n 2 else Nat.succ n) st
/-- a copy of a whole array of ints onto one that is as long -/
noncomputable def rx_cpy (pc : Nat) (lv : rx_L) (st : List Nat) (hp : rx_H) (iv : rx_I) (c s : Nat) : Option rx_S := match st with
  | n :: dp :: d :: sp :: q :: st' => bif Nat.beq dp 0 && (Nat.beq sp 0 && (Nat.beq (rx_tk d) 2 && (Nat.ble 2 (rx_pl d) && (Nat.beq (rx_tk q) 2 && Nat.ble 2 (rx_pl q))))) then (match rx_hg hp (Nat.sub (rx_pl q) 2), rx_hg hp (Nat.sub (rx_pl d) 2) with
    | some (t, m, l), some (t2, m2, _) => bif Nat.beq t 13 && (Nat.beq t2 13 && (Nat.beq n (rx_int m) && (Nat.beq m m2 && (Nat.blt m 100000 && Nat.ble (rx_cat st') 8)))) then some (Nat.add pc 3, lv, st', rx_hs hp (Nat.sub (rx_pl d) 2) (13, m, l), iv, c, s) else none
    | _, _ => none) else none
  | _ => none
noncomputable def rx_fit (r : rx_N) (c s : Nat) : Bool := Nat.ble c (rx_rc r) && Nat.ble s (rx_rs r)
noncomputable def rx_vret (r : rx_N) (st : List Nat) (hp : rx_H) (iv : rx_I) (c s : Nat) : Option (List rx_O) := match st with
  | [] => bif Nat.beq (rx_rk r) 0 && rx_fit r c s then some [(2, hp, iv)] else none
  | _ => none
noncomputable def rx_iret (r : rx_N) (st : List Nat) (hp : rx_H) (iv : rx_I) (c s : Nat) : Option (List rx_O) := match st with
  | [v] => bif rx_fit r c s && ((Nat.beq (rx_rk r) 1 && rx_isI v) || (Nat.beq (rx_rk r) 2 && rx_bit (rx_kn iv v))) then some [(rx_kn iv v, hp, iv)] else none
  | _ => none
noncomputable def rx_lret (r : rx_N) (st : List Nat) (hp : rx_H) (iv : rx_I) (c s : Nat) : Option (List rx_O) := match st with
  | [v] => bif rx_fit r c s && (Nat.beq (rx_rk r) 3 && rx_isJ v) then some [(v, hp, iv)] else none
  | _ => none
noncomputable def rx_aret (r : rx_N) (st : List Nat) (hp : rx_H) (iv : rx_I) (c s : Nat) : Option (List rx_O) := match st with
  | [v] => bif rx_fit r c s && (Nat.beq (rx_rk r) 4 && rx_isA v) then some [(v, hp, iv)] else none
  | _ => none
/-- a stack, an argument list: the first n of it the other way round, and the rest -/
noncomputable def rx_spl (n : Nat) : List Nat → List Nat → Option (List Nat × List Nat) := Nat.rec (motive := fun _ => List Nat → List Nat → Option (List Nat × List Nat)) (fun st acc => some (acc, st)) (fun _ ih st acc => match st with
  | v :: st' => ih st' (v :: acc)
  | [] => none) n
noncomputable def rx_rcv (hp : rx_H) (ci : Nat) (as : List Nat) : Bool := match as with
  | v :: _ => rx_obj hp ci v
  | [] => false
/-- there is room for a call of q out of r -/
noncomputable def rx_cok (r q : rx_N) (as rest : List Nat) (c s : Nat) : Bool := Nat.ble (rx_cat rest) 8 && (Nat.ble (Nat.succ (rx_rf q)) (rx_rf r) && (Nat.ble (Nat.add (Nat.add 19 (rx_mL q)) (rx_rl q)) (rx_rl r) && (Nat.ble (Nat.add c (rx_rc q)) (rx_rc r) && (Nat.ble (Nat.add s (rx_rs q)) (rx_rs r) && Nat.ble (rx_cat as) (rx_mL q)))))
/-- behind a call; f: what comes then -/
noncomputable def rx_beh {β : Type} (f : rx_M → rx_S → Option (List β)) (r : rx_M) (q : rx_N) (pc : Nat) (lv : rx_L) (rest : List Nat) (c s : Nat) (o : rx_O) : Option (List β) :=
  f r (Nat.add pc 3, lv, (bif Nat.beq (rx_rk q) 0 then rest else o.1 :: rest), o.2.1, o.2.2, Nat.add c (rx_rc q), Nat.add s (rx_rs q))
noncomputable def rx_inv3 {β : Type} (g : rx_M → rx_S → Option (List rx_O)) (f : rx_M → rx_S → Option (List β)) (r q : rx_M) (pc : Nat) (lv : rx_L) (hp : rx_H) (iv : rx_I) (c s : Nat) (as rest : List Nat) : Option (List β) :=
  match g q (0, rx_args as (rx_mL (rx_n q)), [], hp, iv, 0, 0) with
  | some outs => rx_all (rx_beh f r (rx_n q) pc lv rest c s) outs
  | none => none
/-- a call of a method of the table; g: what is called -/
noncomputable def rx_inv {β : Type} (stat : Bool) (P : List rx_M) (g : rx_M → rx_S → Option (List rx_O)) (f : rx_M → rx_S → Option (List β)) (r : rx_M) (pc a ci : Nat) (lv : rx_L) (st : List Nat) (hp : rx_H) (iv : rx_I) (c s : Nat) : Option (List β) := match rx_nth P a with
    | some q => (match rx_spl (bif stat then rx_np (rx_n q) else Nat.succ (rx_np (rx_n q))) st [] with
      | some (as, rest) => bif (stat || rx_rcv hp ci as) && rx_cok (rx_n r) (rx_n q) as rest c s then rx_inv3 g f r q pc lv hp iv c s as rest else none
      | none => none)
    | none => none
/-- Object's own constructor -/
noncomputable def rx_inv1 {β : Type} (f : rx_M → rx_S → Option (List β)) (r : rx_M) (pc : Nat) (lv : rx_L) (st : List Nat) (hp : rx_H) (iv : rx_I) (c s : Nat) : Option (List β) := match st with
    | v :: st' => bif Nat.beq (rx_tk v) 2 && (Nat.ble 2 (rx_pl v) && (Nat.ble 1 (rx_rf (rx_n r)) && Nat.ble (Nat.add (rx_cat st') 12) (rx_rl (rx_n r)))) then f r (Nat.add pc 3, lv, st', hp, iv, c, s) else none
    | [] => none
noncomputable def rx_inv2 {β : Type} (f : rx_M → rx_S → Option (List β)) (r : rx_M) (pc : Nat) (lv : rx_L) (st : List Nat) (hp : rx_H) (iv : rx_I) (c s : Nat) : Option (List β) := match rx_cpy pc lv st hp iv c s with
    | some σ => bif Nat.ble 1 (rx_rf (rx_n r)) && Nat.ble 40 (rx_rl (rx_n r)) then f r σ else none
    | none => none
/-- what the machine does itself: 1 Math.max, 2 Math.min -/
noncomputable def rx_prim (k : Nat) (st : List Nat) : Option (List Nat) := match st with
  | y :: x :: st' => bif Nat.beq (rx_tk x) 0 && Nat.beq (rx_tk y) 0 then (bif Nat.beq k 1 then some ((bif Nat.blt (rx_bi (rx_pl x)) (rx_bi (rx_pl y)) then y else x) :: st') else bif Nat.beq k 2 then some ((bif Nat.blt (rx_bi (rx_pl y)) (rx_bi (rx_pl x)) then y else x) :: st') else none) else none
  | _ => none
noncomputable def rx_invP {β : Type} (f : rx_M → rx_S → Option (List β)) (r : rx_M) (pc k : Nat) (lv : rx_L) (st : List Nat) (hp : rx_H) (iv : rx_I) (c s : Nat) : Option (List β) := match rx_prim k st with
    | some st' => bif Nat.ble 1 (rx_rf (rx_n r)) && (Nat.ble 40 (rx_rl (rx_n r)) && (Nat.ble (rx_cat st') 9 && rx_fit (rx_n r) c s)) then f r (Nat.add pc 3, lv, st', hp, iv, c, s) else none
    | none => none
/-- of words: 3 length, 4 charAt -/
noncomputable def rx_wrd (v : Nat) : Option (List Nat) := bif rx_isW v then rx_nth rx_sbyt (Nat.sub (rx_pl v) 1000) else none
noncomputable def rx_primL (v : Nat) (st : List Nat) : Option (List Nat) := match rx_wrd v with
  | some l => some (rx_int (rx_len l) :: st)
  | none => none
noncomputable def rx_primC (i : Nat) (st : List Nat) : Option (List Nat) := match st with
  | v :: st' => (match rx_wrd v with
    | some l => bif Nat.beq (rx_tk i) 0 then (match rx_nth l (rx_pl i) with
      | some c => some (rx_int c :: st')
      | none => none) else none
    | none => none)
  | [] => none
noncomputable def rx_primS (k : Nat) (st : List Nat) : Option (List Nat) := match st with
  | v :: st' => bif Nat.beq k 3 then rx_primL v st' else bif Nat.beq k 4 then rx_primC v st' else none
  | [] => none
noncomputable def rx_invS {β : Type} (f : rx_M → rx_S → Option (List β)) (r : rx_M) (pc k : Nat) (lv : rx_L) (st : List Nat) (hp : rx_H) (iv : rx_I) (c s : Nat) : Option (List β) := match rx_primS k st with
    | some st' => bif Nat.ble 8 (rx_rf (rx_n r)) && (Nat.ble 400 (rx_rl (rx_n r)) && (Nat.ble (rx_cat st') 9 && rx_fit (rx_n r) c s)) then f r (Nat.add pc 3, lv, st', hp, iv, c, s) else none
    | none => none
noncomputable def rx_call {β : Type} (stat : Bool) (P : List rx_M) (g : rx_M → rx_S → Option (List rx_O)) (f : rx_M → rx_S → Option (List β)) (r : rx_M) (pc a b : Nat) (lv : rx_L) (st : List Nat) (hp : rx_H) (iv : rx_I) (c s : Nat) : Option (List β) :=
  bif Nat.beq b 1 then rx_inv1 f r pc lv st hp iv c s else bif Nat.beq b 2 then rx_inv2 f r pc lv st hp iv c s else bif Nat.beq (Nat.mod b 4) 1 then (bif stat then rx_invP f r pc (Nat.div b 4) lv st hp iv c s else rx_invS f r pc (Nat.div b 4) lv st hp iv c s) else rx_inv stat P g f r pc a (Nat.div b 4) lv st hp iv c s
noncomputable def rx_nxt {β : Type} (f : rx_M → rx_S → Option (List β)) (r : rx_M) (o : Option (List rx_S)) : Option (List β) := match o with
  | some l => rx_all (f r) l
  | none => none
noncomputable def rx_out {β : Type} (z : rx_O → Option (List β)) (o : Option (List rx_O)) : Option (List β) := match o with
  | some l => rx_all z l
  | none => none
/-- one instruction; g: what is called, f: what comes then, z: what a return makes -/
noncomputable def rx_do {β : Type} (P : List rx_M) (K : rx_K) (g : rx_M → rx_S → Option (List rx_O)) (f : rx_M → rx_S → Option (List β)) (z : rx_O → Option (List β)) (r : rx_M) (k : Nat) (h : rx_Hd) (pc a b : Nat) (lv : rx_L) (st : List Nat) (hp : rx_H) (iv : rx_I) (c s : Nat) : Option (List β) :=
  bif Nat.beq k 0 then rx_nxt f r (h K (rx_n r) pc a b lv st hp iv c s)
  else bif Nat.beq k 4 then rx_call false P g f r pc a b lv st hp iv c s
  else bif Nat.beq k 1 then rx_out z (rx_iret (rx_n r) st hp iv c s)
  else bif Nat.beq k 5 then rx_call true P g f r pc a b lv st hp iv c s
  else bif Nat.beq k 3 then rx_out z (rx_vret (rx_n r) st hp iv c s)
  else bif Nat.beq k 2 then rx_out z (rx_lret (rx_n r) st hp iv c s)
  else bif Nat.beq k 6 then rx_out z (rx_aret (rx_n r) st hp iv c s) else none
noncomputable def rx_go {β : Type} (P : List rx_M) (K : rx_K) (g : rx_M → rx_S → Option (List rx_O)) (f : rx_M → rx_S → Option (List β)) (z : rx_O → Option (List β)) (r : rx_M) (σ : rx_S) : Option (List β) := match rx_look (rx_cd r) σ.1 with
    | some x => rx_do P K g f z r x.2.1 x.2.2.1 σ.1 x.2.2.2.2.2.1 x.2.2.2.2.2.2.1 σ.2.1 σ.2.2.1 σ.2.2.2.1 σ.2.2.2.2.1 σ.2.2.2.2.2.1 σ.2.2.2.2.2.2
    | none => none
/-- a whole run: all outcomes -/
noncomputable def rx_run (P : List rx_M) (K : rx_K) (n : Nat) : rx_M → rx_S → Option (List rx_O) :=
  Nat.rec (fun _ _ => none) (fun _ ih r σ => rx_go P K ih ih (fun o => some [o]) r σ) n
/-- k instructions of a method's own (calls are run whole), or up to a place -/
noncomputable def rx_adv (P : List rx_M) (K : rx_K) (n stop : Nat) (r : rx_M) (k : Nat) : rx_S → Option (List rx_S) :=
  Nat.rec (fun σ => some [σ]) (fun _ ih σ => bif Nat.beq σ.1 stop then some [σ] else rx_go P K (rx_run P K n) (fun _ σ' => ih σ') (fun _ => none) r σ) k
/-- the kind of an instruction -/
noncomputable def rx_kd (ins : Instr) : Nat := match ins with
  | .ireturn => 1
  | .lreturn => 2
  | .areturn => 6
  | .return_ => 3
  | .invokevirtual _ => 4
  | .invokespecial _ => 4
  | .invokestatic _ => 5
  | _ => 0
