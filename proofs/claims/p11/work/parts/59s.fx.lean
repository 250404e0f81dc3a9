/-! fx: what a run that ends has done, told of a heap that is a function. A value: its tag (0 int, 1 long, 2 reference, 3: nothing is known), its number. -/
abbrev fx_V : Type := Nat × Nat
abbrev fx_F : Type := Nat → Nat → Nat
noncomputable def fx_d (v : Nat) : fx_V := (v % 4, v / 4)
noncomputable def fx_wv (v : Nat) : Prop := v % 4 ≠ 3 ∧ (v % 4 = 0 → v / 4 < 4294967296)
noncomputable def fx_ws (l : List Nat) : Prop := ∀ v ∈ l, fx_wv v
noncomputable def fx_L (lv : List fx_V) (lc : List Nat) : Prop := lv.length = lc.length ∧ ∀ (i : Nat) (u : fx_V) (v : Nat), lv[i]? = some u → lc[i]? = some v → u.1 = 3 ∨ u = fx_d v
noncomputable def fx_hp (hp : rx_H) : fx_F := fun p i => bif Nat.ble 2 p then (match rx_hg hp (p - 2) with | some z => (z.2.2[i]?.getD 0) / 4 | none => 0) else 0
/-- the tag of what lies in a cell of kind k at i -/
noncomputable def fx_tg (FK : List (List Nat)) (k i : Nat) : Nat := bif Nat.blt k 12 then (match rx_nth FK k with
  | some ks => (match rx_nth ks i with
    | some x => bif Nat.beq x 2 then 2 else 0
    | none => 0)
  | none => 0) else bif Nat.beq k 14 then 1 else bif Nat.beq k 16 then 2 else 0
/-- a field that is never written: 1 what is known by the place itself, 2 by its kind -/
noncomputable def fx_fz (FZ : List (List (Nat × Nat))) (k b : Nat) : Nat × Nat := match rx_nth FZ k with
  | some l => (match rx_nth l b with
    | some z => z
    | none => (0, 0))
  | none => (0, 0)
noncomputable def fx_ft (FK : List (List Nat)) (FZ : List (List (Nat × Nat))) (q k i v : Nat) : Prop := fx_wv v ∧ v % 4 = fx_tg FK k i ∧ ((fx_fz FZ k i).1 = 1 → v = 4 * (q + 2 + (fx_fz FZ k i).2) + 2) ∧ ((fx_fz FZ k i).1 = 2 → v = 4 * (fx_fz FZ k i).2 + 2)
noncomputable def fx_H (w : ax_W) (FK : List (List Nat)) (FZ : List (List (Nat × Nat))) (hp : rx_H) : Prop := hp.1 ≤ 256 ∧ ∀ (q k n : Nat) (f : List Nat), rx_hg hp q = some (k, n, f) → f.length = n ∧ (∃ (g : Nat) (l : List (Nat × ax_Y)), w.1[q]? = some g ∧ w.2.1[g]? = some (k, n, l)) ∧ ∀ i v : Nat, f[i]? = some v → fx_ft FK FZ q k i v
noncomputable def fu (F : fx_F) (p i v : Nat) : fx_F := fun q j => bif Nat.beq q p && Nat.beq j i then v else F q j
noncomputable def fcp (F : fx_F) (s d : Nat) : fx_F := fun q j => bif Nat.beq q d then F s j else F q j
-- arithmetic
noncomputable def i_add (x y : Nat) : Nat := Classical.choose (⟨Nat.mod (Nat.add x y) 4294967296, rfl⟩ : ∃ z : Nat, z = Nat.mod (Nat.add x y) 4294967296)
theorem i_add_eq (x y : Nat) : i_add x y = Nat.mod (Nat.add x y) 4294967296 := Classical.choose_spec (⟨Nat.mod (Nat.add x y) 4294967296, rfl⟩ : ∃ z : Nat, z = Nat.mod (Nat.add x y) 4294967296)
noncomputable def i_sub (x y : Nat) : Nat := Classical.choose (⟨Nat.mod (Nat.add x (Nat.sub 4294967296 (Nat.mod y 4294967296))) 4294967296, rfl⟩ : ∃ z : Nat, z = Nat.mod (Nat.add x (Nat.sub 4294967296 (Nat.mod y 4294967296))) 4294967296)
theorem i_sub_eq (x y : Nat) : i_sub x y = Nat.mod (Nat.add x (Nat.sub 4294967296 (Nat.mod y 4294967296))) 4294967296 := Classical.choose_spec (⟨Nat.mod (Nat.add x (Nat.sub 4294967296 (Nat.mod y 4294967296))) 4294967296, rfl⟩ : ∃ z : Nat, z = Nat.mod (Nat.add x (Nat.sub 4294967296 (Nat.mod y 4294967296))) 4294967296)
noncomputable def i_mul (x y : Nat) : Nat := Classical.choose (⟨Nat.mod (Nat.mul x y) 4294967296, rfl⟩ : ∃ z : Nat, z = Nat.mod (Nat.mul x y) 4294967296)
theorem i_mul_eq (x y : Nat) : i_mul x y = Nat.mod (Nat.mul x y) 4294967296 := Classical.choose_spec (⟨Nat.mod (Nat.mul x y) 4294967296, rfl⟩ : ∃ z : Nat, z = Nat.mod (Nat.mul x y) 4294967296)
noncomputable def i_and (x y : Nat) : Nat := Classical.choose (⟨Nat.mod (Nat.land x y) 4294967296, rfl⟩ : ∃ z : Nat, z = Nat.mod (Nat.land x y) 4294967296)
theorem i_and_eq (x y : Nat) : i_and x y = Nat.mod (Nat.land x y) 4294967296 := Classical.choose_spec (⟨Nat.mod (Nat.land x y) 4294967296, rfl⟩ : ∃ z : Nat, z = Nat.mod (Nat.land x y) 4294967296)
noncomputable def i_or (x y : Nat) : Nat := Classical.choose (⟨Nat.mod (Nat.lor x y) 4294967296, rfl⟩ : ∃ z : Nat, z = Nat.mod (Nat.lor x y) 4294967296)
theorem i_or_eq (x y : Nat) : i_or x y = Nat.mod (Nat.lor x y) 4294967296 := Classical.choose_spec (⟨Nat.mod (Nat.lor x y) 4294967296, rfl⟩ : ∃ z : Nat, z = Nat.mod (Nat.lor x y) 4294967296)
noncomputable def i_xor (x y : Nat) : Nat := Classical.choose (⟨Nat.mod (Nat.xor x y) 4294967296, rfl⟩ : ∃ z : Nat, z = Nat.mod (Nat.xor x y) 4294967296)
theorem i_xor_eq (x y : Nat) : i_xor x y = Nat.mod (Nat.xor x y) 4294967296 := Classical.choose_spec (⟨Nat.mod (Nat.xor x y) 4294967296, rfl⟩ : ∃ z : Nat, z = Nat.mod (Nat.xor x y) 4294967296)
noncomputable def i_shl (x y : Nat) : Nat := Classical.choose (⟨Nat.mod (Nat.mul x (Nat.pow 2 (Nat.mod y 32))) 4294967296, rfl⟩ : ∃ z : Nat, z = Nat.mod (Nat.mul x (Nat.pow 2 (Nat.mod y 32))) 4294967296)
theorem i_shl_eq (x y : Nat) : i_shl x y = Nat.mod (Nat.mul x (Nat.pow 2 (Nat.mod y 32))) 4294967296 := Classical.choose_spec (⟨Nat.mod (Nat.mul x (Nat.pow 2 (Nat.mod y 32))) 4294967296, rfl⟩ : ∃ z : Nat, z = Nat.mod (Nat.mul x (Nat.pow 2 (Nat.mod y 32))) 4294967296)
noncomputable def i_shr (x y : Nat) : Nat := Classical.choose (⟨rx_i32 (Int32.ofNat x >>> (Int32.ofNat y &&& 31)), rfl⟩ : ∃ z : Nat, z = rx_i32 (Int32.ofNat x >>> (Int32.ofNat y &&& 31)))
theorem i_shr_eq (x y : Nat) : i_shr x y = rx_i32 (Int32.ofNat x >>> (Int32.ofNat y &&& 31)) := Classical.choose_spec (⟨rx_i32 (Int32.ofNat x >>> (Int32.ofNat y &&& 31)), rfl⟩ : ∃ z : Nat, z = rx_i32 (Int32.ofNat x >>> (Int32.ofNat y &&& 31)))
noncomputable def i_ushr (x y : Nat) : Nat := Classical.choose (⟨Nat.div (Nat.mod x 4294967296) (Nat.pow 2 (Nat.mod y 32)), rfl⟩ : ∃ z : Nat, z = Nat.div (Nat.mod x 4294967296) (Nat.pow 2 (Nat.mod y 32)))
theorem i_ushr_eq (x y : Nat) : i_ushr x y = Nat.div (Nat.mod x 4294967296) (Nat.pow 2 (Nat.mod y 32)) := Classical.choose_spec (⟨Nat.div (Nat.mod x 4294967296) (Nat.pow 2 (Nat.mod y 32)), rfl⟩ : ∃ z : Nat, z = Nat.div (Nat.mod x 4294967296) (Nat.pow 2 (Nat.mod y 32)))
noncomputable def i_div (x y : Nat) : Nat := Classical.choose (⟨rx_i32 (Int32.ofNat x / Int32.ofNat y), rfl⟩ : ∃ z : Nat, z = rx_i32 (Int32.ofNat x / Int32.ofNat y))
theorem i_div_eq (x y : Nat) : i_div x y = rx_i32 (Int32.ofNat x / Int32.ofNat y) := Classical.choose_spec (⟨rx_i32 (Int32.ofNat x / Int32.ofNat y), rfl⟩ : ∃ z : Nat, z = rx_i32 (Int32.ofNat x / Int32.ofNat y))
noncomputable def i_rem (x y : Nat) : Nat := Classical.choose (⟨rx_i32 (Int32.ofNat x - Int32.ofNat x / Int32.ofNat y * Int32.ofNat y), rfl⟩ : ∃ z : Nat, z = rx_i32 (Int32.ofNat x - Int32.ofNat x / Int32.ofNat y * Int32.ofNat y))
theorem i_rem_eq (x y : Nat) : i_rem x y = rx_i32 (Int32.ofNat x - Int32.ofNat x / Int32.ofNat y * Int32.ofNat y) := Classical.choose_spec (⟨rx_i32 (Int32.ofNat x - Int32.ofNat x / Int32.ofNat y * Int32.ofNat y), rfl⟩ : ∃ z : Nat, z = rx_i32 (Int32.ofNat x - Int32.ofNat x / Int32.ofNat y * Int32.ofNat y))
noncomputable def i_neg (x : Nat) : Nat := Classical.choose (⟨rx_f_neg x, rfl⟩ : ∃ z : Nat, z = rx_f_neg x)
theorem i_neg_eq (x : Nat) : i_neg x = rx_f_neg x := Classical.choose_spec (⟨rx_f_neg x, rfl⟩ : ∃ z : Nat, z = rx_f_neg x)
noncomputable def i_2b (x : Nat) : Nat := Classical.choose (⟨rx_f_i2b x, rfl⟩ : ∃ z : Nat, z = rx_f_i2b x)
theorem i_2b_eq (x : Nat) : i_2b x = rx_f_i2b x := Classical.choose_spec (⟨rx_f_i2b x, rfl⟩ : ∃ z : Nat, z = rx_f_i2b x)
noncomputable def i_max (x y : Nat) : Nat := Classical.choose (⟨bif Nat.blt (rx_bi x) (rx_bi y) then y else x, rfl⟩ : ∃ z : Nat, z = bif Nat.blt (rx_bi x) (rx_bi y) then y else x)
theorem i_max_eq (x y : Nat) : i_max x y = bif Nat.blt (rx_bi x) (rx_bi y) then y else x := Classical.choose_spec (⟨bif Nat.blt (rx_bi x) (rx_bi y) then y else x, rfl⟩ : ∃ z : Nat, z = bif Nat.blt (rx_bi x) (rx_bi y) then y else x)
noncomputable def i_min (x y : Nat) : Nat := Classical.choose (⟨bif Nat.blt (rx_bi y) (rx_bi x) then y else x, rfl⟩ : ∃ z : Nat, z = bif Nat.blt (rx_bi y) (rx_bi x) then y else x)
theorem i_min_eq (x y : Nat) : i_min x y = bif Nat.blt (rx_bi y) (rx_bi x) then y else x := Classical.choose_spec (⟨bif Nat.blt (rx_bi y) (rx_bi x) then y else x, rfl⟩ : ∃ z : Nat, z = bif Nat.blt (rx_bi y) (rx_bi x) then y else x)
noncomputable def s_lt (x y : Nat) : Prop := Classical.choose (⟨rx_bi x < rx_bi y, rfl⟩ : ∃ z : Prop, z = (rx_bi x < rx_bi y))
theorem s_lt_eq (x y : Nat) : s_lt x y = (rx_bi x < rx_bi y) := Classical.choose_spec (⟨rx_bi x < rx_bi y, rfl⟩ : ∃ z : Prop, z = (rx_bi x < rx_bi y))
noncomputable def s_le (x y : Nat) : Prop := Classical.choose (⟨rx_bi x ≤ rx_bi y, rfl⟩ : ∃ z : Prop, z = (rx_bi x ≤ rx_bi y))
theorem s_le_eq (x y : Nat) : s_le x y = (rx_bi x ≤ rx_bi y) := Classical.choose_spec (⟨rx_bi x ≤ rx_bi y, rfl⟩ : ∃ z : Prop, z = (rx_bi x ≤ rx_bi y))
noncomputable def fx_b (o x y : Nat) : Nat := bif Nat.beq o 0 then i_add x y else bif Nat.beq o 1 then i_sub x y else bif Nat.beq o 2 then i_mul x y else bif Nat.beq o 3 then i_and x y else bif Nat.beq o 4 then i_or x y else bif Nat.beq o 5 then i_xor x y else bif Nat.beq o 6 then i_shl x y else bif Nat.beq o 7 then i_shr x y else bif Nat.beq o 8 then i_ushr x y else bif Nat.beq o 9 then i_div x y else i_rem x y
noncomputable def fx_bp (o : Nat) (k : Nat → Prop) (x y : Nat) : Prop := bif Nat.beq o 0 then k (i_add x y) else bif Nat.beq o 1 then k (i_sub x y) else bif Nat.beq o 2 then k (i_mul x y) else bif Nat.beq o 3 then k (i_and x y) else bif Nat.beq o 4 then k (i_or x y) else bif Nat.beq o 5 then k (i_xor x y) else bif Nat.beq o 6 then k (i_shl x y) else bif Nat.beq o 7 then k (i_shr x y) else bif Nat.beq o 8 then k (i_ushr x y) else bif Nat.beq o 9 then k (i_div x y) else k (i_rem x y)
noncomputable def fx_j (o x y : Nat) : Nat := bif Nat.beq o 0 then rx_j_add x y else bif Nat.beq o 1 then rx_j_sub x y else bif Nat.beq o 2 then rx_j_mul x y else bif Nat.beq o 3 then rx_j_and x y else bif Nat.beq o 4 then rx_j_or x y else rx_j_xor x y
noncomputable def fx_c (k x y : Nat) : Prop := bif Nat.beq k 0 then x = y else bif Nat.beq k 1 then x ≠ y else bif Nat.beq k 2 then s_lt x y else bif Nat.beq k 3 then s_le y x else bif Nat.beq k 4 then s_lt y x else s_le x y
noncomputable def fx_low (lv : List fx_V) (i : Nat) : List fx_V := Nat.casesOn i lv (fun j => match rx_nth lv j with
  | some v => bif Nat.beq v.1 1 then rx_upd lv j (3, 0) else lv
  | none => lv)
noncomputable def fx_put (lv : List fx_V) (i : Nat) (v : fx_V) : List fx_V := rx_upd (fx_low lv i) i v
/-- the value of a field -/
noncomputable def fx_gv (FK : List (List Nat)) (z : Nat × Nat) (na nb p : Nat) (F : fx_F) : fx_V := bif Nat.beq z.1 1 then (2, Nat.add p z.2) else bif Nat.beq z.1 2 then (2, z.2) else (fx_tg FK na nb, F p nb)
noncomputable def fx_len (w : ax_W) (p : Nat) : Nat := match rx_nth w.1 (Nat.sub p 2) with
  | some g => (match rx_nth w.2.1 g with
    | some z => z.2.1
    | none => 0)
  | none => 0
abbrev fx_N : Type := Nat → List fx_V → List fx_V → fx_F → Prop
noncomputable def fx_sw (D : Nat → Prop) (x : Nat) (tg : List Nat) : Nat → Prop := List.rec (motive := fun _ => Nat → Prop) (fun _ => True) (fun t _ ih j => (x = j → D t) ∧ ih (Nat.succ j)) tg
noncomputable def fx_spl (n : Nat) : List fx_V → List fx_V → Option (List fx_V × List fx_V) := Nat.rec (motive := fun _ => List fx_V → List fx_V → Option (List fx_V × List fx_V)) (fun st acc => some (acc, st)) (fun _ ih st acc => match st with
  | v :: st' => ih st' (v :: acc)
  | [] => none) n
/-- the locals of a method that begins -/
noncomputable def fx_args (as : List fx_V) : Nat → List fx_V := List.rec (motive := fun _ => Nat → List fx_V) (fun n => List.replicate n (3, 0)) (fun v _ ih n => bif Nat.beq v.1 1 then v :: (3, 0) :: ih (n - 2) else v :: ih (n - 1)) as
noncomputable def fx_s1 (NX : fx_N) (pc o i j na : Nat) (lv st : List fx_V) (F : fx_F) : Prop :=
  bif Nat.ble o 3 then (match rx_nth lv i with
    | some v => bif Nat.beq v.1 (bif Nat.beq o 1 then 0 else bif Nat.beq o 2 then 2 else 1) then NX (Nat.add pc j) lv (v :: st) F else True
    | none => True)
  else bif Nat.ble o 5 then (match st with
    | v :: st' => NX (Nat.add pc j) (fx_put lv i v) st' F
    | [] => True)
  else bif Nat.beq o 6 then (match st with
    | v :: st' => NX (Nat.add pc j) (rx_upd (fx_put lv i v) (Nat.succ i) (3, 0)) st' F
    | [] => True)
  else bif Nat.beq o 7 then NX (Nat.add pc j) lv ((bif Nat.beq i 0 then (0, na) else (Nat.mod na 4, Nat.div na 4)) :: st) F
  else bif Nat.beq o 8 then NX (Nat.add pc j) lv ((1, na) :: st) F
  else bif Nat.beq o 9 then (match rx_nth lv i with
    | some v => bif Nat.beq v.1 0 then NX (Nat.add pc 3) (fx_put lv i (0, i_add v.2 na)) st F else True
    | none => True)
  else (match st with
    | y :: x :: st' => fx_bp i (fun z => NX (Nat.add pc 1) lv ((0, z) :: st') F) x.2 y.2
    | _ => True)
noncomputable def fx_s2 (NX : fx_N) (pc o i na : Nat) (tg : List Nat) (lv st : List fx_V) (F : fx_F) : Prop :=
  bif Nat.beq o 18 then NX na lv st F
  else (match st with
    | [] => True
    | x :: st1 =>
      bif Nat.beq o 11 then NX (Nat.add pc 1) lv ((0, bif Nat.beq i 0 then i_neg x.2 else i_2b x.2) :: st1) F
      else bif Nat.beq o 15 then NX (Nat.add pc 1) lv (x :: x :: st1) F
      else bif Nat.beq o 16 then NX (Nat.add pc 1) lv st1 F
      else bif Nat.beq o 19 then (fx_c i x.2 0 → NX na lv st1 F) ∧ (fx_c (ax_not i) x.2 0 → NX (Nat.add pc 3) lv st1 F)
      else bif Nat.beq o 21 then ((x.2 < i ∨ Nat.add i (rx_len tg) ≤ x.2) → NX na lv st1 F) ∧ fx_sw (fun t => NX t lv st1 F) x.2 tg i
      else (match st1 with
        | [] => True
        | x2 :: st2 =>
          bif Nat.beq o 12 then NX (Nat.add pc 1) lv ((1, fx_j i x2.2 x.2) :: st2) F
          else bif Nat.beq o 13 then NX (Nat.add pc 1) lv ((1, bif Nat.beq i 0 then rx_j_shl x2.2 x.2 else rx_j_shr x2.2 x.2) :: st2) F
          else bif Nat.beq o 14 then NX (Nat.add pc 1) lv ((0, rx_f_lcmp x2.2 x.2) :: st2) F
          else bif Nat.beq o 17 then NX (Nat.add pc 1) lv (x :: x2 :: x :: x2 :: st2) F
          else (fx_c i x2.2 x.2 → NX na lv st2 F) ∧ (fx_c (ax_not i) x2.2 x.2 → NX (Nat.add pc 3) lv st2 F)))
noncomputable def fx_s3 (w : ax_W) (FK : List (List Nat)) (FZ : List (List (Nat × Nat))) (NX : fx_N) (pc o i na nb : Nat) (lv st : List fx_V) (F : fx_F) : Prop := match st with
  | [] => True
  | x :: st1 =>
    bif Nat.beq o 22 then NX (Nat.add pc 3) lv (fx_gv FK (fx_fz FZ na nb) na nb x.2 F :: st1) F
    else bif Nat.beq o 24 && Nat.beq i 0 then NX (Nat.add pc 1) lv ((0, fx_len w x.2) :: st1) F
    else (match st1 with
      | [] => True
      | x2 :: st2 =>
        bif Nat.beq o 23 then NX (Nat.add pc 3) lv st2 (fu F x2.2 nb x.2)
        else bif Nat.beq o 24 then NX (Nat.add pc 1) lv ((bif Nat.beq i 14 then 1 else bif Nat.beq i 16 then 2 else 0, F x2.2 x.2) :: st2) F
        else (match st2 with
          | [] => True
          | x3 :: st3 => NX (Nat.add pc 1) lv st3 (fu F x3.2 x2.2 x.2)))
noncomputable def fx_go1 (w : ax_W) (FK : List (List Nat)) (FZ : List (List (Nat × Nat))) (NX : fx_N) (x : ax_I) (pc : Nat) (lv st : List fx_V) (F : fx_F) : Prop :=
  bif Nat.ble x.2.1 10 then fx_s1 NX pc x.2.1 x.2.2.1 x.2.2.2.1 x.2.2.2.2.1 lv st F else bif Nat.ble x.2.1 21 then fx_s2 NX pc x.2.1 x.2.2.1 x.2.2.2.2.1 x.2.2.2.2.2.2 lv st F else fx_s3 w FK FZ NX pc x.2.1 x.2.2.1 x.2.2.2.2.1 x.2.2.2.2.2.1 lv st F
abbrev fx_C : Type := Nat → List fx_V → fx_F → fx_V → fx_F → Prop
noncomputable def fx_cl2 (NX : fx_N) (C : fx_C) (na rk pc : Nat) (lv : List fx_V) (F : fx_F) (q : Option (List fx_V × List fx_V)) : Prop := match q with
  | some (as, rest) => (bif Nat.beq rk 0 then ∃ F' : fx_F, C na as F (2, 0) F' ∧ NX (Nat.add pc 3) lv rest F' else ∃ (n : Nat) (F' : fx_F), C na as F (bif Nat.beq rk 3 then 1 else bif Nat.beq rk 4 then 2 else 0, n) F' ∧ NX (Nat.add pc 3) lv ((bif Nat.beq rk 3 then 1 else bif Nat.beq rk 4 then 2 else 0, n) :: rest) F')
  | none => True
/-- a word's length, a letter: some int -/
noncomputable def fx_str (NX : fx_N) (nb pc : Nat) (lv st : List fx_V) (F : fx_F) : Prop := match st with
  | [] => True
  | _ :: st1 => bif Nat.beq nb 13 then ∃ n : Nat, NX (Nat.add pc 3) lv ((0, n) :: st1) F else (match st1 with
    | [] => True
    | _ :: st2 => ∃ n : Nat, NX (Nat.add pc 3) lv ((0, n) :: st2) F)
/-- calls and returns -/
noncomputable def fx_go2 (SG : List (Nat × Nat × Nat)) (NX : fx_N) (C : fx_C) (R : fx_V → fx_F → Prop) (x : ax_I) (pc : Nat) (lv st : List fx_V) (F : fx_F) : Prop :=
  bif Nat.ble x.2.1 29 then (match st with
    | [] => R (2, 0) F
    | v :: _ => R v F)
  else bif Nat.beq x.2.2.2.2.2.1 2 then (match st with
    | _ :: _ :: d :: _ :: q :: st' => NX (Nat.add pc 3) lv st' (fcp F q.2 d.2)
    | _ => True)
  else bif Nat.beq x.2.2.2.2.2.1 1 then True
  else bif Nat.beq (Nat.mod x.2.2.2.2.2.1 4) 1 then (bif Nat.beq x.2.1 31 then (match st with
    | y :: z :: st' => NX (Nat.add pc 3) lv ((0, bif Nat.beq x.2.2.2.2.2.1 5 then i_max z.2 y.2 else i_min z.2 y.2) :: st') F
    | _ => True) else fx_str NX x.2.2.2.2.2.1 pc lv st F)
  else (match rx_nth SG x.2.2.2.2.1 with
    | some s => fx_cl2 NX C x.2.2.2.2.1 s.2.1 pc lv F (fx_spl (bif Nat.beq x.2.1 31 then s.1 else Nat.succ s.1) st [])
    | none => True)
noncomputable def fx_go (w : ax_W) (FK : List (List Nat)) (FZ : List (List (Nat × Nat))) (SG : List (Nat × Nat × Nat)) (NX : fx_N) (C : fx_C) (R : fx_V → fx_F → Prop) (x : ax_I) (pc : Nat) (lv st : List fx_V) (F : fx_F) : Prop := bif Nat.ble x.2.1 25 then fx_go1 w FK FZ NX x pc lv st F else fx_go2 SG NX C R x pc lv st F
noncomputable def fx_mask (m : List Nat) (lv : List fx_V) : List fx_V := List.rec (motive := fun _ => List fx_V → List fx_V) (fun lv => lv) (fun b _ ih lv => match lv with
  | [] => []
  | v :: t => (bif Nat.beq b 0 then (3, 0) else v) :: ih t) m lv
noncomputable def fx_hd (hd : List (Nat × List Nat)) (pc : Nat) : Option (List Nat) := List.rec (motive := fun _ => Option (List Nat)) none (fun x _ ih => bif Nat.beq x.1 pc then some x.2 else ih) hd
noncomputable def fx_nx (hd : List (Nat × List Nat)) (G NX : fx_N) (pc : Nat) (lv st : List fx_V) (F : fx_F) : Prop := match fx_hd hd pc with
  | some m => G pc (fx_mask m lv) st F
  | none => NX pc lv st F
/-- k instructions on, or up to the next places told -/
noncomputable def fx_P (w : ax_W) (FK : List (List Nat)) (FZ : List (List (Nat × Nat))) (SG : List (Nat × Nat × Nat)) (cd : List (List ax_I)) (hd : List (Nat × List Nat)) (C : fx_C) (G : fx_N) (R : fx_V → fx_F → Prop) (k : Nat) : fx_N := Nat.rec (motive := fun _ => fx_N) (fun _ _ _ _ => True) (fun _ ih pc lv st F => match ax_lookI cd pc with
  | some x => fx_go w FK FZ SG (fx_nx hd G ih) C R x x.1 lv st F
  | none => True) k
