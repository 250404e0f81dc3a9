section
/-! An abstract interpreter over the interpreter, for the kernel to run. Values are codes as before; 4 k + 3 is the k-th symbol, of which a type is known. -/
/-- a type: 0: an int between two numbers (each 2^31 more); 1: a long; 2: a reference into a region; 3: this value alone -/
abbrev ax_Y : Type := Nat × Nat × Nat
/-- the world: the region of each place; of each region the kind of its cells, their length, and types from an index on; of each named fact the (region, index) it stands on (index 999: all) -/
abbrev ax_W : Type := List Nat × List (Nat × Nat × List (Nat × ax_Y)) × List (List (Nat × Nat))
/-- a named fact: its name, and the values that it speaks of -/
abbrev ax_N : Type := Nat × List Nat
/-- what is known: how many symbols, their types (the newest first), contents of cells (reference, index, value), sums (p, q, r: p + q = r), named facts -/
abbrev ax_E : Type := Nat × List ax_Y × List (Nat × Nat × Nat) × List (Nat × Nat × Nat) × List ax_N
/-- what names stand for -/
abbrev ax_X : Type := Nat → List Nat → rx_H → Prop
/-- pc, locals, stack, what is known -/
abbrev ax_A : Type := Nat × List Nat × List Nat × ax_E
noncomputable def ax_n (E : ax_E) : Nat := E.1
noncomputable def ax_ty (E : ax_E) : List ax_Y := E.2.1
noncomputable def ax_fs (E : ax_E) : List (Nat × Nat × Nat) := E.2.2.1
noncomputable def ax_df (E : ax_E) : List (Nat × Nat × Nat) := E.2.2.2.1
noncomputable def ax_xf (E : ax_E) : List ax_N := E.2.2.2.2
/-- the type of a value -/
noncomputable def ax_typ (E : ax_E) (v : Nat) : Option ax_Y :=
  bif Nat.beq (rx_tk v) 3 then (bif Nat.blt (rx_pl v) (ax_n E) then rx_nth (ax_ty E) (Nat.sub (Nat.sub (ax_n E) 1) (rx_pl v)) else none)
  else bif Nat.beq (rx_tk v) 0 then (bif Nat.blt (rx_pl v) 4294967296 then some (0, rx_bi (rx_pl v), rx_bi (rx_pl v)) else none)
  else bif Nat.beq (rx_tk v) 1 then some (1, 0, 0) else some (3, v, v)
noncomputable def ax_iv (E : ax_E) (v : Nat) : Option (Nat × Nat) := match ax_typ E v with
  | some t => bif Nat.beq t.1 0 then some t.2 else none
  | none => none
/-- the region of a reference -/
noncomputable def ax_rg (w : ax_W) (E : ax_E) (v : Nat) : Option Nat := match ax_typ E v with
  | some t => bif Nat.beq t.1 2 then some t.2.1 else bif Nat.beq t.1 3 && (Nat.beq (rx_tk t.2.1) 2 && (Nat.ble 2 (rx_pl t.2.1) && Nat.blt (rx_pl t.2.1) 258)) then rx_nth w.1 (Nat.sub (rx_pl t.2.1) 2) else none
  | none => none
noncomputable def ax_sym (k : Nat) : Nat := Nat.add (Nat.mul 4 k) 3
/-- a new symbol -/
noncomputable def ax_new (E : ax_E) (t : ax_Y) : ax_E := (Nat.succ E.1, t :: E.2.1, E.2.2)
/-- a value of a type: a constant if it can only be one -/
noncomputable def ax_val (E : ax_E) (t : ax_Y) : Nat × ax_E :=
  bif Nat.beq t.1 0 && Nat.beq t.2.1 t.2.2 then (rx_int (rx_bi t.2.1), E)
  else bif Nat.beq t.1 3 then (t.2.1, E)
  else (ax_sym (ax_n E), ax_new E t)
noncomputable def ax_addF (E : ax_E) (f : Nat × Nat × Nat) : ax_E := (E.1, E.2.1, f :: E.2.2.1, E.2.2.2)
noncomputable def ax_addD (E : ax_E) (d : Nat × Nat × Nat) : ax_E := (E.1, E.2.1, E.2.2.1, d :: E.2.2.2.1, E.2.2.2.2)
noncomputable def ax_addX (E : ax_E) (x : ax_N) : ax_E := (E.1, E.2.1, E.2.2.1, E.2.2.2.1, x :: E.2.2.2.2)
/-- the type from an index on -/
noncomputable def ax_at (l : List (Nat × ax_Y)) (i : Nat) : Option ax_Y := List.rec (motive := fun _ => Option ax_Y) none (fun x _ ih => match ih with
  | some t => some t
  | none => bif Nat.ble x.1 i then some x.2 else none) l
noncomputable def ax_min (a b : Nat) : Nat := bif Nat.ble a b then a else b
noncomputable def ax_max (a b : Nat) : Nat := bif Nat.ble a b then b else a
noncomputable def ax_eqY (s t : ax_Y) : Bool := Nat.beq s.1 t.1 && (Nat.beq s.2.1 t.2.1 && Nat.beq s.2.2 t.2.2)
noncomputable def ax_join (s t : ax_Y) : Option ax_Y := bif Nat.beq s.1 0 && Nat.beq t.1 0 then some (0, ax_min s.2.1 t.2.1, ax_max s.2.2 t.2.2) else bif ax_eqY s t then some s else none
/-- a type of all that lies between two indices -/
noncomputable def ax_hull (l : List (Nat × ax_Y)) (a b : Nat) : Option ax_Y := List.rec (motive := fun _ => Option ax_Y) (ax_at l a) (fun x _ ih => bif Nat.blt a x.1 && Nat.ble x.1 b then (match ih with
  | some t => ax_join x.2 t
  | none => none) else ih) l
/-- whatever is of type t is of type s -/
noncomputable def ax_sub (w : ax_W) (t s : ax_Y) : Bool :=
  bif Nat.beq s.1 0 then Nat.beq t.1 0 && (Nat.ble s.2.1 t.2.1 && Nat.ble t.2.2 s.2.2)
  else bif Nat.beq s.1 1 then Nat.beq t.1 1
  else bif Nat.beq s.1 2 then (bif Nat.beq t.1 2 then Nat.beq t.2.1 s.2.1 else Nat.beq t.1 3 && (Nat.beq (rx_tk t.2.1) 2 && (Nat.ble 2 (rx_pl t.2.1) && (Nat.blt (rx_pl t.2.1) 258 && (match rx_nth w.1 (Nat.sub (rx_pl t.2.1) 2) with
    | some g => Nat.beq g s.2.1
    | none => false)))))
  else Nat.beq s.1 3 && (Nat.beq t.1 3 && Nat.beq t.2.1 s.2.1)
/-- whatever is of type t may lie at all indices between two -/
noncomputable def ax_fits (w : ax_W) (t : ax_Y) (l : List (Nat × ax_Y)) (a b : Nat) : Bool := (match ax_at l a with
  | some s => ax_sub w t s
  | none => false) && l.all (fun x => !(Nat.blt a x.1 && Nat.ble x.1 b) || ax_sub w t x.2)
/-- what is known of a cell's content -/
noncomputable def ax_get (fs : List (Nat × Nat × Nat)) (a i : Nat) : Option Nat := List.rec (motive := fun _ => Option Nat) none (fun x _ ih => bif Nat.beq x.1 a && Nat.beq x.2.1 i then some x.2.2 else ih) fs
noncomputable def ax_cst (v : Nat) : Bool := !(Nat.beq (rx_tk v) 3)
/-- two cells are not the same one -/
noncomputable def ax_apart (w : ax_W) (E : ax_E) (a b : Nat) : Bool := (ax_cst a && (ax_cst b && !(Nat.beq a b))) || (match ax_rg w E a, ax_rg w E b with
  | some g, some h => !(Nat.beq g h)
  | _, _ => false)
/-- behind a write to cell a at index i -/
noncomputable def ax_kill (w : ax_W) (E : ax_E) (a i : Nat) : List (Nat × Nat × Nat) := (ax_fs E).filter (fun x => (ax_cst i && (ax_cst x.2.1 && !(Nat.beq i x.2.1))) || ax_apart w E a x.1)
/-- an index (of a region) is one of these -/
noncomputable def ax_mem (md : List (Nat × Nat)) (g i : Nat) : Bool := md.any (fun x => Nat.beq x.1 g && (Nat.beq x.2 i || Nat.beq x.2 999))
/-- named facts that stand on nothing that is written (1000 and on: on no cell at all; 500 and on: on all) -/
noncomputable def ax_xkill (w : ax_W) (xf : List ax_N) (md : List (Nat × Nat)) : List ax_N := xf.filter (fun x => (Nat.ble 1000 x.1 && Nat.blt x.1 1200) || (Nat.blt x.1 500 && (match rx_nth w.2.2 x.1 with
  | some dl => dl.all (fun d => !(md.any (fun y => Nat.beq y.1 d.1 && (Nat.beq y.2 d.2 || (Nat.beq y.2 999 || Nat.beq d.2 999)))))
  | none => false)))
/-- facts that were told of the heap behind this write -/
noncomputable def ax_wx1 (a i v : Nat) (x : ax_N) : List ax_N := bif Nat.ble 500 x.1 && Nat.blt x.1 1000 then (match x.2 with
  | b :: j :: u :: r => bif Nat.beq a b && (Nat.beq i j && Nat.beq v u) then [(Nat.sub x.1 500, r)] else []
  | _ => []) else []
noncomputable def ax_wx (xf : List ax_N) (a i v : Nat) : List ax_N := List.rec (motive := fun _ => List ax_N) [] (fun x _ ih => ax_wx1 a i v x ++ ih) xf
noncomputable def ax_idx (i : Nat) : Nat := bif ax_cst i then rx_pl i else 999
/-- cell a (of region g) is written at i with v -/
noncomputable def ax_wr (w : ax_W) (E : ax_E) (g a i v : Nat) : ax_E := (E.1, E.2.1, (a, i, v) :: ax_kill w E a i, ax_df E, ax_wx (ax_xf E) a i v ++ ax_xkill w (ax_xf E) [(g, ax_idx i)])
-- numbers
noncomputable def ax_full : Nat × Nat := (0, 4294967295)
noncomputable def ax_ge (a : Nat) : Bool := Nat.ble 2147483648 a
noncomputable def ax_b_add (x y : Nat × Nat) : Nat × Nat := bif Nat.ble 2147483648 (Nat.add x.1 y.1) && Nat.blt (Nat.add x.2 y.2) 6442450944 then (Nat.sub (Nat.add x.1 y.1) 2147483648, Nat.sub (Nat.add x.2 y.2) 2147483648) else ax_full
noncomputable def ax_b_sub (x y : Nat × Nat) : Nat × Nat := bif Nat.ble y.2 (Nat.add x.1 2147483648) && Nat.blt (Nat.add x.2 2147483648) (Nat.add y.1 4294967296) then (Nat.sub (Nat.add x.1 2147483648) y.2, Nat.sub (Nat.add x.2 2147483648) y.1) else ax_full
noncomputable def ax_b_mul (x y : Nat × Nat) : Nat × Nat := bif ax_ge x.1 && (ax_ge y.1 && Nat.blt (Nat.mul (Nat.sub x.2 2147483648) (Nat.sub y.2 2147483648)) 2147483648) then (Nat.add (Nat.mul (Nat.sub x.1 2147483648) (Nat.sub y.1 2147483648)) 2147483648, Nat.add (Nat.mul (Nat.sub x.2 2147483648) (Nat.sub y.2 2147483648)) 2147483648) else ax_full
noncomputable def ax_b_and (x y : Nat × Nat) : Nat × Nat := bif ax_ge y.1 then (2147483648, y.2) else bif ax_ge x.1 then (2147483648, x.2) else ax_full
noncomputable def ax_b_shr (x y : Nat × Nat) : Nat × Nat := bif ax_ge x.1 && (Nat.beq y.1 y.2 && (ax_ge y.1 && Nat.blt y.1 2147483680)) then (Nat.add (Nat.div (Nat.sub x.1 2147483648) (Nat.pow 2 (Nat.sub y.1 2147483648))) 2147483648, Nat.add (Nat.div (Nat.sub x.2 2147483648) (Nat.pow 2 (Nat.sub y.1 2147483648))) 2147483648) else ax_full
noncomputable def ax_n0 (y : Nat × Nat) : Bool := Nat.blt 2147483648 y.1 || Nat.blt y.2 2147483648
noncomputable def ax_b_div (x y : Nat × Nat) : Option (Nat × Nat) := bif ax_ge x.1 && Nat.blt 2147483648 y.1 then some (Nat.add (Nat.div (Nat.sub x.1 2147483648) (Nat.sub y.2 2147483648)) 2147483648, Nat.add (Nat.div (Nat.sub x.2 2147483648) (Nat.sub y.1 2147483648)) 2147483648) else bif ax_n0 y then some ax_full else none
noncomputable def ax_b_rem (x y : Nat × Nat) : Option (Nat × Nat) := bif ax_ge x.1 && Nat.blt 2147483648 y.1 then some (2147483648, ax_min x.2 (Nat.pred y.2)) else bif ax_n0 y then some ax_full else none
/-- 0 add, 1 sub, 2 mul, 3 and, 4 or, 5 xor, 6 shl, 7 shr, 8 ushr, 9 div, 10 rem -/
noncomputable def ax_bop (o : Nat) (x y : Nat × Nat) : Option (Nat × Nat) :=
  bif Nat.beq o 0 then some (ax_b_add x y) else bif Nat.beq o 1 then some (ax_b_sub x y) else bif Nat.beq o 2 then some (ax_b_mul x y) else bif Nat.beq o 3 then some (ax_b_and x y)
  else bif Nat.beq o 7 then some (ax_b_shr x y) else bif Nat.beq o 9 then ax_b_div x y else bif Nat.beq o 10 then ax_b_rem x y else bif Nat.ble o 8 then some ax_full else none
/-- whether a sum, a difference is exact -/
noncomputable def ax_exact (o : Nat) (x y : Nat × Nat) : Bool := bif Nat.beq o 0 then Nat.ble 2147483648 (Nat.add x.1 y.1) && Nat.blt (Nat.add x.2 y.2) 6442450944 else Nat.beq o 1 && (Nat.ble y.2 (Nat.add x.1 2147483648) && Nat.blt (Nat.add x.2 2147483648) (Nat.add y.1 4294967296))
/-- a sum or difference that is known already -/
noncomputable def ax_vn (df : List (Nat × Nat × Nat)) (o x y : Nat) : Option Nat := List.rec (motive := fun _ => Option Nat) none (fun d _ ih => bif Nat.beq o 0 then (bif Nat.beq d.1 x && Nat.beq d.2.1 y then some d.2.2 else ih) else (bif Nat.beq d.2.1 y && Nat.beq d.2.2 x then some d.1 else ih)) df
/-- a number of two that is known already -/
noncomputable def ax_vx1 (l : List Nat) (x y : Nat) (z : Option Nat) : Option Nat := match l with
  | [p, q, r] => bif Nat.beq p x && Nat.beq q y then some r else z
  | _ => z
noncomputable def ax_vx (xf : List ax_N) (o x y : Nat) : Option Nat := List.rec (motive := fun _ => Option Nat) none (fun n _ ih => bif Nat.beq n.1 (Nat.add 1000 o) then ax_vx1 n.2 x y ih else ih) xf
noncomputable def ax_bin2 (E : ax_E) (o x y : Nat) (ex : Bool) (q : Nat × ax_E) : Nat × ax_E := bif ex then (q.1, ax_addD q.2 (bif Nat.beq o 0 then (x, y, q.1) else (q.1, y, x))) else bif ax_cst q.1 then q else (q.1, ax_addX q.2 (Nat.add 1000 o, [x, y, q.1]))
noncomputable def ax_bin1 (E : ax_E) (o x y : Nat) (ix iy : Nat × Nat) : Option (Nat × ax_E) := match ax_bop o ix iy with
  | some r => some (ax_bin2 E o x y (ax_exact o ix iy) (ax_val E (0, r)))
  | none => none
/-- a number of two -/
noncomputable def ax_bin (E : ax_E) (o x y : Nat) : Option (Nat × ax_E) := match ax_iv E x, ax_iv E y with
  | some ix, some iy => (bif Nat.ble o 1 then (match ax_vn (ax_df E) o x y with
    | some z => some (z, E)
    | none => ax_bin1 E o x y ix iy) else (match ax_vx (ax_xf E) o x y with
    | some z => some (z, E)
    | none => ax_bin1 E o x y ix iy))
  | _, _ => none
-- refinements: none says that it can't be
noncomputable def ax_setT (E : ax_E) (k : Nat) (t : ax_Y) : ax_E := (E.1, rx_upd E.2.1 (Nat.sub (Nat.sub E.1 1) k) t, E.2.2)
noncomputable def ax_ref2 (E : ax_E) (v : Nat) (a b : Nat) : Option ax_E := bif Nat.ble a b then some (bif Nat.beq (rx_tk v) 3 then ax_setT E (rx_pl v) (0, a, b) else E) else none
noncomputable def ax_ref1 (E : ax_E) (v lo hi : Nat) : Option ax_E := match ax_iv E v with
  | some i => ax_ref2 E v (ax_max i.1 lo) (ax_min i.2 hi)
  | none => some E
noncomputable def ax_bind (o : Option ax_E) (f : ax_E → Option ax_E) : Option ax_E := match o with
  | some E => f E
  | none => none
noncomputable def ax_tri1 (E : ax_E) (p q r : Nat) : Option ax_E := match ax_iv E p, ax_iv E q, ax_iv E r with
  | some ip, some iq, some ir => ax_bind (ax_ref1 E p (Nat.sub (Nat.add ir.1 2147483648) iq.2) (Nat.sub (Nat.add ir.2 2147483648) iq.1)) (fun E1 => ax_bind (ax_ref1 E1 q (Nat.sub (Nat.add ir.1 2147483648) ip.2) (Nat.sub (Nat.add ir.2 2147483648) ip.1)) (fun E2 => ax_ref1 E2 r (Nat.sub (Nat.add ip.1 iq.1) 2147483648) (Nat.sub (Nat.add ip.2 iq.2) 2147483648)))
  | _, _, _ => some E
noncomputable def ax_prop (E : ax_E) (v : Nat) : Option ax_E := List.rec (motive := fun _ => Option ax_E) (some E) (fun d _ ih => ax_bind ih (fun E1 => bif Nat.beq d.1 v || (Nat.beq d.2.1 v || Nat.beq d.2.2 v) then ax_tri1 E1 d.1 d.2.1 d.2.2 else some E1)) (ax_df E)
noncomputable def ax_refine (E : ax_E) (v lo hi : Nat) : Option ax_E := bif Nat.beq (rx_tk v) 3 then ax_bind (ax_ref1 E v lo hi) (fun E1 => ax_prop E1 v) else ax_ref1 E v lo hi
/-- x + s ≤ y -/
noncomputable def ax_asLe (E : ax_E) (x y s : Nat) : Option ax_E := match ax_iv E x, ax_iv E y with
  | some ix, some iy => bif Nat.ble s iy.2 then ax_bind (ax_refine E x 0 (Nat.sub iy.2 s)) (fun E1 => ax_refine E1 y (Nat.add ix.1 s) 4294967295) else none
  | _, _ => some E
noncomputable def ax_asEq (E : ax_E) (x y : Nat) : Option ax_E := match ax_iv E x, ax_iv E y with
  | some ix, some iy => ax_bind (ax_refine E x iy.1 iy.2) (fun E1 => ax_refine E1 y ix.1 ix.2)
  | _, _ => some E
noncomputable def ax_lst (o : Option ax_E) : List ax_E := match o with
  | some E => [E]
  | none => []
noncomputable def ax_ne1 (E : ax_E) (x c : Nat) : List ax_E := (bif Nat.blt 0 c then ax_lst (ax_refine E x 0 (Nat.pred c)) else []) ++ ax_lst (ax_refine E x (Nat.succ c) 4294967295)
noncomputable def ax_asNe (E : ax_E) (x y : Nat) : List ax_E := match ax_iv E x, ax_iv E y with
  | some ix, some iy => bif Nat.beq iy.1 iy.2 then ax_ne1 E x iy.1 else bif Nat.beq ix.1 ix.2 then ax_ne1 E y ix.1 else [E]
  | _, _ => [E]
/-- a condition holds, or doesn't: 0 eq, 1 ne, 2 lt, 3 ge, 4 gt, 5 le -/
noncomputable def ax_yes (E : ax_E) (k x y : Nat) : List ax_E := bif Nat.beq k 0 then ax_lst (ax_asEq E x y) else bif Nat.beq k 1 then ax_asNe E x y else bif Nat.beq k 2 then ax_lst (ax_asLe E x y 1) else bif Nat.beq k 3 then ax_lst (ax_asLe E y x 0) else bif Nat.beq k 4 then ax_lst (ax_asLe E y x 1) else ax_lst (ax_asLe E x y 0)
noncomputable def ax_not (k : Nat) : Nat := bif Nat.beq k 0 then 1 else bif Nat.beq k 1 then 0 else bif Nat.beq k 2 then 3 else bif Nat.beq k 3 then 2 else bif Nat.beq k 4 then 5 else 4
noncomputable def ax_isK (E : ax_E) (k v : Nat) : Bool := match ax_typ E v with
  | some t => Nat.beq t.1 k
  | none => false
noncomputable def ax_isR (E : ax_E) (v : Nat) : Bool := match ax_typ E v with
  | some t => Nat.beq t.1 2 || (Nat.beq t.1 3 && (Nat.beq (rx_tk t.2.1) 2 && Nat.blt 0 (rx_pl t.2.1)))
  | none => false
noncomputable def ax_low (E : ax_E) (lv : List Nat) (i : Nat) : List Nat := Nat.casesOn i lv (fun j => match rx_nth lv j with
  | some v => bif ax_isK E 1 v then rx_upd lv j 2 else lv
  | none => lv)
noncomputable def ax_args (E : ax_E) (as : List Nat) : Nat → List Nat := List.rec (motive := fun _ => Nat → List Nat) (fun n => List.replicate n 2) (fun v _ ih n => bif ax_isK E 1 v then v :: 2 :: ih (n - 2) else v :: ih (n - 1)) as
noncomputable def ax_cat (E : ax_E) (st : List Nat) : Nat := List.rec (motive := fun _ => Nat) 0 (fun v _ n => bif ax_isK E 1 v then Nat.add n 2 else Nat.succ n) st
noncomputable def ax_psh (pc : Nat) (lv st : List Nat) (q : Option (Nat × ax_E)) : Option (List ax_A) := match q with
  | some (v, E) => some [(pc, lv, v :: st, E)]
  | none => none
/-- content of a cell is read -/
noncomputable def ax_rd (w : ax_W) (E : ax_E) (a i : Nat) (t : Option ax_Y) : Option (Nat × ax_E) := match ax_get (ax_fs E) a i with
  | some v => some (v, E)
  | none => (match t with
    | some y => some ((ax_val E y).1, ax_addF (ax_val E y).2 (a, i, (ax_val E y).1))
    | none => none)
noncomputable def ax_h_gf (w : ax_W) (pc na nb : Nat) (lv st : List Nat) (E : ax_E) : Option (List ax_A) := match st with
  | a :: st' => (match ax_rg w E a with
    | some g => (match rx_nth w.2.1 g with
      | some (k, n, l) => bif Nat.beq k na && Nat.blt nb n then ax_psh (Nat.add pc 3) lv st' (ax_rd w E a (rx_int nb) (ax_at l nb)) else none
      | none => none)
    | none => none)
  | [] => none
noncomputable def ax_h_pf (w : ax_W) (K : rx_K) (md : List (Nat × Nat)) (pc na nb : Nat) (lv st : List Nat) (E : ax_E) : Option (List ax_A) := match st with
  | v :: a :: st' => (match ax_rg w E a, ax_typ E v with
    | some g, some t => (match rx_nth w.2.1 g with
      | some (k, n, l) => bif Nat.beq k na && (Nat.blt nb n && (ax_fits w t l nb nb && ax_mem md g nb)) then (match rx_nth K.2 na with
        | some ks => (match rx_nth ks nb with
          | some kd => bif (Nat.beq kd 0 && Nat.beq t.1 0) || ((Nat.beq kd 1 && (Nat.beq t.1 0 && (Nat.ble 2147483648 t.2.1 && Nat.ble t.2.2 2147483649))) || (Nat.beq kd 2 && ax_isR E v)) then some [(Nat.add pc 3, lv, st', ax_wr w E g a (rx_int nb) v)] else none
          | none => none)
        | none => none) else none
      | none => none)
    | _, _ => none)
  | _ => none
noncomputable def ax_inr (i : Nat × Nat) (n : Nat) : Bool := ax_ge i.1 && Nat.blt i.2 (Nat.add n 2147483648)
noncomputable def ax_kok (o k : Nat) : Bool := bif Nat.beq o 12 then Nat.beq k 12 || Nat.beq k 15 else Nat.beq o k
/-- an array is read; o: 13 ints, 12 bytes and booleans, 14 longs, 16 references -/
noncomputable def ax_h_ald (w : ax_W) (o pc : Nat) (lv st : List Nat) (E : ax_E) : Option (List ax_A) := match st with
  | i :: a :: st' => (match ax_rg w E a, ax_iv E i with
    | some g, some q => (match rx_nth w.2.1 g with
      | some (k, n, l) => bif ax_kok o k && (ax_inr q n && Nat.blt n 100000) then ax_psh (Nat.add pc 1) lv st' (ax_rd w E a i (ax_hull l (Nat.sub q.1 2147483648) (Nat.sub q.2 2147483648))) else none
      | none => none)
    | _, _ => none)
  | _ => none
noncomputable def ax_h_alen (w : ax_W) (pc : Nat) (lv st : List Nat) (E : ax_E) : Option (List ax_A) := match st with
  | a :: st' => (match ax_rg w E a with
    | some g => (match rx_nth w.2.1 g with
      | some (k, n, _) => bif Nat.beq k 13 && Nat.blt n 100000 then some [(Nat.add pc 1, lv, rx_int n :: st', E)] else none
      | none => none)
    | none => none)
  | [] => none
noncomputable def ax_aok (w : ax_W) (o k : Nat) (t : ax_Y) (E : ax_E) (v : Nat) : Bool :=
  bif Nat.beq o 13 then Nat.beq k 13 && Nat.beq t.1 0
  else bif Nat.beq o 12 then Nat.beq t.1 0 && ((Nat.beq k 12 && (Nat.ble 2147483520 t.2.1 && Nat.ble t.2.2 2147483775)) || (Nat.beq k 15 && (Nat.ble 2147483648 t.2.1 && Nat.ble t.2.2 2147483649)))
  else bif Nat.beq o 14 then Nat.beq k 14 && Nat.beq t.1 1
  else Nat.beq o 16 && (Nat.beq k 16 && (match ax_rg w E v with
    | some g => (match rx_nth w.2.1 g with
      | some z => Nat.beq z.1 7
      | none => false)
    | none => false))
noncomputable def ax_h_ast (w : ax_W) (md : List (Nat × Nat)) (o pc : Nat) (lv st : List Nat) (E : ax_E) : Option (List ax_A) := match st with
  | v :: i :: a :: st' => (match ax_rg w E a, ax_iv E i, ax_typ E v with
    | some g, some q, some t => (match rx_nth w.2.1 g with
      | some (k, n, l) => bif ax_aok w o k t E v && (ax_inr q n && (Nat.blt n 100000 && (ax_fits w t l (Nat.sub q.1 2147483648) (Nat.sub q.2 2147483648) && ax_mem md g (ax_idx i)))) then some [(Nat.add pc 1, lv, st', ax_wr w E g a i v)] else none
      | none => none)
    | _, _, _ => none)
  | _ => none
-- an instruction: pc, number, two of its own, two notes, where a switch goes
abbrev ax_I : Type := Nat × Nat × Nat × Nat × Nat × Nat × List Nat
noncomputable def ax_nJ (E : ax_E) (v : Nat) : Bool := match ax_typ E v with
  | some t => !(Nat.beq t.1 1)
  | none => false
noncomputable def ax_put (E : ax_E) (lv : List Nat) (i v : Nat) : List Nat := rx_upd (ax_low E lv i) i v
/-- how two numbers stand to each other is kept if neither is a constant -/
noncomputable def ax_cmp (E : ax_E) (k x y : Nat) : ax_E := bif ax_cst x || ax_cst y then E else ax_addX E (Nat.add 1020 k, [x, y])
noncomputable def ax_two (l : List Nat) (x y : Nat) : Bool := match l with
  | [a, b] => Nat.beq a x && Nat.beq b y
  | _ => false
/-- it is known how two numbers stand to each other -/
noncomputable def ax_hasc (xf : List ax_N) (k x y : Nat) : Bool := xf.any (fun n => Nat.beq n.1 (Nat.add 1020 k) && ax_two n.2 x y)
noncomputable def ax_ye2 (E : ax_E) (k x y : Nat) : List ax_E := bif ax_cst x || ax_cst y then ax_yes E k x y else bif ax_hasc (ax_xf E) (ax_not k) x y then [] else bif ax_hasc (ax_xf E) k x y then [E] else (ax_yes E k x y).map (fun E1 => ax_cmp E1 k x y)
noncomputable def ax_brs (pc na : Nat) (lv st : List Nat) (E : ax_E) (k x y : Nat) : Option (List ax_A) := bif ax_isK E 0 x && ax_isK E 0 y then some ((ax_ye2 E k x y).map (fun E1 => (na, lv, st, E1)) ++ (ax_ye2 E (ax_not k) x y).map (fun E1 => (Nat.add pc 3, lv, st, E1))) else none
noncomputable def ax_tsw (na : Nat) (lv st : List Nat) (E : ax_E) (x : Nat) (tg : List Nat) : Nat → List ax_A := List.rec (motive := fun _ => Nat → List ax_A) (fun j => (ax_lst (ax_refine E x (Nat.add j 2147483648) 4294967295)).map (fun E1 => (na, lv, st, E1))) (fun t _ ih j => (ax_lst (ax_refine E x (Nat.add j 2147483648) (Nat.add j 2147483648))).map (fun E1 => (t, lv, st, E1)) ++ ih (Nat.succ j)) tg
noncomputable def ax_s1 (w : ax_W) (K : rx_K) (md : List (Nat × Nat)) (mL : Nat) (pc o i j na nb : Nat) (tg lv st : List Nat) (E : ax_E) : Option (List ax_A) :=
  bif Nat.ble o 3 then (match rx_nth lv i with
    | some v => bif (bif Nat.beq o 1 then ax_isK E 0 v else bif Nat.beq o 2 then ax_isR E v else ax_isK E 1 v) then some [(Nat.add pc j, lv, v :: st, E)] else none
    | none => none)
  else bif Nat.ble o 5 then (match st with
    | v :: st' => bif (bif Nat.beq o 4 then ax_isK E 0 v else ax_isR E v) && Nat.blt i mL then some [(Nat.add pc j, ax_put E lv i v, st', E)] else none
    | [] => none)
  else bif Nat.beq o 6 then (match st with
    | v :: st' => bif ax_isK E 1 v && Nat.blt (Nat.succ i) mL then some [(Nat.add pc j, rx_upd (ax_put E lv i v) (Nat.succ i) 2, st', E)] else none
    | [] => none)
  else bif Nat.beq o 7 then (bif Nat.beq i 0 then (bif Nat.blt na 4294967296 then some [(Nat.add pc j, lv, rx_int na :: st, E)] else none) else (bif rx_lok na then some [(Nat.add pc j, lv, na :: st, E)] else none))
  else bif Nat.beq o 8 then some [(Nat.add pc j, lv, rx_lng na :: st, E)]
  else bif Nat.beq o 9 then (match rx_nth lv i with
    | some v => bif Nat.blt i mL && Nat.blt na 4294967296 then (match ax_bin E 0 v (rx_int na) with
      | some (r, E1) => some [(Nat.add pc 3, ax_put E1 lv i r, st, E1)]
      | none => none) else none
    | none => none)
  else bif Nat.beq o 10 then (match st with
    | y :: x :: st' => ax_psh (Nat.add pc 1) lv st' (ax_bin E i x y)
    | _ => none)
  else none
/-- what a value was made of is kept -/
noncomputable def ax_kpt (o x y : Nat) (q : Nat × ax_E) : Nat × ax_E := (q.1, ax_addX q.2 (Nat.add 1000 o, [x, y, q.1]))
noncomputable def ax_kp5 (x : Nat) (q : Nat × ax_E) : Nat × ax_E := (q.1, ax_addX q.2 (1043, [x, 0, q.1, 0, 0]))
noncomputable def ax_kp6 (x : Nat) (q : Nat × ax_E) : Nat × ax_E := (q.1, ax_addX q.2 (1044, [x, 0, q.1, 0, 0]))
noncomputable def ax_s2 (pc o i na : Nat) (tg lv st : List Nat) (E : ax_E) : Option (List ax_A) :=
  bif Nat.beq o 11 then (match st with
    | x :: st' => bif ax_isK E 0 x then ax_psh (Nat.add pc 1) lv st' (some (bif Nat.beq i 0 then ax_kp6 x (ax_val E (0, ax_full)) else ax_kp5 x (ax_val E (0, 2147483520, 2147483775)))) else none
    | [] => none)
  else bif Nat.ble o 14 then (match st with
    | y :: x :: st' => bif ax_isK E 1 x && (bif Nat.beq o 13 then ax_isK E 0 y else ax_isK E 1 y) then (bif Nat.beq o 13 then ax_psh (Nat.add pc 1) lv st' (some (ax_kpt (Nat.add 104 i) x y (ax_val E (1, 0, 0)))) else ax_psh (Nat.add pc 1) lv st' (some (ax_kpt (Nat.add (Nat.mul 8 o) i) x y (ax_val E (bif Nat.beq o 14 then (0, 2147483647, 2147483649) else (1, 0, 0)))))) else none
    | _ => none)
  else bif Nat.beq o 15 then (match st with
    | v :: st' => bif ax_nJ E v then some [(Nat.add pc 1, lv, v :: v :: st', E)] else none
    | [] => none)
  else bif Nat.beq o 16 then (match st with
    | v :: st' => bif ax_nJ E v then some [(Nat.add pc 1, lv, st', E)] else none
    | [] => none)
  else bif Nat.beq o 17 then (match st with
    | v :: u :: st' => bif ax_nJ E v && ax_nJ E u then some [(Nat.add pc 1, lv, v :: u :: v :: u :: st', E)] else none
    | _ => none)
  else bif Nat.beq o 18 then some [(na, lv, st, E)]
  else bif Nat.beq o 19 then (match st with
    | x :: st' => ax_brs pc na lv st' E i x 0
    | [] => none)
  else bif Nat.beq o 20 then (match st with
    | y :: x :: st' => ax_brs pc na lv st' E i x y
    | _ => none)
  else bif Nat.beq o 21 then (match st with
    | x :: st' => bif ax_isK E 0 x then some ((bif Nat.beq i 0 then (ax_lst (ax_refine E x 0 2147483647)) else ax_lst (ax_refine E x 0 (Nat.add i 2147483647))).map (fun E1 => (na, lv, st', E1)) ++ ax_tsw na lv st' E x tg i) else none
    | [] => none)
  else none
noncomputable def ax_step (w : ax_W) (K : rx_K) (md : List (Nat × Nat)) (mL : Nat) (pc o i j na nb : Nat) (tg lv st : List Nat) (E : ax_E) : Option (List ax_A) :=
  bif Nat.ble o 10 then ax_s1 w K md mL pc o i j na nb tg lv st E
  else bif Nat.ble o 21 then ax_s2 pc o i na tg lv st E
  else bif Nat.beq o 22 then ax_h_gf w pc na nb lv st E
  else bif Nat.beq o 23 then ax_h_pf w K md pc na nb lv st E
  else bif Nat.beq o 24 then (bif Nat.beq i 0 then ax_h_alen w pc lv st E else ax_h_ald w i pc lv st E)
  else bif Nat.beq o 25 then ax_h_ast w md i pc lv st E
  else none
end
section
/-! What the abstract interpreter's data stand for -/
/-- what an operation does with two known ints -/
noncomputable def ax_f (o : Nat) : Nat → Nat → Option Nat := match o with
  | 0 => rx_f_add | 1 => rx_f_sub | 2 => rx_f_mul | 3 => rx_f_and | 4 => rx_f_or | 5 => rx_f_xor | 6 => rx_f_shl | 7 => rx_f_shr | 8 => rx_f_ushr | 9 => rx_f_div | 10 => rx_f_rem | _ => rx_f_no
/-- a condition, by the numbers -/
noncomputable def ax_cnd (k x y : Nat) : Prop := match k with
  | 0 => x = y | 1 => x ≠ y | 2 => x < y | 3 => y ≤ x | 4 => y < x | _ => x ≤ y
noncomputable def ax_jf (j : Nat) : Nat → Nat → Nat := match j with
  | 0 => rx_j_add | 1 => rx_j_sub | 2 => rx_j_mul | 3 => rx_j_and | 4 => rx_j_or | _ => rx_j_xor
noncomputable def ax_lz (o x y : Nat) : Nat := bif Nat.beq o 112 then rx_int (rx_f_lcmp x y) else bif Nat.beq o 104 then rx_lng (rx_j_shl x y) else rx_lng (rx_j_shr x y)
noncomputable def ax_uf (o : Nat) : Nat → Nat := bif Nat.beq o 43 then rx_f_i2b else rx_f_neg
/-- facts of numbers alone: 0 .. 10 what a number was made of, 15 a sum that is exact, 20 .. 25 how two stand to each other, 30 one is less (as codes), 96 .. 101 longs, 112 longs compared -/
noncomputable def ax_BI (o : Nat) (vs : List Nat) : Prop := match vs with
  | [x, y, z] => (o ≤ 10 ∧ x % 4 = 0 ∧ y % 4 = 0 ∧ ∃ r, ax_f o (x / 4) (y / 4) = some r ∧ r < 4294967296 ∧ z = rx_int r) ∨ (∃ j, j ≤ 5 ∧ o = 96 + j ∧ x % 4 = 1 ∧ y % 4 = 1 ∧ z = rx_lng (ax_jf j (x / 4) (y / 4))) ∨ (((o = 112 ∧ y % 4 = 1) ∨ ((o = 104 ∨ o = 105) ∧ y % 4 = 0)) ∧ x % 4 = 1 ∧ z = ax_lz o (x / 4) (y / 4))
  | [x, y, z, _, _] => ((o = 40 ∨ o = 41) ∧ rx_prim (o - 39) [y, x] = some [z]) ∨ (o = 42 ∧ rx_primS 4 [y, x] = some [z]) ∨ ((o = 43 ∨ o = 44) ∧ x % 4 = 0 ∧ z = rx_int (ax_uf o (x / 4)))
  | [x, y, z, _] => o = 15 ∧ ∃ a b c : Nat, x = 4 * a ∧ y = 4 * b ∧ z = 4 * c ∧ a < 4294967296 ∧ b < 4294967296 ∧ c < 4294967296 ∧ rx_bi a + rx_bi b = rx_bi c + 2147483648
  | [x, y] => (∃ k, k < 6 ∧ o = 20 + k ∧ ax_cnd k (rx_bi (x / 4)) (rx_bi (y / 4))) ∨ (o = 30 ∧ x < y)
  | _ => False
/-- the heap behind a write -/
noncomputable def ax_upd (hp : rx_H) (a i v : Nat) : rx_H := match rx_hg hp (a / 4 - 2) with
  | some (k, n, f) => rx_hs hp (a / 4 - 2) (k, n, f.set (i / 4) v)
  | none => hp
/-- what a cell holds -/
noncomputable def ax_CC (hp : rx_H) (a i v : Nat) : Prop := a % 4 = 2 ∧ 2 ≤ a / 4 ∧ i % 4 = 0 ∧ ∃ (k m : Nat) (l : List Nat), rx_hg hp (a / 4 - 2) = some (k, m, l) ∧ l[i / 4]? = some v
/-- a named fact: below 500 as it is given, 500 and on: behind a write, 1000 and on: of numbers alone, 1200: what a cell holds -/
noncomputable def ax_XF (X : ax_X) (x : Nat) (vs : List Nat) (hp : rx_H) : Prop := if x < 500 then X x vs hp else if x < 1000 then (match vs with
    | a :: i :: v :: r => X (x - 500) r (ax_upd hp a i v)
    | _ => False) else if x < 1200 then ax_BI (x - 1000) vs else (match vs with
    | [a, i, v] => ax_CC hp a i v
    | _ => False)
theorem ax_XF_bi {X : ax_X} {o : Nat} {vs : List Nat} {hp : rx_H} (h : o < 200) : ax_XF X (1000 + o) vs hp ↔ ax_BI o vs := by
  unfold ax_XF
  have e5 : ¬ (1000 + o < 500) := by omega
  have e6 : ¬ (1000 + o < 1000) := by omega
  have e8 : 1000 + o < 1200 := by omega
  have e7 : 1000 + o - 1000 = o := by omega
  rw [if_neg e5, if_neg e6, if_pos e8, e7]
theorem ax_XF_cc {X : ax_X} {a i v : Nat} {hp : rx_H} : ax_XF X 1200 [a, i, v] hp ↔ ax_CC hp a i v := by
  unfold ax_XF
  have e5 : ¬ (1200 < 500) := by decide
  have e6 : ¬ (1200 < 1000) := by decide
  have e8 : ¬ (1200 < 1200) := by decide
  rw [if_neg e5, if_neg e6, if_neg e8]
theorem ax_XF_lt {X : ax_X} {x : Nat} {vs : List Nat} {hp : rx_H} (h : x < 500) : ax_XF X x vs hp ↔ X x vs hp := by
  unfold ax_XF
  rw [if_pos h]
theorem ax_XF_wr {X : ax_X} {x a i v : Nat} {r : List Nat} {hp : rx_H} (h : x < 500) : ax_XF X (500 + x) (a :: i :: v :: r) hp ↔ X x r (ax_upd hp a i v) := by
  unfold ax_XF
  have e5 : ¬ (500 + x < 500) := by omega
  have e6 : 500 + x < 1000 := by omega
  have e7 : 500 + x - 500 = x := by omega
  rw [if_neg e5, if_pos e6]
  show X (500 + x - 500) r (ax_upd hp a i v) ↔ _
  rw [e7]
noncomputable def ax_ev (n : Nat) (ρ : Nat → Nat) (v : Nat) : Option Nat := if v % 4 = 3 then (if v / 4 < n then some (ρ (v / 4)) else none) else some v
noncomputable def ax_ok (w : ax_W) (t : ax_Y) (v : Nat) : Prop :=
  (t.1 = 0 ∧ v % 4 = 0 ∧ v / 4 < 4294967296 ∧ t.2.1 ≤ rx_bi (v / 4) ∧ rx_bi (v / 4) ≤ t.2.2) ∨ (t.1 = 1 ∧ v % 4 = 1) ∨ (t.1 = 2 ∧ v % 4 = 2 ∧ 2 ≤ v / 4 ∧ v / 4 < 258 ∧ w.1[v / 4 - 2]? = some t.2.1) ∨ (t.1 = 3 ∧ v = t.2.1 ∧ v % 4 = 2)
/-- the heap is as the regions say -/
noncomputable def ax_HT (w : ax_W) (hp : rx_H) : Prop := hp.1 ≤ 256 ∧ ∀ q g : Nat, w.1[q]? = some g → ∃ (k n : Nat) (l : List (Nat × ax_Y)) (f : List Nat), w.2.1[g]? = some (k, n, l) ∧ rx_hg hp q = some (k, n, f) ∧ f.length = n ∧ ∀ i v : Nat, f[i]? = some v → ∃ t, ax_at l i = some t ∧ ax_ok w t v
/-- nothing but what may be written has changed -/
noncomputable def ax_HR (w : ax_W) (md : List (Nat × Nat)) (hp hp' : rx_H) : Prop := hp'.1 = hp.1 ∧ ∀ q g : Nat, w.1[q]? = some g → ∀ (k n : Nat) (l : List Nat), rx_hg hp q = some (k, n, l) → ∃ l' : List Nat, rx_hg hp' q = some (k, n, l') ∧ ∀ i : Nat, ax_mem md g i = false → l'[i]? = l[i]?
noncomputable def ax_FO (n : Nat) (ρ : Nat → Nat) (hp : rx_H) (f : Nat × Nat × Nat) : Prop := ∃ (a i v k m : Nat) (l : List Nat), ax_ev n ρ f.1 = some a ∧ ax_ev n ρ f.2.1 = some i ∧ ax_ev n ρ f.2.2 = some v ∧ a % 4 = 2 ∧ 2 ≤ a / 4 ∧ i % 4 = 0 ∧ rx_hg hp (a / 4 - 2) = some (k, m, l) ∧ l[i / 4]? = some v
noncomputable def ax_DO (n : Nat) (ρ : Nat → Nat) (d : Nat × Nat × Nat) : Prop := ∃ a b c : Nat, ax_ev n ρ d.1 = some (4 * a) ∧ ax_ev n ρ d.2.1 = some (4 * b) ∧ ax_ev n ρ d.2.2 = some (4 * c) ∧ a < 4294967296 ∧ b < 4294967296 ∧ c < 4294967296 ∧ rx_bi a + rx_bi b = rx_bi c + 2147483648
noncomputable def ax_NO (X : ax_X) (n : Nat) (ρ : Nat → Nat) (hp : rx_H) (x : ax_N) : Prop := ∃ vs, x.2.map (ax_ev n ρ) = vs.map some ∧ ax_XF X x.1 vs hp
noncomputable def ax_EO (w : ax_W) (X : ax_X) (ρ : Nat → Nat) (E : ax_E) (hp : rx_H) : Prop :=
  E.2.1.length = E.1 ∧ (∀ (k : Nat) (t : ax_Y), k < E.1 → E.2.1[E.1 - 1 - k]? = some t → ax_ok w t (ρ k)) ∧ (∀ f ∈ E.2.2.1, ax_FO E.1 ρ hp f) ∧ (∀ d ∈ E.2.2.2.1, ax_DO E.1 ρ d) ∧ (∀ x ∈ E.2.2.2.2, ax_NO X E.1 ρ hp x)
noncomputable def ax_R (w : ax_W) (X : ax_X) (ρ : Nat → Nat) (a : ax_A) (hp : rx_H) (σ : rx_S) : Prop :=
  σ.1 = a.1 ∧ a.2.1.map (ax_ev a.2.2.2.1 ρ) = σ.2.1.map some ∧ a.2.2.1.map (ax_ev a.2.2.2.1 ρ) = σ.2.2.1.map some ∧ σ.2.2.2 = (hp, [], 0, 0) ∧ ax_EO w X ρ a.2.2.2 hp ∧ ax_HT w hp
theorem ax_ev_mono {n n' : Nat} {ρ ρ' : Nat → Nat} (hn : n ≤ n') (hρ : ∀ k, k < n → ρ' k = ρ k) {v x : Nat} (h : ax_ev n ρ v = some x) : ax_ev n' ρ' v = some x := by
  unfold ax_ev at h ⊢
  by_cases h3 : v % 4 = 3
  · rw [if_pos h3] at h ⊢
    by_cases hl : v / 4 < n
    · rw [if_pos hl] at h
      rw [if_pos (Nat.lt_of_lt_of_le hl hn), hρ _ hl]
      exact h
    · rw [if_neg hl] at h; cases h
  · rw [if_neg h3] at h ⊢; exact h
theorem ax_evs_mono {n n' : Nat} {ρ ρ' : Nat → Nat} (hn : n ≤ n') (hρ : ∀ k, k < n → ρ' k = ρ k) : ∀ {l xs : List Nat}, l.map (ax_ev n ρ) = xs.map some → l.map (ax_ev n' ρ') = xs.map some
  | [], [], _ => rfl
  | [], _ :: _, h => by cases h
  | _ :: _, [], h => by cases h
  | v :: l, x :: xs, h => by
    simp only [List.map_cons, List.cons.injEq] at h ⊢
    exact ⟨ax_ev_mono hn hρ h.1, ax_evs_mono hn hρ h.2⟩
theorem ax_evs_cons {n : Nat} {ρ : Nat → Nat} {v : Nat} {l xs : List Nat} (h : (v :: l).map (ax_ev n ρ) = xs.map some) : ∃ x r, xs = x :: r ∧ ax_ev n ρ v = some x ∧ l.map (ax_ev n ρ) = r.map some := by
  cases xs with
  | nil => cases h
  | cons x r =>
    simp only [List.map_cons, List.cons.injEq] at h
    exact ⟨x, r, rfl, h.1, h.2⟩
theorem ax_evs_push {n : Nat} {ρ : Nat → Nat} {v x : Nat} {l xs : List Nat} (hv : ax_ev n ρ v = some x) (h : l.map (ax_ev n ρ) = xs.map some) : (v :: l).map (ax_ev n ρ) = (x :: xs).map some := by
  simp only [List.map_cons, hv, h]
theorem ax_evs_nth {n : Nat} {ρ : Nat → Nat} {l xs : List Nat} (h : l.map (ax_ev n ρ) = xs.map some) {i v : Nat} (hv : l[i]? = some v) : ∃ x, xs[i]? = some x ∧ ax_ev n ρ v = some x := by
  have h1 : (l.map (ax_ev n ρ))[i]? = (xs.map some)[i]? := by rw [h]
  rw [List.getElem?_map, List.getElem?_map, hv] at h1
  cases e : xs[i]? with
  | none => rw [e] at h1; cases h1
  | some x => rw [e] at h1; exact ⟨x, rfl, Option.some.inj h1⟩
theorem ax_evs_nth' {n : Nat} {ρ : Nat → Nat} {l xs : List Nat} (h : l.map (ax_ev n ρ) = xs.map some) {i x : Nat} (hv : xs[i]? = some x) : ∃ v, l[i]? = some v ∧ ax_ev n ρ v = some x := by
  have h1 : (l.map (ax_ev n ρ))[i]? = (xs.map some)[i]? := by rw [h]
  rw [List.getElem?_map, List.getElem?_map, hv] at h1
  cases e : l[i]? with
  | none => rw [e] at h1; cases h1
  | some v => rw [e] at h1; exact ⟨v, rfl, Option.some.inj h1⟩
theorem ax_evs_set {n : Nat} {ρ : Nat → Nat} {l xs : List Nat} (h : l.map (ax_ev n ρ) = xs.map some) {i v x : Nat} (hv : ax_ev n ρ v = some x) : (l.set i v).map (ax_ev n ρ) = (xs.set i x).map some := by
  rw [List.map_set, List.map_set, h, hv]
theorem ax_evs_len {n : Nat} {ρ : Nat → Nat} {l xs : List Nat} (h : l.map (ax_ev n ρ) = xs.map some) : xs.length = l.length := by
  have := congrArg List.length h
  simpa using this.symm
theorem ax_ev_c {n : Nat} {ρ : Nat → Nat} {v : Nat} (h : v % 4 ≠ 3) : ax_ev n ρ v = some v := by unfold ax_ev; rw [if_neg h]
theorem ax_FO.mono {n n' : Nat} {ρ ρ' : Nat → Nat} (hn : n ≤ n') (hρ : ∀ k, k < n → ρ' k = ρ k) {hp : rx_H} {f : Nat × Nat × Nat} (h : ax_FO n ρ hp f) : ax_FO n' ρ' hp f := by
  obtain ⟨a, i, v, k, m, l, h1, h2, h3, h4⟩ := h
  exact ⟨a, i, v, k, m, l, ax_ev_mono hn hρ h1, ax_ev_mono hn hρ h2, ax_ev_mono hn hρ h3, h4⟩
theorem ax_DO.mono {n n' : Nat} {ρ ρ' : Nat → Nat} (hn : n ≤ n') (hρ : ∀ k, k < n → ρ' k = ρ k) {d : Nat × Nat × Nat} (h : ax_DO n ρ d) : ax_DO n' ρ' d := by
  obtain ⟨a, b, c, h1, h2, h3, h4⟩ := h
  exact ⟨a, b, c, ax_ev_mono hn hρ h1, ax_ev_mono hn hρ h2, ax_ev_mono hn hρ h3, h4⟩
theorem ax_NO.mono {X : ax_X} {n n' : Nat} {ρ ρ' : Nat → Nat} (hn : n ≤ n') (hρ : ∀ k, k < n → ρ' k = ρ k) {hp : rx_H} {x : ax_N} (h : ax_NO X n ρ hp x) : ax_NO X n' ρ' hp x := by
  obtain ⟨vs, h1, h2⟩ := h
  exact ⟨vs, ax_evs_mono hn hρ h1, h2⟩
theorem ax_ok_c {w : ax_W} {v a : Nat} (h0 : v % 4 = 0) (hl : v / 4 < 4294967296) (ha : a = rx_bi (v / 4)) : ax_ok w (0, a, a) v := Or.inl ⟨rfl, h0, hl, Nat.le_of_eq ha, Nat.le_of_eq ha.symm⟩
/-- the type of a value tells of it -/
theorem ax_typ_ok {w : ax_W} {X : ax_X} {ρ : Nat → Nat} {E : ax_E} {hp : rx_H} (hE : ax_EO w X ρ E hp) {v x : Nat} {t : ax_Y} (ht : ax_typ E v = some t) (hx : ax_ev E.1 ρ v = some x) : ax_ok w t x := by
  unfold ax_typ at ht
  unfold ax_ev at hx
  cases h3 : Nat.beq (rx_tk v) 3 with
  | true =>
    have h3' : v % 4 = 3 := rx_beq.mp h3
    rw [h3, cond_true] at ht
    obtain ⟨hl, ht⟩ := rx_cond ht
    have hl : v / 4 < E.1 := rx_blt.mp hl
    rw [if_pos h3', if_pos hl] at hx
    cases hx
    rw [rx_nth_eq] at ht
    exact hE.2.1 _ _ hl ht
  | false =>
    have h3' : v % 4 ≠ 3 := fun z => by rw [rx_beq.mpr (show rx_tk v = 3 from z)] at h3; cases h3
    rw [h3, cond_false] at ht
    rw [if_neg h3'] at hx
    cases hx
    cases h0 : Nat.beq (rx_tk v) 0 with
    | true =>
      rw [h0, cond_true] at ht
      obtain ⟨hl, ht⟩ := rx_cond ht
      cases ht
      have e : rx_bi (rx_pl v) = rx_bi (v / 4) := congrArg rx_bi rfl
      exact ax_ok_c (rx_beq.mp h0) (rx_blt.mp hl) e
    | false =>
      have h0' : v % 4 ≠ 0 := fun z => by rw [rx_beq.mpr (show rx_tk v = 0 from z)] at h0; cases h0
      rw [h0, cond_false] at ht
      cases h1 : Nat.beq (rx_tk v) 1 with
      | true =>
        rw [h1, cond_true] at ht
        cases ht
        exact Or.inr (Or.inl ⟨rfl, rx_beq.mp h1⟩)
      | false =>
        have h1' : v % 4 ≠ 1 := fun z => by rw [rx_beq.mpr (show rx_tk v = 1 from z)] at h1; cases h1
        rw [h1, cond_false] at ht
        cases ht
        exact Or.inr (Or.inr (Or.inr ⟨rfl, rfl, by omega⟩))
theorem ax_iv_ok {w : ax_W} {X : ax_X} {ρ : Nat → Nat} {E : ax_E} {hp : rx_H} (hE : ax_EO w X ρ E hp) {v x : Nat} {t : Nat × Nat} (ht : ax_iv E v = some t) (hx : ax_ev E.1 ρ v = some x) : x % 4 = 0 ∧ x / 4 < 4294967296 ∧ t.1 ≤ rx_bi (x / 4) ∧ rx_bi (x / 4) ≤ t.2 := by
  unfold ax_iv at ht
  cases h : ax_typ E v with
  | none => rw [h] at ht; cases ht
  | some y =>
    rw [h] at ht
    obtain ⟨h0, ht⟩ := rx_cond ht
    cases ht
    rcases ax_typ_ok hE h hx with h1 | ⟨h1, -⟩ | ⟨h1, -⟩ | ⟨h1, -⟩
    · exact h1.2
    · have := rx_beq.mp h0; omega
    · have := rx_beq.mp h0; omega
    · have := rx_beq.mp h0; omega
theorem ax_isK0 {w : ax_W} {X : ax_X} {ρ : Nat → Nat} {E : ax_E} {hp : rx_H} (hE : ax_EO w X ρ E hp) {v x : Nat} (h : ax_isK E 0 v = true) (hx : ax_ev E.1 ρ v = some x) : x % 4 = 0 ∧ x / 4 < 4294967296 := by
  unfold ax_isK at h
  cases ht : ax_typ E v with
  | none => rw [ht] at h; cases h
  | some t =>
    rw [ht] at h
    have h := rx_beq.mp h
    rcases ax_typ_ok hE ht hx with h1 | ⟨h1, -⟩ | ⟨h1, -⟩ | ⟨h1, -⟩
    · exact ⟨h1.2.1, h1.2.2.1⟩
    · omega
    · omega
    · omega
theorem ax_isK1 {w : ax_W} {X : ax_X} {ρ : Nat → Nat} {E : ax_E} {hp : rx_H} (hE : ax_EO w X ρ E hp) {v x : Nat} (h : ax_isK E 1 v = true) (hx : ax_ev E.1 ρ v = some x) : x % 4 = 1 := by
  unfold ax_isK at h
  cases ht : ax_typ E v with
  | none => rw [ht] at h; cases h
  | some t =>
    rw [ht] at h
    have h := rx_beq.mp h
    rcases ax_typ_ok hE ht hx with ⟨h1, -⟩ | ⟨-, h1⟩ | ⟨h1, -⟩ | ⟨h1, -⟩
    · omega
    · exact h1
    · omega
    · omega
theorem ax_isRok {w : ax_W} {X : ax_X} {ρ : Nat → Nat} {E : ax_E} {hp : rx_H} (hE : ax_EO w X ρ E hp) {v x : Nat} (h : ax_isR E v = true) (hx : ax_ev E.1 ρ v = some x) : x % 4 = 2 ∧ 0 < x / 4 := by
  unfold ax_isR at h
  cases ht : ax_typ E v with
  | none => rw [ht] at h; cases h
  | some t =>
    rw [ht] at h
    rcases rx_or2.mp h with h | h
    · have h := rx_beq.mp h
      rcases ax_typ_ok hE ht hx with ⟨h1, -⟩ | ⟨h1, -⟩ | ⟨-, h1, h2, -⟩ | ⟨h1, -⟩
      · omega
      · omega
      · exact ⟨h1, by omega⟩
      · omega
    · obtain ⟨h0, h⟩ := rx_and2.mp h
      obtain ⟨h2, h3⟩ := rx_and2.mp h
      have h0 := rx_beq.mp h0
      rcases ax_typ_ok hE ht hx with ⟨h1, -⟩ | ⟨h1, -⟩ | ⟨h1, -⟩ | ⟨-, h1, -⟩
      · omega
      · omega
      · omega
      · rw [h1]; exact ⟨rx_beq.mp h2, rx_blt.mp h3⟩
theorem ax_nJok {w : ax_W} {X : ax_X} {ρ : Nat → Nat} {E : ax_E} {hp : rx_H} (hE : ax_EO w X ρ E hp) {v x : Nat} (h : ax_nJ E v = true) (hx : ax_ev E.1 ρ v = some x) : x % 4 ≠ 1 := by
  unfold ax_nJ at h
  cases ht : ax_typ E v with
  | none => rw [ht] at h; cases h
  | some t =>
    rw [ht] at h
    rcases ax_typ_ok hE ht hx with ⟨-, h1, -⟩ | ⟨h1, -⟩ | ⟨-, h1, -⟩ | ⟨-, -, h1⟩
    · omega
    · replace h : (!(Nat.beq t.1 1)) = true := h
      rw [h1] at h; cases h
    · omega
    · omega
/-- the region of a reference -/
theorem ax_rg_ok {w : ax_W} {X : ax_X} {ρ : Nat → Nat} {E : ax_E} {hp : rx_H} (hE : ax_EO w X ρ E hp) {v x g : Nat} (h : ax_rg w E v = some g) (hx : ax_ev E.1 ρ v = some x) : x % 4 = 2 ∧ 2 ≤ x / 4 ∧ x / 4 < 258 ∧ w.1[x / 4 - 2]? = some g := by
  unfold ax_rg at h
  cases ht : ax_typ E v with
  | none => rw [ht] at h; cases h
  | some t =>
    rw [ht] at h
    replace h : (bif Nat.beq t.1 2 then some t.2.1 else bif Nat.beq t.1 3 && (Nat.beq (rx_tk t.2.1) 2 && (Nat.ble 2 (rx_pl t.2.1) && Nat.blt (rx_pl t.2.1) 258)) then rx_nth w.1 (Nat.sub (rx_pl t.2.1) 2) else none) = some g := h
    have hk := ax_typ_ok hE ht hx
    cases h2 : Nat.beq t.1 2 with
    | true =>
      rw [h2, cond_true] at h
      cases h
      have h2 := rx_beq.mp h2
      rcases hk with ⟨h1, -⟩ | ⟨h1, -⟩ | ⟨-, h1⟩ | ⟨h1, -⟩
      · omega
      · omega
      · exact h1
      · omega
    | false =>
      rw [h2, cond_false] at h
      obtain ⟨hc, h⟩ := rx_cond h
      obtain ⟨c1, hc⟩ := rx_and2.mp hc
      obtain ⟨c2, hc⟩ := rx_and2.mp hc
      obtain ⟨c3, c4⟩ := rx_and2.mp hc
      have c1 := rx_beq.mp c1
      rcases hk with ⟨h1, -⟩ | ⟨h1, -⟩ | ⟨h1, -⟩ | ⟨-, h1, -⟩
      · omega
      · omega
      · omega
      · rw [h1]
        rw [rx_nth_eq] at h
        exact ⟨rx_beq.mp c2, rx_ble.mp c3, rx_blt.mp c4, h⟩
/-- a new symbol -/
theorem ax_new_ok {w : ax_W} {X : ax_X} {ρ : Nat → Nat} {E : ax_E} {hp : rx_H} (hE : ax_EO w X ρ E hp) {t : ax_Y} {x : Nat} (hx : ax_ok w t x) : ∃ ρ' : Nat → Nat, (∀ k, k < E.1 → ρ' k = ρ k) ∧ ax_EO w X ρ' (ax_new E t) hp ∧ ax_ev (E.1 + 1) ρ' (ax_sym (ax_n E)) = some x := by
  have ha : ∀ k, k < E.1 → (fun k => if k = E.1 then x else ρ k) k = ρ k := fun k hk => if_neg (Nat.ne_of_lt hk)
  refine ⟨fun k => if k = E.1 then x else ρ k, ha, ⟨?_, ?_, ?_, ?_, fun y hy => (hE.2.2.2.2 y hy).mono (Nat.le_succ _) ha⟩, ?_⟩
  · show (t :: E.2.1).length = E.1 + 1
    rw [List.length_cons, hE.1]
  · intro k s hk hs
    replace hk : k < E.1 + 1 := hk
    replace hs : (t :: E.2.1)[E.1 + 1 - 1 - k]? = some s := hs
    show ax_ok w s (if k = E.1 then x else ρ k)
    by_cases e : k = E.1
    · rw [if_pos e]
      rw [show E.1 + 1 - 1 - k = 0 by omega] at hs
      cases hs
      exact hx
    · rw [if_neg e]
      rw [show E.1 + 1 - 1 - k = (E.1 - 1 - k) + 1 by omega, List.getElem?_cons_succ] at hs
      exact hE.2.1 k s (by omega) hs
  · intro f hf
    exact (hE.2.2.1 f hf).mono (Nat.le_succ _) ha
  · intro d hd
    exact (hE.2.2.2.1 d hd).mono (Nat.le_succ _) ha
  · unfold ax_ev
    have e1 : ax_sym (ax_n E) % 4 = 3 := by show (4 * E.1 + 3) % 4 = 3; omega
    have e2 : ax_sym (ax_n E) / 4 = E.1 := by show (4 * E.1 + 3) / 4 = E.1; omega
    rw [if_pos e1, e2, if_pos (Nat.lt_succ_self _)]
    exact congrArg some (if_pos rfl)
theorem ax_bi_bi {x : Nat} (h : x < 4294967296) : rx_bi (rx_bi x) = x := by
  unfold rx_bi
  show ((x + 2147483648) % 4294967296 + 2147483648) % 4294967296 = x
  omega
/-- a value of a type -/
theorem ax_val_ok {w : ax_W} {X : ax_X} {ρ : Nat → Nat} {E : ax_E} {hp : rx_H} (hE : ax_EO w X ρ E hp) {t : ax_Y} {x : Nat} (hx : ax_ok w t x) : E.1 ≤ (ax_val E t).2.1 ∧ ∃ ρ' : Nat → Nat, (∀ k, k < E.1 → ρ' k = ρ k) ∧ ax_EO w X ρ' (ax_val E t).2 hp ∧ ax_ev (ax_val E t).2.1 ρ' (ax_val E t).1 = some x := by
  unfold ax_val
  cases h0 : (Nat.beq t.1 0 && Nat.beq t.2.1 t.2.2) with
  | true =>
    rw [cond_true]
    obtain ⟨a1, a2⟩ := rx_and2.mp h0
    have a1 := rx_beq.mp a1
    have a2 := rx_beq.mp a2
    refine ⟨Nat.le_refl _, ρ, fun _ _ => rfl, hE, ?_⟩
    rcases hx with ⟨-, h1, h2, h3, h4⟩ | ⟨h1, -⟩ | ⟨h1, -⟩ | ⟨h1, -⟩
    · have e : t.2.1 = rx_bi (x / 4) := by omega
      have e2 : rx_int (rx_bi t.2.1) = x := by
        rw [e, ax_bi_bi h2]
        show 4 * (x / 4) = x
        omega
      rw [e2]
      exact ax_ev_c (by omega)
    · omega
    · omega
    · omega
  | false =>
    rw [cond_false]
    cases h3 : Nat.beq t.1 3 with
    | true =>
      rw [cond_true]
      have h3 := rx_beq.mp h3
      refine ⟨Nat.le_refl _, ρ, fun _ _ => rfl, hE, ?_⟩
      rcases hx with ⟨h1, -⟩ | ⟨h1, -⟩ | ⟨h1, -⟩ | ⟨-, h1, h2⟩
      · omega
      · omega
      · omega
      · show ax_ev E.1 ρ t.2.1 = some x
        rw [← h1]
        exact ax_ev_c (by omega)
    | false =>
      rw [cond_false]
      obtain ⟨ρ', h1, h2, h4⟩ := ax_new_ok hE hx
      exact ⟨Nat.le_succ _, ρ', h1, h2, h4⟩
end
section
theorem ax_bi_def (x : Nat) : rx_bi x = (x + 2147483648) % 4294967296 := rfl
theorem ax_i32_lt (z : Int32) : rx_i32 z < 4294967296 := z.toBitVec.isLt
theorem ax_full_ok (c : Nat) : ax_full.1 ≤ rx_bi c ∧ rx_bi c ≤ ax_full.2 := by
  rw [ax_bi_def]
  exact ⟨Nat.zero_le _, by show _ ≤ 4294967295; omega⟩
theorem ax_i32_nI {n : Nat} (h : n < 4294967296) : rx_i32 (nI n) = n := by
  show (BitVec.ofNat 32 n).toNat = n
  rw [BitVec.toNat_ofNat]
  exact Nat.mod_eq_of_lt h
theorem ax_condY {α : Type} {b : Bool} {x y z : α} (h : (bif b then x else y) = z) : (b = true ∧ x = z) ∨ (b = false ∧ y = z) := by
  cases b with
  | true => exact Or.inl ⟨rfl, h⟩
  | false => exact Or.inr ⟨rfl, h⟩
theorem ax_geN {a x : Nat} (hx : ax_ge x = true) (ha : a < 4294967296) (h : x ≤ rx_bi a) : a < 2147483648 ∧ rx_bi a = a + 2147483648 := by
  have hx : 2147483648 ≤ x := rx_ble.mp hx
  rw [ax_bi_def] at h ⊢
  omega
theorem ax_h1 {u v z : Nat} (l1 : u ≤ z) (l2 : z ≤ v) (hz : z < 2147483648) : u + 2147483648 ≤ rx_bi z ∧ rx_bi z ≤ v + 2147483648 := by
  rw [ax_bi_def]
  omega
theorem ax_h2 {u v z : Nat} (l1 : u ≤ z) (l2 : z ≤ v) (hz : v < 2147483648) : u + 2147483648 ≤ rx_bi (z % 4294967296) ∧ rx_bi (z % 4294967296) ≤ v + 2147483648 := by
  rw [ax_bi_def]
  omega
section AXN
variable {a b : Nat} {x y r : Nat × Nat}
theorem ax_add_ok (ha : a < 4294967296) (hb : b < 4294967296) (hx : x.1 ≤ rx_bi a ∧ rx_bi a ≤ x.2) (hy : y.1 ≤ rx_bi b ∧ rx_bi b ≤ y.2) (h : ax_b_add x y = r) : ∃ c, rx_f_add a b = some c ∧ c < 4294967296 ∧ r.1 ≤ rx_bi c ∧ rx_bi c ≤ r.2 := by
  refine ⟨(a + b) % 4294967296, rfl, Nat.mod_lt _ (by decide), ?_⟩
  rcases ax_condY h with ⟨hc, rfl⟩ | ⟨-, rfl⟩
  · obtain ⟨c1, c2⟩ := rx_and2.mp hc
    have c1 : 2147483648 ≤ x.1 + y.1 := rx_ble.mp c1
    have c2 : x.2 + y.2 < 6442450944 := rx_blt.mp c2
    show x.1 + y.1 - 2147483648 ≤ _ ∧ _ ≤ x.2 + y.2 - 2147483648
    rw [ax_bi_def] at hx hy ⊢
    omega
  · exact ax_full_ok _
theorem ax_sub_ok (ha : a < 4294967296) (hb : b < 4294967296) (hx : x.1 ≤ rx_bi a ∧ rx_bi a ≤ x.2) (hy : y.1 ≤ rx_bi b ∧ rx_bi b ≤ y.2) (h : ax_b_sub x y = r) : ∃ c, rx_f_sub a b = some c ∧ c < 4294967296 ∧ r.1 ≤ rx_bi c ∧ rx_bi c ≤ r.2 := by
  refine ⟨(a + (4294967296 - b % 4294967296)) % 4294967296, rfl, Nat.mod_lt _ (by decide), ?_⟩
  rcases ax_condY h with ⟨hc, rfl⟩ | ⟨-, rfl⟩
  · obtain ⟨c1, c2⟩ := rx_and2.mp hc
    have c1 : y.2 ≤ x.1 + 2147483648 := rx_ble.mp c1
    have c2 : x.2 + 2147483648 < y.1 + 4294967296 := rx_blt.mp c2
    show x.1 + 2147483648 - y.2 ≤ _ ∧ _ ≤ x.2 + 2147483648 - y.1
    rw [ax_bi_def] at hx hy ⊢
    omega
  · exact ax_full_ok _
theorem ax_mul_ok (ha : a < 4294967296) (hb : b < 4294967296) (hx : x.1 ≤ rx_bi a ∧ rx_bi a ≤ x.2) (hy : y.1 ≤ rx_bi b ∧ rx_bi b ≤ y.2) (h : ax_b_mul x y = r) : ∃ c, rx_f_mul a b = some c ∧ c < 4294967296 ∧ r.1 ≤ rx_bi c ∧ rx_bi c ≤ r.2 := by
  refine ⟨(a * b) % 4294967296, rfl, Nat.mod_lt _ (by decide), ?_⟩
  rcases ax_condY h with ⟨hc, rfl⟩ | ⟨-, rfl⟩
  · obtain ⟨c1, hc⟩ := rx_and2.mp hc
    obtain ⟨c2, c3⟩ := rx_and2.mp hc
    have c3 : (x.2 - 2147483648) * (y.2 - 2147483648) < 2147483648 := rx_blt.mp c3
    obtain ⟨p1, p2⟩ := ax_geN c1 ha hx.1
    obtain ⟨q1, q2⟩ := ax_geN c2 hb hy.1
    have l1 : a * b ≤ (x.2 - 2147483648) * (y.2 - 2147483648) := Nat.mul_le_mul (by omega) (by omega)
    have l2 : (x.1 - 2147483648) * (y.1 - 2147483648) ≤ a * b := Nat.mul_le_mul (by omega) (by omega)
    exact ax_h2 l2 l1 c3
  · exact ax_full_ok _
theorem ax_and_ok (ha : a < 4294967296) (hb : b < 4294967296) (hx : x.1 ≤ rx_bi a ∧ rx_bi a ≤ x.2) (hy : y.1 ≤ rx_bi b ∧ rx_bi b ≤ y.2) (h : ax_b_and x y = r) : ∃ c, rx_f_and a b = some c ∧ c < 4294967296 ∧ r.1 ≤ rx_bi c ∧ rx_bi c ≤ r.2 := by
  refine ⟨(a &&& b) % 4294967296, rfl, Nat.mod_lt _ (by decide), ?_⟩
  have l1 : a &&& b ≤ a := Nat.and_le_left
  have l2 : a &&& b ≤ b := Nat.and_le_right
  generalize a &&& b = z at l1 l2 ⊢
  rcases ax_condY h with ⟨hc, rfl⟩ | ⟨-, h⟩
  · obtain ⟨q1, q2⟩ := ax_geN hc hb hy.1
    show 2147483648 ≤ _ ∧ _ ≤ y.2
    rw [ax_bi_def]
    omega
  · rcases ax_condY h with ⟨hc, rfl⟩ | ⟨-, rfl⟩
    · obtain ⟨q1, q2⟩ := ax_geN hc ha hx.1
      show 2147483648 ≤ _ ∧ _ ≤ x.2
      rw [ax_bi_def]
      omega
    · exact ax_full_ok _
theorem ax_shr_ok (ha : a < 4294967296) (hb : b < 4294967296) (hx : x.1 ≤ rx_bi a ∧ rx_bi a ≤ x.2) (hy : y.1 ≤ rx_bi b ∧ rx_bi b ≤ y.2) (h : ax_b_shr x y = r) : ∃ c, rx_f_shr a b = some c ∧ c < 4294967296 ∧ r.1 ≤ rx_bi c ∧ rx_bi c ≤ r.2 := by
  refine ⟨_, rfl, ax_i32_lt _, ?_⟩
  rcases ax_condY h with ⟨hc, rfl⟩ | ⟨-, rfl⟩
  · obtain ⟨c1, hc⟩ := rx_and2.mp hc
    obtain ⟨c2, hc⟩ := rx_and2.mp hc
    obtain ⟨c3, c4⟩ := rx_and2.mp hc
    have c2 : y.1 = y.2 := rx_beq.mp c2
    have c4 : y.1 < 2147483680 := rx_blt.mp c4
    obtain ⟨p1, p2⟩ := ax_geN c1 ha hx.1
    obtain ⟨q1, q2⟩ := ax_geN c3 hb hy.1
    have hk : y.1 - 2147483648 = b := by omega
    have hb32 : b < 32 := by omega
    have e : Int32.ofNat a >>> (Int32.ofNat b &&& 31) = nI (a / 2 ^ b) := by
      rw [show Int32.ofNat b &&& 31 = nI (b % 32) from rx_m31 b, Nat.mod_eq_of_lt hb32]
      exact pk_shrN p1 (nI b) b (rx_s_l0 b hb32)
    have l0 : a / 2 ^ b ≤ a := Nat.div_le_self _ _
    rw [e, ax_i32_nI (by omega)]
    have l1 : (x.1 - 2147483648) / 2 ^ b ≤ a / 2 ^ b := Nat.div_le_div_right (by omega)
    have l2 : a / 2 ^ b ≤ (x.2 - 2147483648) / 2 ^ b := Nat.div_le_div_right (by omega)
    show (x.1 - 2147483648) / 2 ^ (y.1 - 2147483648) + 2147483648 ≤ _ ∧ _ ≤ (x.2 - 2147483648) / 2 ^ (y.1 - 2147483648) + 2147483648
    rw [hk]
    exact ax_h1 l1 l2 (by omega)
  · exact ax_full_ok _
theorem ax_n0_ok (hb : b < 4294967296) (hy : y.1 ≤ rx_bi b ∧ rx_bi b ≤ y.2) (h : ax_n0 y = true) : Nat.beq (Nat.mod b 4294967296) 0 = false := by
  refine Bool.eq_false_iff.mpr (fun z => ?_)
  have z : b % 4294967296 = 0 := rx_beq.mp z
  rw [ax_bi_def] at hy
  rcases rx_or2.mp h with h | h
  · have h := rx_blt.mp h; omega
  · have h := rx_blt.mp h; omega
theorem ax_div_ok (ha : a < 4294967296) (hb : b < 4294967296) (hx : x.1 ≤ rx_bi a ∧ rx_bi a ≤ x.2) (hy : y.1 ≤ rx_bi b ∧ rx_bi b ≤ y.2) (h : ax_b_div x y = some r) : ∃ c, rx_f_div a b = some c ∧ c < 4294967296 ∧ r.1 ≤ rx_bi c ∧ rx_bi c ≤ r.2 := by
  have key : ∀ hn : Nat.beq (Nat.mod b 4294967296) 0 = false, rx_f_div a b = some (rx_i32 (Int32.ofNat a / Int32.ofNat b)) := fun hn => by unfold rx_f_div; rw [hn]; rfl
  rcases ax_condY h with ⟨hc, hr⟩ | ⟨-, h⟩
  · obtain ⟨c1, c2⟩ := rx_and2.mp hc
    have c2' : 2147483648 < y.1 := rx_blt.mp c2
    have hn := ax_n0_ok hb hy (rx_or2.mpr (Or.inl c2))
    refine ⟨_, key hn, ax_i32_lt _, ?_⟩
    cases hr
    obtain ⟨p1, p2⟩ := ax_geN c1 ha hx.1
    have q1 : b < 2147483648 ∧ rx_bi b = b + 2147483648 ∧ 0 < b := by rw [ax_bi_def] at hy ⊢; omega
    obtain ⟨q1, q2, q3⟩ := q1
    have e : Int32.ofNat a / Int32.ofNat b = nI (a / b) := pk_div p1 q3 q1
    have l0 : a / b ≤ a := Nat.div_le_self _ _
    rw [e, ax_i32_nI (by omega)]
    have l1 : (x.1 - 2147483648) / (y.2 - 2147483648) ≤ a / b := Nat.le_trans (Nat.div_le_div_right (by omega)) (Nat.div_le_div_left (by omega) q3)
    have l2 : a / b ≤ (x.2 - 2147483648) / (y.1 - 2147483648) := Nat.le_trans (Nat.div_le_div_right (show a ≤ x.2 - 2147483648 by omega)) (Nat.div_le_div_left (by omega) (by omega))
    exact ax_h1 l1 l2 (by omega)
  · obtain ⟨hn, h⟩ := rx_cond h
    cases h
    exact ⟨_, key (ax_n0_ok hb hy hn), ax_i32_lt _, ax_full_ok _⟩
theorem ax_rem_ok (ha : a < 4294967296) (hb : b < 4294967296) (hx : x.1 ≤ rx_bi a ∧ rx_bi a ≤ x.2) (hy : y.1 ≤ rx_bi b ∧ rx_bi b ≤ y.2) (h : ax_b_rem x y = some r) : ∃ c, rx_f_rem a b = some c ∧ c < 4294967296 ∧ r.1 ≤ rx_bi c ∧ rx_bi c ≤ r.2 := by
  have key : ∀ hn : Nat.beq (Nat.mod b 4294967296) 0 = false, rx_f_rem a b = some (rx_i32 (Int32.ofNat a - Int32.ofNat a / Int32.ofNat b * Int32.ofNat b)) := fun hn => by unfold rx_f_rem; rw [hn]; rfl
  rcases ax_condY h with ⟨hc, hr⟩ | ⟨-, h⟩
  · obtain ⟨c1, c2⟩ := rx_and2.mp hc
    have c2' : 2147483648 < y.1 := rx_blt.mp c2
    have hn := ax_n0_ok hb hy (rx_or2.mpr (Or.inl c2))
    refine ⟨_, key hn, ax_i32_lt _, ?_⟩
    cases hr
    obtain ⟨p1, p2⟩ := ax_geN c1 ha hx.1
    have q1 : b < 2147483648 ∧ rx_bi b = b + 2147483648 ∧ 0 < b := by rw [ax_bi_def] at hy ⊢; omega
    obtain ⟨q1, q2, q3⟩ := q1
    have e : Int32.ofNat a - Int32.ofNat a / Int32.ofNat b * Int32.ofNat b = nI (a % b) := pk_rem p1 q3 q1
    have l0 : a % b ≤ a := Nat.mod_le _ _
    have l1 : a % b < b := Nat.mod_lt _ q3
    rw [e, ax_i32_nI (by omega)]
    generalize a % b = z at l0 l1 ⊢
    have hm : z + 2147483648 ≤ ax_min x.2 (Nat.pred y.2) := by
      unfold ax_min
      cases Nat.ble x.2 (Nat.pred y.2) with
      | true => show _ ≤ x.2; omega
      | false => show _ ≤ y.2 - 1; omega
    show 2147483648 ≤ _ ∧ _ ≤ ax_min x.2 (Nat.pred y.2)
    rw [ax_bi_def]
    omega
  · obtain ⟨hn, h⟩ := rx_cond h
    cases h
    exact ⟨_, key (ax_n0_ok hb hy hn), ax_i32_lt _, ax_full_ok _⟩
theorem ax_bop_ok {o : Nat} (ha : a < 4294967296) (hb : b < 4294967296) (hx : x.1 ≤ rx_bi a ∧ rx_bi a ≤ x.2) (hy : y.1 ≤ rx_bi b ∧ rx_bi b ≤ y.2) (h : ax_bop o x y = some r) : ∃ c, ax_f o a b = some c ∧ c < 4294967296 ∧ r.1 ≤ rx_bi c ∧ rx_bi c ≤ r.2 := by
  match o, h with
  | 0, h => exact ax_add_ok ha hb hx hy (Option.some.inj h)
  | 1, h => exact ax_sub_ok ha hb hx hy (Option.some.inj h)
  | 2, h => exact ax_mul_ok ha hb hx hy (Option.some.inj h)
  | 3, h => exact ax_and_ok ha hb hx hy (Option.some.inj h)
  | 4, h => cases Option.some.inj h; exact ⟨_, rfl, Nat.mod_lt _ (by decide), ax_full_ok _⟩
  | 5, h => cases Option.some.inj h; exact ⟨_, rfl, Nat.mod_lt _ (by decide), ax_full_ok _⟩
  | 6, h => cases Option.some.inj h; exact ⟨_, rfl, Nat.mod_lt _ (by decide), ax_full_ok _⟩
  | 7, h => exact ax_shr_ok ha hb hx hy (Option.some.inj h)
  | 8, h =>
    cases Option.some.inj h
    refine ⟨_, rfl, ?_, ax_full_ok _⟩
    have : a % 4294967296 / 2 ^ (b % 32) ≤ a % 4294967296 := Nat.div_le_self _ _
    show a % 4294967296 / 2 ^ (b % 32) < 4294967296
    omega
  | 9, h => exact ax_div_ok ha hb hx hy h
  | 10, h => exact ax_rem_ok ha hb hx hy h
  | n + 11, h =>
    have e : ∀ k, k < 11 → Nat.beq (n + 11) k = false := fun k hk => Bool.eq_false_iff.mpr (fun z => by have := rx_beq.mp z; omega)
    have e8 : Nat.ble (n + 11) 8 = false := Bool.eq_false_iff.mpr (fun z => by have := rx_ble.mp z; omega)
    unfold ax_bop at h
    rw [e 0 (by decide), e 1 (by decide), e 2 (by decide), e 3 (by decide), e 7 (by decide), e 9 (by decide), e 10 (by decide), e8] at h
    cases h
/-- a sum that is exact -/
theorem ax_exact_ok {o c : Nat} (ha : a < 4294967296) (hb : b < 4294967296) (hc : c < 4294967296) (hx : x.1 ≤ rx_bi a ∧ rx_bi a ≤ x.2) (hy : y.1 ≤ rx_bi b ∧ rx_bi b ≤ y.2) (h : ax_exact o x y = true) (hf : ax_f o a b = some c) : (o = 0 ∧ rx_bi a + rx_bi b = rx_bi c + 2147483648) ∨ (o = 1 ∧ rx_bi c + rx_bi b = rx_bi a + 2147483648) := by
  rcases ax_condY h with ⟨h0, h1⟩ | ⟨-, h1⟩
  · have h0 := rx_beq.mp h0
    subst h0
    obtain ⟨c1, c2⟩ := rx_and2.mp h1
    have c1 : 2147483648 ≤ x.1 + y.1 := rx_ble.mp c1
    have c2 : x.2 + y.2 < 6442450944 := rx_blt.mp c2
    have hf : (a + b) % 4294967296 = c := Option.some.inj hf
    refine Or.inl ⟨rfl, ?_⟩
    rw [ax_bi_def] at hx hy ⊢
    rw [ax_bi_def, ax_bi_def]
    omega
  · obtain ⟨h2, h3⟩ := rx_and2.mp h1
    have h4 := rx_beq.mp h2
    subst h4
    obtain ⟨c1, c2⟩ := rx_and2.mp h3
    have c1 : y.2 ≤ x.1 + 2147483648 := rx_ble.mp c1
    have c2 : x.2 + 2147483648 < y.1 + 4294967296 := rx_blt.mp c2
    have hf : (a + (4294967296 - b % 4294967296)) % 4294967296 = c := Option.some.inj hf
    refine Or.inr ⟨rfl, ?_⟩
    rw [ax_bi_def] at hx hy ⊢
    rw [ax_bi_def, ax_bi_def]
    omega
end AXN
end
section
/-- only types have changed -/
noncomputable def ax_Sm (E E' : ax_E) : Prop := E'.1 = E.1 ∧ E'.2.2 = E.2.2
theorem ax_Sm.rf {E : ax_E} : ax_Sm E E := ⟨rfl, rfl⟩
theorem ax_Sm.tr {E F G : ax_E} (h : ax_Sm E F) (k : ax_Sm F G) : ax_Sm E G := ⟨k.1.trans h.1, k.2.trans h.2⟩
section AXR
variable {w : ax_W} {X : ax_X} {ρ : Nat → Nat} {E : ax_E} {hp : rx_H}
theorem ax_setT_ok (hE : ax_EO w X ρ E hp) {k : Nat} {t : ax_Y} (hk : k < E.1) (ht : ax_ok w t (ρ k)) : ax_EO w X ρ (ax_setT E k t) hp := by
  refine ⟨?_, ?_, hE.2.2⟩
  · show (rx_upd E.2.1 (E.1 - 1 - k) t).length = E.1
    rw [rx_upd_eq, List.length_set]
    exact hE.1
  · intro k' s hk' hs
    replace hs : (rx_upd E.2.1 (E.1 - 1 - k) t)[E.1 - 1 - k']? = some s := hs
    replace hk' : k' < E.1 := hk'
    rw [rx_upd_eq] at hs
    by_cases e : k' = k
    · subst e
      have hl : E.1 - 1 - k' < E.2.1.length := by rw [hE.1]; omega
      rw [List.getElem?_set_self hl] at hs
      cases hs
      exact ht
    · rw [List.getElem?_set_ne (by omega)] at hs
      exact hE.2.1 k' s hk' hs
theorem ax_max_le {a b c : Nat} (h1 : a ≤ c) (h2 : b ≤ c) : ax_max a b ≤ c := by
  unfold ax_max
  cases Nat.ble a b <;> assumption
theorem ax_le_min {a b c : Nat} (h1 : c ≤ a) (h2 : c ≤ b) : c ≤ ax_min a b := by
  unfold ax_min
  cases Nat.ble a b <;> assumption
theorem ax_ref2_ok (hE : ax_EO w X ρ E hp) {v x a b : Nat} (hx : ax_ev E.1 ρ v = some x) (h0 : x % 4 = 0) (h1 : x / 4 < 4294967296) (ha : a ≤ rx_bi (x / 4)) (hb : rx_bi (x / 4) ≤ b) : ∃ E', ax_ref2 E v a b = some E' ∧ ax_EO w X ρ E' hp ∧ ax_Sm E E' := by
  unfold ax_ref2
  rw [rx_ble.mpr (Nat.le_trans ha hb), cond_true]
  cases h3 : Nat.beq (rx_tk v) 3 with
  | false => exact ⟨E, rfl, hE, ax_Sm.rf⟩
  | true =>
    have h3 : v % 4 = 3 := rx_beq.mp h3
    unfold ax_ev at hx
    rw [if_pos h3] at hx
    by_cases hl : v / 4 < E.1
    · rw [if_pos hl] at hx
      cases hx
      exact ⟨_, rfl, ax_setT_ok hE hl (Or.inl ⟨rfl, h0, h1, ha, hb⟩), ⟨rfl, rfl⟩⟩
    · rw [if_neg hl] at hx; cases hx
theorem ax_ref1_ok (hE : ax_EO w X ρ E hp) {v x lo hi : Nat} (hx : ax_ev E.1 ρ v = some x) (ha : lo ≤ rx_bi (x / 4)) (hb : rx_bi (x / 4) ≤ hi) : ∃ E', ax_ref1 E v lo hi = some E' ∧ ax_EO w X ρ E' hp ∧ ax_Sm E E' := by
  unfold ax_ref1
  cases hi' : ax_iv E v with
  | none => exact ⟨E, rfl, hE, ax_Sm.rf⟩
  | some i =>
    obtain ⟨h0, h1, h2, h3⟩ := ax_iv_ok hE hi' hx
    exact ax_ref2_ok hE hx h0 h1 (ax_max_le h2 ha) (ax_le_min h3 hb)
theorem ax_Sm.ev {E' : ax_E} (h : ax_Sm E E') (v : Nat) : ax_ev E'.1 ρ v = ax_ev E.1 ρ v := by rw [h.1]
theorem ax_tri1_ok (hE : ax_EO w X ρ E hp) {p q r : Nat} (hd : ax_DO E.1 ρ (p, q, r)) : ∃ E', ax_tri1 E p q r = some E' ∧ ax_EO w X ρ E' hp ∧ ax_Sm E E' := by
  obtain ⟨a, b, c, h1, h2, h3, h4, h5, h6, h7⟩ := hd
  unfold ax_tri1
  cases e1 : ax_iv E p with
  | none => exact ⟨E, rfl, hE, ax_Sm.rf⟩
  | some ip =>
    cases e2 : ax_iv E q with
    | none => exact ⟨E, rfl, hE, ax_Sm.rf⟩
    | some iq =>
      cases e3 : ax_iv E r with
      | none => exact ⟨E, rfl, hE, ax_Sm.rf⟩
      | some ir =>
        have d4 : ∀ z : Nat, 4 * z / 4 = z := fun z => by omega
        obtain ⟨-, -, p1, p2⟩ := ax_iv_ok hE e1 h1
        obtain ⟨-, -, q1, q2⟩ := ax_iv_ok hE e2 h2
        obtain ⟨-, -, r1, r2⟩ := ax_iv_ok hE e3 h3
        rw [d4] at p1 p2 q1 q2 r1 r2
        obtain ⟨E1, f1, f2, f3⟩ := ax_ref1_ok (lo := Nat.sub (Nat.add ir.1 2147483648) iq.2) (hi := Nat.sub (Nat.add ir.2 2147483648) iq.1) hE h1 (by rw [d4]; show ir.1 + 2147483648 - iq.2 ≤ _; omega) (by rw [d4]; show _ ≤ ir.2 + 2147483648 - iq.1; omega)
        obtain ⟨E2, g1, g2, g3⟩ := ax_ref1_ok (v := q) (lo := Nat.sub (Nat.add ir.1 2147483648) ip.2) (hi := Nat.sub (Nat.add ir.2 2147483648) ip.1) f2 (by rw [f3.ev]; exact h2) (by rw [d4]; show ir.1 + 2147483648 - ip.2 ≤ _; omega) (by rw [d4]; show _ ≤ ir.2 + 2147483648 - ip.1; omega)
        obtain ⟨E3, k1, k2, k3⟩ := ax_ref1_ok (v := r) (lo := Nat.sub (Nat.add ip.1 iq.1) 2147483648) (hi := Nat.sub (Nat.add ip.2 iq.2) 2147483648) g2 (by rw [g3.ev, f3.ev]; exact h3) (by rw [d4]; show ip.1 + iq.1 - 2147483648 ≤ _; omega) (by rw [d4]; show _ ≤ ip.2 + iq.2 - 2147483648; omega)
        refine ⟨E3, ?_, k2, f3.tr (g3.tr k3)⟩
        show ax_bind (ax_ref1 E p _ _) _ = some E3
        rw [f1]
        show ax_bind (ax_ref1 E1 q _ _) _ = some E3
        rw [g1]
        exact k1
theorem ax_prop_ok (hE : ax_EO w X ρ E hp) (v : Nat) : ∃ E', ax_prop E v = some E' ∧ ax_EO w X ρ E' hp ∧ ax_Sm E E' := by
  have gen : ∀ l : List (Nat × Nat × Nat), (∀ d ∈ l, ax_DO E.1 ρ d) → ∃ E', List.rec (motive := fun _ => Option ax_E) (some E) (fun d _ ih => ax_bind ih (fun E1 => bif Nat.beq d.1 v || (Nat.beq d.2.1 v || Nat.beq d.2.2 v) then ax_tri1 E1 d.1 d.2.1 d.2.2 else some E1)) l = some E' ∧ ax_EO w X ρ E' hp ∧ ax_Sm E E' := by
    intro l
    induction l with
    | nil => intro _; exact ⟨E, rfl, hE, ax_Sm.rf⟩
    | cons d l ih =>
      intro hl
      obtain ⟨E1, f1, f2, f3⟩ := ih (fun d' h' => hl d' (List.mem_cons_of_mem _ h'))
      have hd := hl d List.mem_cons_self
      show ∃ E', ax_bind (List.rec (motive := fun _ => Option ax_E) (some E) _ l) _ = some E' ∧ _
      rw [f1]
      show ∃ E', (bif Nat.beq d.1 v || (Nat.beq d.2.1 v || Nat.beq d.2.2 v) then ax_tri1 E1 d.1 d.2.1 d.2.2 else some E1) = some E' ∧ _
      cases (Nat.beq d.1 v || (Nat.beq d.2.1 v || Nat.beq d.2.2 v)) with
      | false => exact ⟨E1, rfl, f2, f3⟩
      | true =>
        obtain ⟨E2, g1, g2, g3⟩ := ax_tri1_ok f2 (p := d.1) (q := d.2.1) (r := d.2.2) (by rw [f3.1]; exact hd)
        exact ⟨E2, g1, g2, f3.tr g3⟩
  exact gen (ax_df E) hE.2.2.2.1
theorem ax_refine_ok (hE : ax_EO w X ρ E hp) {v x lo hi : Nat} (hx : ax_ev E.1 ρ v = some x) (ha : lo ≤ rx_bi (x / 4)) (hb : rx_bi (x / 4) ≤ hi) : ∃ E', ax_refine E v lo hi = some E' ∧ ax_EO w X ρ E' hp ∧ ax_Sm E E' := by
  unfold ax_refine
  obtain ⟨E1, f1, f2, f3⟩ := ax_ref1_ok hE hx ha hb
  cases Nat.beq (rx_tk v) 3 with
  | false => exact ⟨E1, f1, f2, f3⟩
  | true =>
    obtain ⟨E2, g1, g2, g3⟩ := ax_prop_ok f2 v
    refine ⟨E2, ?_, g2, f3.tr g3⟩
    show ax_bind (ax_ref1 E v lo hi) _ = some E2
    rw [f1]
    exact g1
theorem ax_bi_max (x : Nat) : rx_bi x ≤ 4294967295 := by rw [ax_bi_def]; omega
theorem ax_asLe_ok (hE : ax_EO w X ρ E hp) {p q x y s : Nat} (hx : ax_ev E.1 ρ p = some x) (hy : ax_ev E.1 ρ q = some y) (h : rx_bi (x / 4) + s ≤ rx_bi (y / 4)) : ∃ E', ax_asLe E p q s = some E' ∧ ax_EO w X ρ E' hp ∧ ax_Sm E E' := by
  unfold ax_asLe
  cases e1 : ax_iv E p with
  | none => exact ⟨E, rfl, hE, ax_Sm.rf⟩
  | some ix =>
    cases e2 : ax_iv E q with
    | none => exact ⟨E, rfl, hE, ax_Sm.rf⟩
    | some iy =>
      obtain ⟨-, -, p1, p2⟩ := ax_iv_ok hE e1 hx
      obtain ⟨-, -, q1, q2⟩ := ax_iv_ok hE e2 hy
      show ∃ E', (bif Nat.ble s iy.2 then _ else none) = some E' ∧ _
      rw [rx_ble.mpr (show s ≤ iy.2 by omega), cond_true]
      obtain ⟨E1, f1, f2, f3⟩ := ax_refine_ok (lo := 0) (hi := Nat.sub iy.2 s) hE hx (Nat.zero_le _) (by show _ ≤ iy.2 - s; omega)
      obtain ⟨E2, g1, g2, g3⟩ := ax_refine_ok (v := q) (lo := Nat.add ix.1 s) (hi := 4294967295) f2 (by rw [f3.ev]; exact hy) (by show ix.1 + s ≤ _; omega) (ax_bi_max _)
      refine ⟨E2, ?_, g2, f3.tr g3⟩
      rw [f1]
      exact g1
theorem ax_asEq_ok (hE : ax_EO w X ρ E hp) {p q x y : Nat} (hx : ax_ev E.1 ρ p = some x) (hy : ax_ev E.1 ρ q = some y) (h : rx_bi (x / 4) = rx_bi (y / 4)) : ∃ E', ax_asEq E p q = some E' ∧ ax_EO w X ρ E' hp ∧ ax_Sm E E' := by
  unfold ax_asEq
  cases e1 : ax_iv E p with
  | none => exact ⟨E, rfl, hE, ax_Sm.rf⟩
  | some ix =>
    cases e2 : ax_iv E q with
    | none => exact ⟨E, rfl, hE, ax_Sm.rf⟩
    | some iy =>
      obtain ⟨-, -, p1, p2⟩ := ax_iv_ok hE e1 hx
      obtain ⟨-, -, q1, q2⟩ := ax_iv_ok hE e2 hy
      obtain ⟨E1, f1, f2, f3⟩ := ax_refine_ok (lo := iy.1) (hi := iy.2) hE hx (by rw [h]; exact q1) (by rw [h]; exact q2)
      obtain ⟨E2, g1, g2, g3⟩ := ax_refine_ok (v := q) (lo := ix.1) (hi := ix.2) f2 (by rw [f3.ev]; exact hy) (by rw [← h]; exact p1) (by rw [← h]; exact p2)
      refine ⟨E2, ?_, g2, f3.tr g3⟩
      show ax_bind (ax_refine E p iy.1 iy.2) _ = some E2
      rw [f1]
      exact g1
theorem ax_ne1_ok (hE : ax_EO w X ρ E hp) {p x c : Nat} (hx : ax_ev E.1 ρ p = some x) (h : rx_bi (x / 4) ≠ c) : ∃ E' ∈ ax_ne1 E p c, ax_EO w X ρ E' hp ∧ ax_Sm E E' := by
  unfold ax_ne1
  by_cases hl : rx_bi (x / 4) < c
  · obtain ⟨E1, f1, f2, f3⟩ := ax_refine_ok (lo := 0) (hi := Nat.pred c) hE hx (Nat.zero_le _) (by show _ ≤ c - 1; omega)
    refine ⟨E1, List.mem_append_left _ ?_, f2, f3⟩
    rw [rx_blt.mpr (show 0 < c by omega), cond_true, f1]
    exact List.mem_cons_self
  · obtain ⟨E1, f1, f2, f3⟩ := ax_refine_ok (lo := Nat.succ c) (hi := 4294967295) hE hx (by show c + 1 ≤ _; omega) (ax_bi_max _)
    refine ⟨E1, List.mem_append_right _ ?_, f2, f3⟩
    rw [f1]
    exact List.mem_cons_self
theorem ax_asNe_ok (hE : ax_EO w X ρ E hp) {p q x y : Nat} (hx : ax_ev E.1 ρ p = some x) (hy : ax_ev E.1 ρ q = some y) (h : rx_bi (x / 4) ≠ rx_bi (y / 4)) : ∃ E' ∈ ax_asNe E p q, ax_EO w X ρ E' hp ∧ ax_Sm E E' := by
  unfold ax_asNe
  cases e1 : ax_iv E p with
  | none => exact ⟨E, List.mem_cons_self, hE, ax_Sm.rf⟩
  | some ix =>
    cases e2 : ax_iv E q with
    | none => exact ⟨E, List.mem_cons_self, hE, ax_Sm.rf⟩
    | some iy =>
      obtain ⟨-, -, p1, p2⟩ := ax_iv_ok hE e1 hx
      obtain ⟨-, -, q1, q2⟩ := ax_iv_ok hE e2 hy
      show ∃ E' ∈ (bif Nat.beq iy.1 iy.2 then ax_ne1 E p iy.1 else bif Nat.beq ix.1 ix.2 then ax_ne1 E q ix.1 else [E]), _
      cases h1 : Nat.beq iy.1 iy.2 with
      | true =>
        have h1 := rx_beq.mp h1
        exact ax_ne1_ok hE hx (by omega)
      | false =>
        rw [cond_false]
        cases h2 : Nat.beq ix.1 ix.2 with
        | true =>
          have h2 := rx_beq.mp h2
          exact ax_ne1_ok hE hy (by omega)
        | false => exact ⟨E, List.mem_cons_self, hE, ax_Sm.rf⟩
theorem ax_p0 {a b : Nat} (h : a ≤ b) : a + 0 ≤ b := h
theorem ax_yes_ok (hE : ax_EO w X ρ E hp) {k p q x y : Nat} (hx : ax_ev E.1 ρ p = some x) (hy : ax_ev E.1 ρ q = some y) (h : ax_cnd k (rx_bi (x / 4)) (rx_bi (y / 4))) : ∃ E' ∈ ax_yes E k p q, ax_EO w X ρ E' hp ∧ ax_Sm E E' := by
  have one : ∀ {o : Option ax_E}, (∃ E', o = some E' ∧ ax_EO w X ρ E' hp ∧ ax_Sm E E') → ∃ E' ∈ ax_lst o, ax_EO w X ρ E' hp ∧ ax_Sm E E' := by
    intro o ho
    obtain ⟨E', h1, h2⟩ := ho
    exact ⟨E', by rw [h1]; exact List.mem_cons_self, h2⟩
  match k, h with
  | 0, h => exact one (ax_asEq_ok hE hx hy h)
  | 1, h => exact ax_asNe_ok hE hx hy h
  | 2, h => exact one (ax_asLe_ok hE hx hy (s := 1) h)
  | 3, h => exact one (ax_asLe_ok hE hy hx (s := 0) (ax_p0 h))
  | 4, h => exact one (ax_asLe_ok hE hy hx (s := 1) h)
  | n + 5, h =>
    have e : ∀ k, k < 5 → Nat.beq (n + 5) k = false := fun k hk => Bool.eq_false_iff.mpr (fun z => by have := rx_beq.mp z; omega)
    unfold ax_yes
    rw [e 0 (by decide), e 1 (by decide), e 2 (by decide), e 3 (by decide), e 4 (by decide)]
    exact one (ax_asLe_ok hE hx hy (s := 0) (ax_p0 h))
theorem ax_not_ok {k x y : Nat} (hk : k < 6) (h : ¬ ax_cnd k x y) : ax_cnd (ax_not k) x y := by
  match k, hk, h with
  | 0, _, h => exact h
  | 1, _, h => exact (show x = y from Decidable.byContradiction (fun z => h z))
  | 2, _, h => exact Nat.not_lt.mp h
  | 3, _, h => exact Nat.not_le.mp h
  | 4, _, h => exact Nat.not_lt.mp h
  | 5, _, h => exact Nat.not_le.mp h
  | n + 6, hk, _ => omega
end AXR
end
section
/-- named facts stand on what they say they stand on -/
noncomputable def ax_XD (w : ax_W) (X : ax_X) : Prop := ∀ (x : Nat) (vs : List Nat) (dl md : List (Nat × Nat)) (hp hp' : rx_H), w.2.2[x]? = some dl → dl.all (fun d => !(md.any (fun y => Nat.beq y.1 d.1 && (Nat.beq y.2 d.2 || (Nat.beq y.2 999 || Nat.beq d.2 999))))) = true → ax_HR w md hp hp' → X x vs hp → X x vs hp'
theorem ax_at_cons (x : Nat × ax_Y) (l : List (Nat × ax_Y)) (i : Nat) : ax_at (x :: l) i = (match ax_at l i with
  | some t => some t
  | none => bif Nat.ble x.1 i then some x.2 else none) := rfl
theorem ax_at_none : ∀ {l : List (Nat × ax_Y)} {i a : Nat}, ax_at l i = none → a ≤ i → ax_at l a = none
  | [], _, _, _, _ => rfl
  | x :: l, i, a, h, ha => by
    rw [ax_at_cons] at h ⊢
    cases e : ax_at l i with
    | some t => rw [e] at h; cases h
    | none =>
      rw [e] at h
      rw [ax_at_none e ha]
      show (bif Nat.ble x.1 a then some x.2 else none) = none
      cases hb : Nat.ble x.1 a with
      | false => rfl
      | true =>
        have hb := rx_ble.mp hb
        replace h : (bif Nat.ble x.1 i then some x.2 else none) = none := h
        rw [rx_ble.mpr (Nat.le_trans hb ha)] at h
        cases h
theorem ax_at_or : ∀ {l : List (Nat × ax_Y)} {i a : Nat} {s : ax_Y}, ax_at l i = some s → a ≤ i → ax_at l a = some s ∨ ∃ x ∈ l, a < x.1 ∧ x.1 ≤ i ∧ x.2 = s
  | [], _, _, _, h, _ => by cases h
  | x :: l, i, a, s, h, ha => by
    rw [ax_at_cons] at h
    cases e : ax_at l i with
    | some t =>
      rw [e] at h
      cases h
      rcases ax_at_or e ha with h1 | ⟨y, h1, h2⟩
      · left; rw [ax_at_cons, h1]
      · exact Or.inr ⟨y, List.mem_cons_of_mem _ h1, h2⟩
    | none =>
      rw [e] at h
      obtain ⟨h1, h2⟩ := rx_cond h
      cases h2
      have h1 := rx_ble.mp h1
      by_cases hb : x.1 ≤ a
      · left
        rw [ax_at_cons, ax_at_none e ha]
        show (bif Nat.ble x.1 a then some x.2 else none) = some x.2
        rw [rx_ble.mpr hb]; rfl
      · exact Or.inr ⟨x, List.mem_cons_self, by omega, h1, rfl⟩
theorem ax_at_some {l : List (Nat × ax_Y)} {i a : Nat} {s : ax_Y} (h : ax_at l a = some s) (ha : a ≤ i) : ∃ t, ax_at l i = some t := by
  cases e : ax_at l i with
  | some t => exact ⟨t, rfl⟩
  | none => rw [ax_at_none e ha] at h; cases h
section AXH
variable {w : ax_W}
theorem ax_eqY_ok {s t : ax_Y} (h : ax_eqY s t = true) : s = t := by
  obtain ⟨h1, h⟩ := rx_and2.mp h
  obtain ⟨h2, h3⟩ := rx_and2.mp h
  exact Prod.ext (rx_beq.mp h1) (Prod.ext (rx_beq.mp h2) (rx_beq.mp h3))
theorem ax_ok_wide {t : ax_Y} {a b v : Nat} (h0 : t.1 = 0) (h : ax_ok w t v) (h1 : a ≤ t.2.1) (h2 : t.2.2 ≤ b) : ax_ok w (0, a, b) v := by
  rcases h with ⟨-, p1, p2, p3, p4⟩ | ⟨p, -⟩ | ⟨p, -⟩ | ⟨p, -⟩
  · exact Or.inl ⟨rfl, p1, p2, Nat.le_trans h1 p3, Nat.le_trans p4 h2⟩
  · omega
  · omega
  · omega
theorem ax_min_l (a b : Nat) : ax_min a b ≤ a ∧ ax_min a b ≤ b := by
  unfold ax_min
  cases h : Nat.ble a b with
  | true => exact ⟨Nat.le_refl _, rx_ble.mp h⟩
  | false => exact ⟨by have : ¬ a ≤ b := fun z => by rw [rx_ble.mpr z] at h; cases h
                       show b ≤ a; omega, Nat.le_refl _⟩
theorem ax_max_l (a b : Nat) : a ≤ ax_max a b ∧ b ≤ ax_max a b := by
  unfold ax_max
  cases h : Nat.ble a b with
  | true => exact ⟨rx_ble.mp h, Nat.le_refl _⟩
  | false => exact ⟨Nat.le_refl _, by have : ¬ a ≤ b := fun z => by rw [rx_ble.mpr z] at h; cases h
                                      show b ≤ a; omega⟩
theorem ax_join_ok {s t u : ax_Y} {v : Nat} (h : ax_join s t = some u) : (ax_ok w s v → ax_ok w u v) ∧ (ax_ok w t v → ax_ok w u v) := by
  rcases ax_condY h with ⟨hc, hr⟩ | ⟨-, h⟩
  · obtain ⟨c1, c2⟩ := rx_and2.mp hc
    cases hr
    exact ⟨fun k => ax_ok_wide (rx_beq.mp c1) k (ax_min_l _ _).1 (ax_max_l _ _).1, fun k => ax_ok_wide (rx_beq.mp c2) k (ax_min_l _ _).2 (ax_max_l _ _).2⟩
  · obtain ⟨hc, h⟩ := rx_cond h
    cases h
    have e := ax_eqY_ok hc
    exact ⟨id, fun k => by rw [e]; exact k⟩
theorem ax_hull_ok {l : List (Nat × ax_Y)} {a b i v : Nat} {t s : ax_Y} (h : ax_hull l a b = some t) (h1 : a ≤ i) (h2 : i ≤ b) (hs : ax_at l i = some s) (hv : ax_ok w s v) : ax_ok w t v := by
  have gen : ∀ (m : List (Nat × ax_Y)) (h0 : Option ax_Y) (t : ax_Y), List.rec (motive := fun _ => Option ax_Y) h0 (fun x _ ih => bif Nat.blt a x.1 && Nat.ble x.1 b then (match ih with
      | some t => ax_join x.2 t
      | none => none) else ih) m = some t → (∀ s0, h0 = some s0 → ax_ok w s0 v → ax_ok w t v) ∧ ∀ x ∈ m, a < x.1 → x.1 ≤ b → ax_ok w x.2 v → ax_ok w t v := by
    intro m h0
    induction m with
    | nil =>
      intro t ht
      refine ⟨fun s0 hs0 hk => ?_, fun x hx => absurd hx List.not_mem_nil⟩
      replace ht : h0 = some t := ht
      rw [hs0] at ht
      cases ht
      exact hk
    | cons x m ih =>
      intro t ht
      rcases ax_condY ht with ⟨hc, ht⟩ | ⟨hc, ht⟩
      · generalize hz : List.rec (motive := fun _ => Option ax_Y) h0 (fun x _ ih => bif Nat.blt a x.1 && Nat.ble x.1 b then (match ih with
          | some t => ax_join x.2 t
          | none => none) else ih) m = z at ht
        cases z with
        | none => cases ht
        | some z =>
          replace ht : ax_join x.2 z = some t := ht
          obtain ⟨g1, g2⟩ := ih z hz
          have hj := ax_join_ok (w := w) (v := v) ht
          refine ⟨fun s0 hs0 hk => hj.2 (g1 s0 hs0 hk), fun y hy => ?_⟩
          rcases List.mem_cons.mp hy with rfl | hy
          · exact fun _ _ hk => hj.1 hk
          · exact fun p1 p2 hk => hj.2 (g2 y hy p1 p2 hk)
      · obtain ⟨g1, g2⟩ := ih t ht
        refine ⟨g1, fun y hy => ?_⟩
        rcases List.mem_cons.mp hy with rfl | hy
        · intro p1 p2 _
          rw [rx_blt.mpr p1, rx_ble.mpr p2] at hc
          cases hc
        · exact g2 y hy
  obtain ⟨g1, g2⟩ := gen l (ax_at l a) t h
  rcases ax_at_or hs h1 with e | ⟨x, hx, p1, p2, rfl⟩
  · exact g1 s e hv
  · exact g2 x hx p1 (Nat.le_trans p2 h2) hv
theorem ax_sub_ty {t s : ax_Y} {v : Nat} (h : ax_sub w t s = true) (hv : ax_ok w t v) : ax_ok w s v := by
  rcases ax_condY h with ⟨h0, h⟩ | ⟨-, h⟩
  · obtain ⟨h1, h⟩ := rx_and2.mp h
    obtain ⟨h2, h3⟩ := rx_and2.mp h
    have e : s = (0, s.2.1, s.2.2) := by rw [← rx_beq.mp h0]
    rw [e]
    exact ax_ok_wide (rx_beq.mp h1) hv (rx_ble.mp h2) (rx_ble.mp h3)
  rcases ax_condY h with ⟨h0, h⟩ | ⟨-, h⟩
  · have h1 := rx_beq.mp h
    rcases hv with ⟨p, -⟩ | ⟨-, p⟩ | ⟨p, -⟩ | ⟨p, -⟩
    · omega
    · exact Or.inr (Or.inl ⟨rx_beq.mp h0, p⟩)
    · omega
    · omega
  rcases ax_condY h with ⟨h0, h⟩ | ⟨-, h⟩
  · have h0 := rx_beq.mp h0
    rcases ax_condY h with ⟨h1, h⟩ | ⟨-, h⟩
    · have h1 := rx_beq.mp h1
      have h2 := rx_beq.mp h
      rcases hv with ⟨p, -⟩ | ⟨p, -⟩ | ⟨-, p1, p2, p3, p4⟩ | ⟨p, -⟩
      · omega
      · omega
      · exact Or.inr (Or.inr (Or.inl ⟨h0, p1, p2, p3, by rw [← h2]; exact p4⟩))
      · omega
    · obtain ⟨h1, h⟩ := rx_and2.mp h
      obtain ⟨h2, h⟩ := rx_and2.mp h
      obtain ⟨h3, h⟩ := rx_and2.mp h
      obtain ⟨h4, h5⟩ := rx_and2.mp h
      have h1 := rx_beq.mp h1
      rcases hv with ⟨p, -⟩ | ⟨p, -⟩ | ⟨p, -⟩ | ⟨-, p1, p2⟩
      · omega
      · omega
      · omega
      · subst p1
        refine Or.inr (Or.inr (Or.inl ⟨h0, p2, rx_ble.mp h3, rx_blt.mp h4, ?_⟩))
        rw [rx_nth_eq] at h5
        cases e : w.1[Nat.sub (rx_pl t.2.1) 2]? with
        | none => rw [e] at h5; cases h5
        | some g =>
          rw [e] at h5
          have := rx_beq.mp h5
          rw [← this]
          exact e
  · obtain ⟨h0, h⟩ := rx_and2.mp h
    obtain ⟨h1, h2⟩ := rx_and2.mp h
    have h1 := rx_beq.mp h1
    rcases hv with ⟨p, -⟩ | ⟨p, -⟩ | ⟨p, -⟩ | ⟨-, p1, p2⟩
    · omega
    · omega
    · omega
    · exact Or.inr (Or.inr (Or.inr ⟨rx_beq.mp h0, by rw [← rx_beq.mp h2]; exact p1, p2⟩))
theorem ax_fits_ok {l : List (Nat × ax_Y)} {a b i v : Nat} {t : ax_Y} (h : ax_fits w t l a b = true) (h1 : a ≤ i) (h2 : i ≤ b) (hv : ax_ok w t v) : ∃ s, ax_at l i = some s ∧ ax_ok w s v := by
  obtain ⟨ha, hl⟩ := rx_and2.mp h
  cases e : ax_at l a with
  | none => rw [e] at ha; cases ha
  | some s0 =>
    rw [e] at ha
    obtain ⟨s, hs⟩ := ax_at_some e h1
    refine ⟨s, hs, ?_⟩
    rcases ax_at_or hs h1 with e2 | ⟨x, hx, p1, p2, rfl⟩
    · cases e.symm.trans e2
      exact ax_sub_ty ha hv
    · have := List.all_eq_true.mp hl x hx
      rw [rx_blt.mpr p1, rx_ble.mpr (Nat.le_trans p2 h2)] at this
      exact ax_sub_ty this hv
theorem ax_get_ok : ∀ {fs : List (Nat × Nat × Nat)} {a i v : Nat}, ax_get fs a i = some v → (a, i, v) ∈ fs
  | [], _, _, _, h => by cases h
  | x :: fs, a, i, v, h => by
    rcases ax_condY h with ⟨hc, h⟩ | ⟨-, h⟩
    · obtain ⟨c1, c2⟩ := rx_and2.mp hc
      cases h
      have e : (a, i, x.2.2) = x := Prod.ext (rx_beq.mp c1).symm (Prod.ext (rx_beq.mp c2).symm rfl)
      rw [e]
      exact List.mem_cons_self
    · exact List.mem_cons_of_mem _ (ax_get_ok h)
theorem ax_HR.rf {md : List (Nat × Nat)} {hp : rx_H} : ax_HR w md hp hp := ⟨rfl, fun _ _ _ _ _ l h => ⟨l, h, fun _ _ => rfl⟩⟩
theorem ax_HR.tr {md : List (Nat × Nat)} {h1 h2 h3 : rx_H} (a : ax_HR w md h1 h2) (b : ax_HR w md h2 h3) : ax_HR w md h1 h3 :=
  ⟨b.1.trans a.1, fun q g hq k n l hl => by
    obtain ⟨l2, e2, f2⟩ := a.2 q g hq k n l hl
    obtain ⟨l3, e3, f3⟩ := b.2 q g hq k n l2 e2
    exact ⟨l3, e3, fun i hi => (f3 i hi).trans (f2 i hi)⟩⟩
theorem ax_HR.wk {md md' : List (Nat × Nat)} {h1 h2 : rx_H} (a : ax_HR w md h1 h2) (hs : ∀ g i, ax_mem md' g i = false → ax_mem md g i = false) : ax_HR w md' h1 h2 :=
  ⟨a.1, fun q g hq k n l hl => by
    obtain ⟨l2, e2, f2⟩ := a.2 q g hq k n l hl
    exact ⟨l2, e2, fun i hi => f2 i (hs g i hi)⟩⟩
theorem ax_mem_one {md : List (Nat × Nat)} {g j : Nat} (h : ax_mem md g j = true) : ∀ g' i, ax_mem md g' i = false → ax_mem [(g, j)] g' i = false := by
  intro g' i hf
  refine Bool.eq_false_iff.mpr (fun z => ?_)
  obtain ⟨x, hx, hz⟩ := List.any_eq_true.mp z
  cases List.mem_singleton.mp hx
  obtain ⟨z1, z2⟩ := rx_and2.mp hz
  have z1 : g = g' := rx_beq.mp z1
  subst z1
  obtain ⟨y, hy, hk⟩ := List.any_eq_true.mp h
  obtain ⟨k1, k2⟩ := rx_and2.mp hk
  have : ax_mem md g i = true := by
    refine List.any_eq_true.mpr ⟨y, hy, rx_and2.mpr ⟨k1, ?_⟩⟩
    rcases rx_or2.mp z2 with z2 | z2
    · have z2 : j = i := rx_beq.mp z2
      rw [← z2]
      exact k2
    · have z2 : j = 999 := rx_beq.mp z2
      rw [z2] at k2
      rcases rx_or2.mp k2 with k2 | k2
      · exact rx_or2.mpr (Or.inr k2)
      · exact rx_or2.mpr (Or.inr k2)
  rw [this] at hf
  cases hf
end AXH
end
section
section AXW
variable {w : ax_W} {X : ax_X} {ρ : Nat → Nat} {E : ax_E} {hp : rx_H}
theorem ax_addF_ok (hE : ax_EO w X ρ E hp) {f : Nat × Nat × Nat} (hf : ax_FO E.1 ρ hp f) : ax_EO w X ρ (ax_addF E f) hp :=
  ⟨hE.1, hE.2.1, fun g hg => by
    rcases List.mem_cons.mp hg with rfl | hg
    · exact hf
    · exact hE.2.2.1 g hg, hE.2.2.2⟩
theorem ax_addD_ok (hE : ax_EO w X ρ E hp) {d : Nat × Nat × Nat} (hd : ax_DO E.1 ρ d) : ax_EO w X ρ (ax_addD E d) hp :=
  ⟨hE.1, hE.2.1, hE.2.2.1, fun g hg => by
    rcases List.mem_cons.mp hg with rfl | hg
    · exact hd
    · exact hE.2.2.2.1 g hg, hE.2.2.2.2⟩
theorem ax_addX_ok (hE : ax_EO w X ρ E hp) {x : ax_N} (hx : ax_NO X E.1 ρ hp x) : ax_EO w X ρ (ax_addX E x) hp :=
  ⟨hE.1, hE.2.1, hE.2.2.1, hE.2.2.2.1, fun g hg => by
    rcases List.mem_cons.mp hg with rfl | hg
    · exact hx
    · exact hE.2.2.2.2 g hg⟩
/-- what is read -/
theorem ax_rd_ok (hE : ax_EO w X ρ E hp) {a i av iv k m v c : Nat} {f : List Nat} {t : Option ax_Y} {E' : ax_E} (ha : ax_ev E.1 ρ a = some av) (hi : ax_ev E.1 ρ i = some iv) (h2 : av % 4 = 2) (h3 : 2 ≤ av / 4) (h4 : iv % 4 = 0) (hg : rx_hg hp (av / 4 - 2) = some (k, m, f)) (hv : f[iv / 4]? = some v) (ht : ∀ y, t = some y → ax_ok w y v)
    (h : ax_rd w E a i t = some (c, E')) : E.1 ≤ E'.1 ∧ ∃ ρ' : Nat → Nat, (∀ k, k < E.1 → ρ' k = ρ k) ∧ ax_EO w X ρ' E' hp ∧ ax_ev E'.1 ρ' c = some v := by
  unfold ax_rd at h
  cases e : ax_get (ax_fs E) a i with
  | some z =>
    rw [e] at h
    cases h
    refine ⟨Nat.le_refl _, ρ, fun _ _ => rfl, hE, ?_⟩
    obtain ⟨a', i', v', k', m', l', g1, g2, g3, g4, g5, g6, g7, g8⟩ := hE.2.2.1 _ (ax_get_ok e)
    cases g1.symm.trans ha
    cases g2.symm.trans hi
    cases g7.symm.trans hg
    cases g8.symm.trans hv
    exact g3
  | none =>
    rw [e] at h
    cases t with
    | none => cases h
    | some y =>
      obtain ⟨n1, ρ', a1, a2, a3⟩ := ax_val_ok hE (ht y rfl)
      cases h
      refine ⟨n1, ρ', a1, ax_addF_ok a2 ⟨av, iv, v, k, m, f, ax_ev_mono n1 a1 ha, ax_ev_mono n1 a1 hi, a3, h2, h3, h4, hg, hv⟩, a3⟩
theorem ax_cst_ev {v x : Nat} (h : ax_cst v = true) (hx : ax_ev E.1 ρ v = some x) : x = v := by
  have h3 : v % 4 ≠ 3 := fun z => by
    unfold ax_cst at h
    rw [show Nat.beq (rx_tk v) 3 = true from rx_beq.mpr z] at h
    cases h
  rw [ax_ev_c h3] at hx
  exact (Option.some.inj hx).symm
theorem ax_apart_ok (hE : ax_EO w X ρ E hp) {a b x y : Nat} (h : ax_apart w E a b = true) (hx : ax_ev E.1 ρ a = some x) (hy : ax_ev E.1 ρ b = some y) (h2 : x % 4 = 2) (h3 : 2 ≤ x / 4) (h4 : y % 4 = 2) (h5 : 2 ≤ y / 4) : x / 4 - 2 ≠ y / 4 - 2 := by
  rcases rx_or2.mp h with h | h
  · obtain ⟨c1, h⟩ := rx_and2.mp h
    obtain ⟨c2, c3⟩ := rx_and2.mp h
    have e1 := ax_cst_ev c1 hx
    have e2 := ax_cst_ev c2 hy
    subst e1
    subst e2
    have : x ≠ y := fun z => by
      rw [z, Nat.beq_refl] at c3
      cases c3
    omega
  · cases g1 : ax_rg w E a with
    | none => rw [g1] at h; cases h
    | some g =>
      cases g2 : ax_rg w E b with
      | none => rw [g1, g2] at h; cases h
      | some g' =>
        rw [g1, g2] at h
        obtain ⟨-, -, -, p1⟩ := ax_rg_ok hE g1 hx
        obtain ⟨-, -, -, p2⟩ := ax_rg_ok hE g2 hy
        intro z
        rw [z] at p1
        cases p1.symm.trans p2
        replace h : (!(Nat.beq g g)) = true := h
        rw [Nat.beq_refl] at h
        cases h
theorem ax_xkill_ok {n : Nat} {xf : List ax_N} {md : List (Nat × Nat)} {hp' : rx_H} (hX : ax_XD w X) (h : ∀ x ∈ xf, ax_NO X n ρ hp x) (hr : ax_HR w md hp hp') : ∀ x ∈ ax_xkill w xf md, ax_NO X n ρ hp' x := by
  intro x hx
  obtain ⟨h1, h2⟩ := List.mem_filter.mp hx
  obtain ⟨vs, g1, g2⟩ := h x h1
  refine ⟨vs, g1, ?_⟩
  unfold ax_XF at g2 ⊢
  rcases rx_or2.mp h2 with h2 | h2
  · obtain ⟨h2, h3⟩ := rx_and2.mp h2
    have h2 : 1000 ≤ x.1 := rx_ble.mp h2
    have h3 : x.1 < 1200 := rx_blt.mp h3
    rw [if_neg (by omega), if_neg (by omega), if_pos h3] at g2 ⊢
    exact g2
  · obtain ⟨h3, h2⟩ := rx_and2.mp h2
    have h3 : x.1 < 500 := rx_blt.mp h3
    rw [if_pos h3] at g2 ⊢
    rw [rx_nth_eq] at h2
    cases e : w.2.2[x.1]? with
    | none => rw [e] at h2; cases h2
    | some dl =>
      rw [e] at h2
      exact hX x.1 vs dl md hp hp' e h2 hr g2
theorem ax_wx_ok {n : Nat} {a i v av iv vv : Nat} (ha : ax_ev n ρ a = some av) (hi : ax_ev n ρ i = some iv) (hv : ax_ev n ρ v = some vv) : ∀ {xf : List ax_N}, (∀ x ∈ xf, ax_NO X n ρ hp x) → ∀ x ∈ ax_wx xf a i v, ax_NO X n ρ (ax_upd hp av iv vv) x
  | [], _, x, hx => by cases hx
  | y :: xf, h, x, hx => by
    replace hx : x ∈ ax_wx1 a i v y ++ ax_wx xf a i v := hx
    rcases List.mem_append.mp hx with hx | hx
    · obtain ⟨vs, g1, g2⟩ := h y List.mem_cons_self
      unfold ax_wx1 at hx
      cases hc : (Nat.ble 500 y.1 && Nat.blt y.1 1000) with
      | false => rw [hc] at hx; cases hx
      | true =>
        rw [hc, cond_true] at hx
        obtain ⟨c1, c2⟩ := rx_and2.mp hc
        have c1 : 500 ≤ y.1 := rx_ble.mp c1
        have c2 : y.1 < 1000 := rx_blt.mp c2
        match hy : y.2, hx, g1 with
        | [], hx, _ => cases hx
        | [_], hx, _ => cases hx
        | [_, _], hx, _ => cases hx
        | b :: j :: u :: r, hx, g1 =>
          dsimp only at hx
          cases hd : (Nat.beq a b && (Nat.beq i j && Nat.beq v u)) with
          | false => rw [hd] at hx; cases hx
          | true =>
            rw [hd, cond_true] at hx
            have hx := List.mem_singleton.mp hx
            subst hx
            obtain ⟨d1, hd⟩ := rx_and2.mp hd
            obtain ⟨d2, d3⟩ := rx_and2.mp hd
            have d1 := rx_beq.mp d1
            have d2 := rx_beq.mp d2
            have d3 := rx_beq.mp d3
            subst d1 d2 d3
            obtain ⟨x1, r1, e1, k1, q1⟩ := ax_evs_cons g1
            obtain ⟨x2, r2, e2, k2, q2⟩ := ax_evs_cons q1
            obtain ⟨x3, r3, e3, k3, q3⟩ := ax_evs_cons q2
            subst e3 e2 e1
            cases k1.symm.trans ha
            cases k2.symm.trans hi
            cases k3.symm.trans hv
            refine ⟨r3, q3, ?_⟩
            unfold ax_XF at g2 ⊢
            rw [if_neg (by omega), if_pos c2] at g2
            have e5 : y.1 - 500 < 500 := by omega
            have e4 : Nat.sub y.1 500 = y.1 - 500 := rfl
            dsimp only
            rw [e4, if_pos e5]
            exact g2
    · exact ax_wx_ok ha hi hv (fun x hx => h x (List.mem_cons_of_mem _ hx)) x hx
/-- what is written -/
theorem ax_wr_ok (hX : ax_XD w X) (hE : ax_EO w X ρ E hp) (hT : ax_HT w hp) {g a i v av iv vv k n : Nat} {f : List Nat} {l : List (Nat × ax_Y)} (ha : ax_ev E.1 ρ a = some av) (hi : ax_ev E.1 ρ i = some iv) (hv : ax_ev E.1 ρ v = some vv) (h2 : av % 4 = 2) (h3 : 2 ≤ av / 4) (h4 : iv % 4 = 0) (hw : w.1[av / 4 - 2]? = some g) (hr : w.2.1[g]? = some (k, n, l))
    (hg : rx_hg hp (av / 4 - 2) = some (k, n, f)) (hf : f.length = n) (hn : iv / 4 < n) (ht : ∃ s, ax_at l (iv / 4) = some s ∧ ax_ok w s vv) :
    ax_EO w X ρ (ax_wr w E g a i v) (rx_hs hp (av / 4 - 2) (k, n, f.set (iv / 4) vv)) ∧ ax_HT w (rx_hs hp (av / 4 - 2) (k, n, f.set (iv / 4) vv)) ∧ ax_HR w [(g, ax_idx i)] hp (rx_hs hp (av / 4 - 2) (k, n, f.set (iv / 4) vv)) := by
  have hq : av / 4 - 2 < hp.1 := rx_hg_lt hg
  have hgs : ∀ q', rx_hg (rx_hs hp (av / 4 - 2) (k, n, f.set (iv / 4) vv)) q' = if q' = av / 4 - 2 then some (k, n, f.set (iv / 4) vv) else rx_hg hp q' := fun q' => rx_hg_hs hT.1 hq
  have hHR : ax_HR w [(g, ax_idx i)] hp (rx_hs hp (av / 4 - 2) (k, n, f.set (iv / 4) vv)) := by
    refine ⟨rfl, fun q g' hq' k' n' l' hl' => ?_⟩
    rw [hgs]
    by_cases e : q = av / 4 - 2
    · subst e
      cases hl'.symm.trans hg
      cases hq'.symm.trans hw
      rw [if_pos rfl]
      refine ⟨_, rfl, fun j hj => ?_⟩
      have hne : iv / 4 ≠ j := fun z => by
        have : ax_mem [(g, ax_idx i)] g j = true := by
          refine List.any_eq_true.mpr ⟨(g, ax_idx i), List.mem_cons_self, rx_and2.mpr ⟨Nat.beq_refl g, ?_⟩⟩
          unfold ax_idx
          cases hc : ax_cst i with
          | true =>
            have := ax_cst_ev hc hi
            subst this
            exact rx_or2.mpr (Or.inl (rx_beq.mpr z))
          | false => exact rx_or2.mpr (Or.inr (Nat.beq_refl 999))
        rw [this] at hj
        cases hj
      exact List.getElem?_set_ne hne
    · rw [if_neg e]
      exact ⟨l', hl', fun _ _ => rfl⟩
  have hup : ax_upd hp av iv vv = rx_hs hp (av / 4 - 2) (k, n, f.set (iv / 4) vv) := by
    unfold ax_upd
    rw [hg]
  refine ⟨⟨hE.1, hE.2.1, ?_, hE.2.2.2.1, fun x hx => ?_⟩, ⟨hT.1, ?_⟩, hHR⟩
  rotate_left
  · rcases List.mem_append.mp hx with hx | hx
    · rw [← hup]
      exact ax_wx_ok ha hi hv hE.2.2.2.2 x hx
    · exact ax_xkill_ok hX hE.2.2.2.2 hHR x hx
  rotate_left
  · intro x hx
    rcases List.mem_cons.mp hx with rfl | hx
    · refine ⟨av, iv, vv, k, n, _, ha, hi, hv, h2, h3, h4, by rw [hgs, if_pos rfl], List.getElem?_set_self (by rw [hf]; exact hn)⟩
    · obtain ⟨hx1, hx2⟩ := List.mem_filter.mp hx
      obtain ⟨a', i', v', k', m', l', g1, g2, g3, g4, g5, g6, g7, g8⟩ := hE.2.2.1 x hx1
      by_cases e : a' / 4 - 2 = av / 4 - 2
      · rw [e] at g7
        cases g7.symm.trans hg
        refine ⟨a', i', v', k, n, _, g1, g2, g3, g4, g5, g6, by rw [hgs, if_pos e], ?_⟩
        have hne : iv / 4 ≠ i' / 4 := by
          rcases rx_or2.mp hx2 with hx2 | hx2
          · obtain ⟨c1, hx2⟩ := rx_and2.mp hx2
            obtain ⟨c2, c3⟩ := rx_and2.mp hx2
            have e1 := ax_cst_ev c1 hi
            have e2 := ax_cst_ev c2 g2
            have : i ≠ x.2.1 := fun z => by
              rw [z, Nat.beq_refl] at c3
              cases c3
            omega
          · exact absurd e.symm (ax_apart_ok hE hx2 ha g1 h2 h3 g4 g5)
        rw [List.getElem?_set_ne hne]
        exact g8
      · exact ⟨a', i', v', k', m', l', g1, g2, g3, g4, g5, g6, by rw [hgs, if_neg e]; exact g7, g8⟩
  · intro q g' hq'
    obtain ⟨k', n', l', f', p1, p2, p3, p4⟩ := hT.2 q g' hq'
    by_cases e : q = av / 4 - 2
    · subst e
      cases hq'.symm.trans hw
      cases p1.symm.trans hr
      cases p2.symm.trans hg
      refine ⟨k, n, l, _, hr, by rw [hgs, if_pos rfl], by rw [List.length_set]; exact hf, fun j z hj => ?_⟩
      by_cases ej : j = iv / 4
      · subst ej
        rw [List.getElem?_set_self (by rw [hf]; exact hn)] at hj
        cases hj
        exact ht
      · rw [List.getElem?_set_ne (Ne.symm ej)] at hj
        exact p4 j z hj
    · exact ⟨k', n', l', f', p1, by rw [hgs, if_neg e]; exact p2, p3, p4⟩
theorem ax_vx1_ok {l : List Nat} {x y c : Nat} {z : Option Nat} (h : ax_vx1 l x y z = some c) : l = [x, y, c] ∨ z = some c := by
  unfold ax_vx1 at h
  split at h
  · rcases ax_condY h with ⟨hc, h⟩ | ⟨-, h⟩
    · obtain ⟨c1, c2⟩ := rx_and2.mp hc
      have c1 := rx_beq.mp c1
      have c2 := rx_beq.mp c2
      cases h
      subst c1 c2
      exact Or.inl rfl
    · exact Or.inr h
  · exact Or.inr h
theorem ax_vx_cons (d1 : Nat) (d2 : List Nat) (xf : List ax_N) (o x y : Nat) : ax_vx ((d1, d2) :: xf) o x y = (bif Nat.beq d1 (Nat.add 1000 o) then ax_vx1 d2 x y (ax_vx xf o x y) else ax_vx xf o x y) := rfl
theorem ax_vx_ok {o x y c : Nat} : ∀ {xf : List ax_N}, ax_vx xf o x y = some c → (1000 + o, [x, y, c]) ∈ xf
  | [], h => by cases h
  | (d1, d2) :: xf, h => by
    rw [ax_vx_cons] at h
    rcases ax_condY h with ⟨h0, h⟩ | ⟨-, h⟩
    · have h0 : d1 = 1000 + o := rx_beq.mp h0
      rcases ax_vx1_ok h with h | h
      · rw [h0, h]; exact List.mem_cons_self
      · exact List.mem_cons_of_mem _ (ax_vx_ok h)
    · exact List.mem_cons_of_mem _ (ax_vx_ok h)
theorem ax_bop_le {o : Nat} {x y z : Nat × Nat} (h : ax_bop o x y = some z) : o ≤ 10 := by
  rcases Nat.lt_or_ge 10 o with h0 | h0
  · exfalso
    have e : ∀ k, k ≤ 10 → Nat.beq o k = false := fun k hk => Bool.eq_false_iff.mpr (fun z => by have := rx_beq.mp z; omega)
    unfold ax_bop at h
    rw [e 0 (by decide), e 1 (by decide), e 2 (by decide), e 3 (by decide), e 7 (by decide), e 9 (by decide), e 10 (by decide), show Nat.ble o 8 = false from Bool.eq_false_iff.mpr (fun z => by have := rx_ble.mp z; omega)] at h
    cases h
  · exact h0
/-- a number of two -/
theorem ax_bin_ok (hE : ax_EO w X ρ E hp) {o x y p q c : Nat} {E' : ax_E} (hx : ax_ev E.1 ρ x = some p) (hy : ax_ev E.1 ρ y = some q) (h : ax_bin E o x y = some (c, E')) : p % 4 = 0 ∧ q % 4 = 0 ∧ p / 4 < 4294967296 ∧ q / 4 < 4294967296 ∧ ∃ r, ax_f o (p / 4) (q / 4) = some r ∧ r < 4294967296 ∧ E.1 ≤ E'.1 ∧ ∃ ρ' : Nat → Nat, (∀ k, k < E.1 → ρ' k = ρ k) ∧ ax_EO w X ρ' E' hp ∧ ax_ev E'.1 ρ' c = some (rx_int r) := by
  unfold ax_bin at h
  cases e1 : ax_iv E x with
  | none => rw [e1] at h; cases h
  | some ix =>
    cases e2 : ax_iv E y with
    | none => rw [e1, e2] at h; cases h
    | some iy =>
      rw [e1, e2] at h
      obtain ⟨p0, p1, p2, p3⟩ := ax_iv_ok hE e1 hx
      obtain ⟨q0, q1, q2, q3⟩ := ax_iv_ok hE e2 hy
      refine ⟨p0, q0, p1, q1, ?_⟩
      have main : ax_bin1 E o x y ix iy = some (c, E') → ∃ r, ax_f o (p / 4) (q / 4) = some r ∧ r < 4294967296 ∧ E.1 ≤ E'.1 ∧ ∃ ρ' : Nat → Nat, (∀ k, k < E.1 → ρ' k = ρ k) ∧ ax_EO w X ρ' E' hp ∧ ax_ev E'.1 ρ' c = some (rx_int r) := by
        intro h
        unfold ax_bin1 at h
        cases e3 : ax_bop o ix iy with
        | none => rw [e3] at h; cases h
        | some z =>
          rw [e3] at h
          obtain ⟨r, r1, r2, r3, r4⟩ := ax_bop_ok p1 q1 ⟨p2, p3⟩ ⟨q2, q3⟩ e3
          have d4 : rx_int r / 4 = r := by show 4 * r / 4 = r; omega
          have m4 : rx_int r % 4 = 0 := by show 4 * r % 4 = 0; omega
          obtain ⟨n1, ρ', a1, a2, a3⟩ := ax_val_ok (t := (0, z)) (x := rx_int r) hE (Or.inl ⟨rfl, m4, by rw [d4]; exact r2, by rw [d4]; exact r3, by rw [d4]; exact r4⟩)
          have h := Option.some.inj h
          unfold ax_bin2 at h
          rcases ax_condY h with ⟨hex, h⟩ | ⟨-, h⟩
          · have hd : ax_DO (ax_val E (0, z)).2.1 ρ' (bif Nat.beq o 0 then (x, y, (ax_val E (0, z)).1) else ((ax_val E (0, z)).1, y, x)) := by
              have hx' := ax_ev_mono n1 a1 hx
              have hy' := ax_ev_mono n1 a1 hy
              have ep : p = 4 * (p / 4) := by omega
              have eq : q = 4 * (q / 4) := by omega
              rw [ep] at hx'
              rw [eq] at hy'
              rcases ax_exact_ok p1 q1 r2 ⟨p2, p3⟩ ⟨q2, q3⟩ hex r1 with ⟨rfl, hs⟩ | ⟨rfl, hs⟩
              · exact ⟨p / 4, q / 4, r, hx', hy', a3, p1, q1, r2, hs⟩
              · exact ⟨r, q / 4, p / 4, a3, hy', hx', r2, q1, p1, hs⟩
            cases h
            exact ⟨r, r1, r2, n1, ρ', a1, ax_addD_ok a2 hd, a3⟩
          · rcases ax_condY h with ⟨-, h⟩ | ⟨-, h⟩
            · rw [h] at n1 a2 a3
              exact ⟨r, r1, r2, n1, ρ', a1, a2, a3⟩
            · cases h
              refine ⟨r, r1, r2, n1, ρ', a1, ax_addX_ok a2 ⟨[p, q, rx_int r], ?_, ?_⟩, a3⟩
              · exact ax_evs_push (ax_ev_mono n1 a1 hx) (ax_evs_push (ax_ev_mono n1 a1 hy) (ax_evs_push a3 rfl))
              · have ho := ax_bop_le e3
                exact (ax_XF_bi (by omega)).mpr (Or.inl ⟨ho, p0, q0, r, r1, r2, rfl⟩)
      rcases ax_condY h with ⟨ho, h⟩ | ⟨-, h⟩
      · cases e3 : ax_vn (ax_df E) o x y with
        | none => rw [e3] at h; exact main h
        | some z =>
          rw [e3] at h
          cases h
          have ho : o ≤ 1 := rx_ble.mp ho
          have hvn : ∀ (df : List (Nat × Nat × Nat)), ax_vn df o x y = some c → (o = 0 ∧ (x, y, c) ∈ df) ∨ (o = 1 ∧ (c, y, x) ∈ df) := by
            intro df
            induction df with
            | nil => intro hz; cases hz
            | cons d df ih =>
              intro hz
              rcases ax_condY hz with ⟨h0, hz⟩ | ⟨h0, hz⟩
              · have h0 := rx_beq.mp h0
                rcases ax_condY hz with ⟨hc, hz⟩ | ⟨-, hz⟩
                · obtain ⟨c1, c2⟩ := rx_and2.mp hc
                  cases hz
                  have e : (x, y, d.2.2) = d := Prod.ext (rx_beq.mp c1).symm (Prod.ext (rx_beq.mp c2).symm rfl)
                  exact Or.inl ⟨h0, by rw [e]; exact List.mem_cons_self⟩
                · rcases ih hz with ⟨i1, i2⟩ | ⟨i1, i2⟩
                  · exact Or.inl ⟨i1, List.mem_cons_of_mem _ i2⟩
                  · exact Or.inr ⟨i1, List.mem_cons_of_mem _ i2⟩
              · have h1 : o = 1 := by
                  have : o ≠ 0 := fun z => by rw [z] at h0; cases h0
                  omega
                rcases ax_condY hz with ⟨hc, hz⟩ | ⟨-, hz⟩
                · obtain ⟨c1, c2⟩ := rx_and2.mp hc
                  cases hz
                  have e : (d.1, y, x) = d := Prod.ext rfl (Prod.ext (rx_beq.mp c1).symm (rx_beq.mp c2).symm)
                  exact Or.inr ⟨h1, by rw [e]; exact List.mem_cons_self⟩
                · rcases ih hz with ⟨i1, i2⟩ | ⟨i1, i2⟩
                  · exact Or.inl ⟨i1, List.mem_cons_of_mem _ i2⟩
                  · exact Or.inr ⟨i1, List.mem_cons_of_mem _ i2⟩
          rcases hvn _ e3 with ⟨rfl, hm⟩ | ⟨rfl, hm⟩
          · obtain ⟨a, b, r, g1, g2, g3, g4, g5, g6, g7⟩ := hE.2.2.2.1 _ hm
            cases hx.symm.trans g1
            cases hy.symm.trans g2
            refine ⟨r, ?_, g6, Nat.le_refl _, ρ, fun _ _ => rfl, hE, g3⟩
            show some ((4 * a / 4 + 4 * b / 4) % 4294967296) = some r
            rw [show 4 * a / 4 = a by omega, show 4 * b / 4 = b by omega]
            rw [ax_bi_def, ax_bi_def, ax_bi_def] at g7
            exact congrArg some (by omega)
          · obtain ⟨r, b, a, g1, g2, g3, g4, g5, g6, g7⟩ := hE.2.2.2.1 _ hm
            cases hx.symm.trans g3
            cases hy.symm.trans g2
            refine ⟨r, ?_, g4, Nat.le_refl _, ρ, fun _ _ => rfl, hE, g1⟩
            show some ((4 * a / 4 + (4294967296 - 4 * b / 4 % 4294967296)) % 4294967296) = some r
            rw [show 4 * a / 4 = a by omega, show 4 * b / 4 = b by omega]
            rw [ax_bi_def, ax_bi_def, ax_bi_def] at g7
            exact congrArg some (by omega)
      · cases e3 : ax_vx (ax_xf E) o x y with
        | none => rw [e3] at h; exact main h
        | some z =>
          rw [e3] at h
          cases h
          obtain ⟨vs, g1, g2⟩ := hE.2.2.2.2 _ (ax_vx_ok e3)
          obtain ⟨x1, rr1, e5, k1, qq1⟩ := ax_evs_cons g1
          obtain ⟨x2, rr2, e6, k2, qq2⟩ := ax_evs_cons qq1
          obtain ⟨x3, rr3, e7, k3, qq3⟩ := ax_evs_cons qq2
          have e8 : rr3 = [] := by cases rr3 with | nil => rfl | cons _ _ => cases qq3
          subst e8 e7 e6 e5
          cases k1.symm.trans hx
          cases k2.symm.trans hy
          rcases Nat.lt_or_ge o 200 with ho | ho
          · rcases (ax_XF_bi ho).mp g2 with ⟨-, -, -, r, s1, s2, s3⟩ | ⟨j, -, -, z1, -⟩ | ⟨-, z1, -⟩
            · exact ⟨r, s1, s2, Nat.le_refl _, ρ, fun _ _ => rfl, hE, by rw [← s3]; exact k3⟩
            · exact absurd z1 (by omega)
            · exact absurd z1 (by omega)
          · exfalso
            unfold ax_XF at g2
            have n5 : ¬ (1000 + o < 500) := by omega
            have n6 : ¬ (1000 + o < 1000) := by omega
            have n7 : ¬ (1000 + o < 1200) := by omega
            rw [if_neg n5, if_neg n6, if_neg n7] at g2
            obtain ⟨z1, -⟩ := g2
            exact absurd z1 (by omega)
end AXW
end
section
noncomputable def ax_cn (k : ClassFile.Cond) : Nat := match k with
  | .eq => 0 | .ne => 1 | .lt => 2 | .ge => 3 | .gt => 4 | .le => 5
/-- where a switch goes -/
noncomputable def ax_tgs (pc : Nat) (l : List Int) : List Nat := l.map (fun o => ((pc : Int) + o).toNat)
/-- an instruction by numbers -/
noncomputable def ax_num (pc : Nat) (ins : Instr) : Option (Nat × Nat × Nat × List Nat) := match ins with
  | .iload_n k => some (1, k.val, 1, []) | .aload_n k => some (2, k.val, 1, []) | .lload_n k => some (3, k.val, 1, [])
  | .iload i => some (1, i, 2, []) | .lload i => some (3, i, 2, [])
  | .istore_n k => some (4, k.val, 1, []) | .astore_n k => some (5, k.val, 1, []) | .istore i => some (4, i, 2, [])
  | .lstore_n k => some (6, k.val, 1, []) | .lstore i => some (6, i, 2, [])
  | .iconst _ => some (7, 0, 1, []) | .bipush _ => some (7, 0, 2, []) | .sipush _ => some (7, 0, 3, []) | .ldc_w _ => some (7, 0, 3, []) | .ldc _ => some (7, 1, 2, [])
  | .lconst _ => some (8, 0, 1, []) | .ldc2_w _ => some (8, 0, 3, [])
  | .iinc i _ => some (9, i, 0, [])
  | .iadd => some (10, 0, 0, []) | .isub => some (10, 1, 0, []) | .imul => some (10, 2, 0, []) | .iand => some (10, 3, 0, []) | .ior => some (10, 4, 0, []) | .ixor => some (10, 5, 0, []) | .ishl => some (10, 6, 0, []) | .ishr => some (10, 7, 0, []) | .iushr => some (10, 8, 0, []) | .idiv => some (10, 9, 0, []) | .irem => some (10, 10, 0, [])
  | .ineg => some (11, 0, 0, []) | .i2b => some (11, 1, 0, [])
  | .ladd => some (12, 0, 0, []) | .lsub => some (12, 1, 0, []) | .lmul => some (12, 2, 0, []) | .land => some (12, 3, 0, []) | .lor => some (12, 4, 0, []) | .lxor => some (12, 5, 0, [])
  | .lshl => some (13, 0, 0, []) | .lshr => some (13, 1, 0, []) | .lcmp => some (14, 0, 0, [])
  | .dup => some (15, 0, 0, []) | .pop => some (16, 0, 0, []) | .dup2 => some (17, 0, 0, []) | .goto _ => some (18, 0, 0, [])
  | .ifCond k _ => some (19, ax_cn k, 0, []) | .if_icmp k _ => some (20, ax_cn k, 0, [])
  | .tableswitch _ lo hi offs => bif decide (0 ≤ lo) && (decide (hi = lo + offs.toList.length - 1) && offs.toList.all (fun o => decide (0 ≤ (pc : Int) + o))) then some (21, lo.toNat, 0, ax_tgs pc offs.toList) else none
  | .getfield _ => some (22, 0, 0, []) | .putfield _ => some (23, 0, 0, [])
  | .arraylength => some (24, 0, 0, [])
  | .iaload => some (24, 13, 0, []) | .baload => some (24, 12, 0, []) | .laload => some (24, 14, 0, []) | .aaload => some (24, 16, 0, [])
  | .iastore => some (25, 13, 0, []) | .bastore => some (25, 12, 0, []) | .lastore => some (25, 14, 0, []) | .aastore => some (25, 16, 0, [])
  | _ => none
/-- one of these states is the machine's -/
noncomputable def ax_Res (w : ax_W) (X : ax_X) (md : List (Nat × Nat)) (ρ : Nat → Nat) (n : Nat) (hp : rx_H) (out : List ax_A) (σ : rx_S) : Prop :=
  ∃ a ∈ out, ∃ (ρ' : Nat → Nat) (hp' : rx_H), (∀ k, k < n → ρ' k = ρ k) ∧ n ≤ a.2.2.2.1 ∧ ax_R w X ρ' a hp' σ ∧ ax_HR w md hp hp'
theorem ax_kn (v : Nat) : rx_kn [] v = v := by
  unfold rx_kn
  cases Nat.beq (rx_tk v) 3 <;> rfl
section AXS
variable {w : ax_W} {X : ax_X} {md : List (Nat × Nat)} {ρ : Nat → Nat} {E : ax_E} {hp : rx_H} {K : rx_K} {N : rx_N} {pc na nb : Nat} {lv st lvc stc : List Nat} {out : List ax_A}
/-- nothing but pc, locals and stack has changed -/
theorem ax_one (hE : ax_EO w X ρ E hp) (hT : ax_HT w hp) {p : Nat} {lv' st' lvc' stc' : List Nat} (hl : lv'.map (ax_ev E.1 ρ) = lvc'.map some) (hs : st'.map (ax_ev E.1 ρ) = stc'.map some) (hm : (p, lv', st', E) ∈ out) : ax_Res w X md ρ E.1 hp out (p, lvc', stc', hp, [], 0, 0) :=
  ⟨_, hm, ρ, hp, fun _ _ => rfl, Nat.le_refl _, ⟨rfl, hl, hs, rfl, hE, hT⟩, ax_HR.rf⟩
/-- a new value -/
theorem ax_new1 (hT : ax_HT w hp) {E' : ax_E} {ρ' : Nat → Nat} (hn : E.1 ≤ E'.1) (hρ : ∀ k, k < E.1 → ρ' k = ρ k) (hE' : ax_EO w X ρ' E' hp) {p : Nat} {lv' st' lvc' stc' : List Nat} (hl : lv'.map (ax_ev E'.1 ρ') = lvc'.map some) (hs : st'.map (ax_ev E'.1 ρ') = stc'.map some) (hm : (p, lv', st', E') ∈ out) : ax_Res w X md ρ E.1 hp out (p, lvc', stc', hp, [], 0, 0) :=
  ⟨_, hm, ρ', hp, hρ, hn, ⟨rfl, hl, hs, rfl, hE', hT⟩, ax_HR.rf⟩
theorem ax_isJ_eq (hE : ax_EO w X ρ E hp) {v x : Nat} (hx : ax_ev E.1 ρ v = some x) : ax_isK E 1 v = rx_isJ x := by
  cases h : ax_isK E 1 v with
  | true => exact (rx_beq.mpr (ax_isK1 hE h hx)).symm
  | false =>
    refine (Bool.eq_false_iff.mpr (fun z => ?_)).symm
    have z : x % 4 = 1 := rx_beq.mp z
    unfold ax_isK at h
    cases ht : ax_typ E v with
    | some t =>
      rw [ht] at h
      rcases ax_typ_ok hE ht hx with ⟨-, p, -⟩ | ⟨p, -⟩ | ⟨-, p, -⟩ | ⟨-, -, p⟩
      · omega
      · replace h : Nat.beq t.1 1 = false := h
        rw [p] at h; cases h
      · omega
      · omega
    | none =>
      unfold ax_typ at ht
      unfold ax_ev at hx
      by_cases h3 : v % 4 = 3
      · rw [if_pos h3] at hx
        by_cases hl : v / 4 < E.1
        · rw [rx_beq.mpr (show rx_tk v = 3 from h3), cond_true, rx_blt.mpr (show rx_pl v < ax_n E from hl), cond_true, rx_nth_eq] at ht
          have := List.getElem?_eq_none_iff.mp ht
          rw [show (ax_ty E).length = E.1 from hE.1] at this
          replace this : E.1 ≤ E.1 - 1 - v / 4 := this
          omega
        · rw [if_neg hl] at hx; cases hx
      · rw [if_neg h3] at hx
        cases hx
        rw [show Nat.beq (rx_tk v) 3 = false from Bool.eq_false_iff.mpr (fun q => h3 (rx_beq.mp q)), cond_false, show Nat.beq (rx_tk v) 0 = false from Bool.eq_false_iff.mpr (fun q => by have : v % 4 = 0 := rx_beq.mp q; omega), cond_false, rx_beq.mpr (show rx_tk v = 1 from z)] at ht
        cases ht
theorem ax_low_ok (hE : ax_EO w X ρ E hp) (hl : lv.map (ax_ev E.1 ρ) = lvc.map some) (i : Nat) : (ax_low E lv i).map (ax_ev E.1 ρ) = (rx_low lvc i).map some := by
  unfold ax_low rx_low
  cases i with
  | zero => exact hl
  | succ j =>
    show List.map _ (match rx_nth lv j with | some v => bif ax_isK E 1 v then rx_upd lv j 2 else lv | none => lv) = List.map some (match rx_nth lvc j with | some v => bif rx_isJ v then rx_upd lvc j 2 else lvc | none => lvc)
    rw [rx_nth_eq, rx_nth_eq]
    cases e : lv[j]? with
    | none =>
      have e2 : lvc[j]? = none := by rw [List.getElem?_eq_none_iff, ax_evs_len hl]; exact List.getElem?_eq_none_iff.mp e
      rw [e2]
      exact hl
    | some v =>
      obtain ⟨x, e2, hx⟩ := ax_evs_nth hl e
      rw [e2]
      show List.map _ (bif ax_isK E 1 v then rx_upd lv j 2 else lv) = List.map some (bif rx_isJ x then rx_upd lvc j 2 else lvc)
      rw [ax_isJ_eq hE hx]
      cases rx_isJ x with
      | true => rw [cond_true, cond_true, rx_upd_eq, rx_upd_eq]; exact ax_evs_set hl (ax_ev_c (by decide))
      | false => exact hl
theorem ax_put_ok (hE : ax_EO w X ρ E hp) (hl : lv.map (ax_ev E.1 ρ) = lvc.map some) {i v x : Nat} (hv : ax_ev E.1 ρ v = some x) : (ax_put E lv i v).map (ax_ev E.1 ρ) = (rx_put lvc i x).map some := by
  unfold ax_put rx_put
  rw [rx_upd_eq, rx_upd_eq]
  exact ax_evs_set (ax_low_ok hE hl i) hv
theorem ax_t_ld {ok : Nat → Bool} {i n : Nat} {q : Nat → Bool} (hok : ∀ v x, q v = true → ax_ev E.1 ρ v = some x → ok x = true) (hE : ax_EO w X ρ E hp) (hT : ax_HT w hp) (hl : lv.map (ax_ev E.1 ρ) = lvc.map some) (hs : st.map (ax_ev E.1 ρ) = stc.map some)
    (h : (match rx_nth lv i with | some v => bif q v then some [(Nat.add pc n, lv, v :: st, E)] else none | none => none) = some out) : ∃ σ, rx_h_ld ok i n K N pc na nb lvc stc hp [] 0 0 = some [σ] ∧ ax_Res w X md ρ E.1 hp out σ := by
  rw [rx_nth_eq] at h
  cases e : lv[i]? with
  | none => rw [e] at h; cases h
  | some v =>
    rw [e] at h
    obtain ⟨hq, h⟩ := rx_cond h
    cases h
    obtain ⟨x, e2, hx⟩ := ax_evs_nth hl e
    refine ⟨_, ?_, ax_one hE hT hl (ax_evs_push hx hs) List.mem_cons_self⟩
    unfold rx_h_ld
    rw [rx_nth_eq, e2]
    show (bif ok x then _ else none) = _
    rw [hok v x hq hx]
    rfl
theorem ax_t_sto {ok : Nat → Bool} {i n : Nat} {q : Nat → Bool} (hok : ∀ v x, q v = true → ax_ev E.1 ρ v = some x → ok x = true) (hE : ax_EO w X ρ E hp) (hT : ax_HT w hp) (hl : lv.map (ax_ev E.1 ρ) = lvc.map some)
    (h : (match st with | v :: st' => bif q v && Nat.blt i (rx_mL N) then some [(Nat.add pc n, ax_put E lv i v, st', E)] else none | [] => none) = some out) (hs : st.map (ax_ev E.1 ρ) = stc.map some) : ∃ σ, rx_h_sto ok i n K N pc na nb lvc stc hp [] 0 0 = some [σ] ∧ ax_Res w X md ρ E.1 hp out σ := by
  match st, h with
  | [], h => cases h
  | v :: st', h =>
    obtain ⟨hq, h⟩ := rx_cond h
    obtain ⟨hq, hi⟩ := rx_and2.mp hq
    cases h
    obtain ⟨x, r, rfl, hx, hr⟩ := ax_evs_cons hs
    refine ⟨_, ?_, ax_one hE hT (ax_put_ok hE hl hx) hr List.mem_cons_self⟩
    show (bif ok x && Nat.blt i (rx_mL N) then _ else none) = _
    rw [hok v x hq hx, hi]
    rfl
theorem ax_t_stJ {i n : Nat} (hE : ax_EO w X ρ E hp) (hT : ax_HT w hp) (hl : lv.map (ax_ev E.1 ρ) = lvc.map some)
    (h : (match st with | v :: st' => bif ax_isK E 1 v && Nat.blt (Nat.succ i) (rx_mL N) then some [(Nat.add pc n, rx_upd (ax_put E lv i v) (Nat.succ i) 2, st', E)] else none | [] => none) = some out) (hs : st.map (ax_ev E.1 ρ) = stc.map some) : ∃ σ, rx_h_stJ i n K N pc na nb lvc stc hp [] 0 0 = some [σ] ∧ ax_Res w X md ρ E.1 hp out σ := by
  match st, h with
  | [], h => cases h
  | v :: st', h =>
    obtain ⟨hq, h⟩ := rx_cond h
    obtain ⟨hq, hi⟩ := rx_and2.mp hq
    cases h
    obtain ⟨x, r, rfl, hx, hr⟩ := ax_evs_cons hs
    have hp1 := ax_put_ok (i := i) hE hl hx
    refine ⟨_, ?_, ax_one hE hT (lvc' := rx_putJ lvc i x) ?_ hr List.mem_cons_self⟩
    · show (bif rx_isJ x && Nat.blt (Nat.succ i) (rx_mL N) then _ else none) = _
      rw [show rx_isJ x = true from rx_beq.mpr (ax_isK1 hE hq hx), hi]
      rfl
    · show List.map _ (rx_upd (ax_put E lv i v) (Nat.succ i) 2) = List.map some (rx_upd (rx_put lvc i x) (Nat.succ i) 2)
      rw [rx_upd_eq, rx_upd_eq]
      exact ax_evs_set hp1 (ax_ev_c (v := 2) (by decide))
theorem ax_int_lt {n : Nat} (h : n < 4294967296) : rx_int n % 4 = 0 ∧ rx_int n / 4 = n ∧ rx_int n / 4 < 4294967296 := by
  have : rx_int n = 4 * n := rfl
  omega
theorem ax_t_psh {n : Nat} (hE : ax_EO w X ρ E hp) (hT : ax_HT w hp) (hl : lv.map (ax_ev E.1 ρ) = lvc.map some) (hs : st.map (ax_ev E.1 ρ) = stc.map some)
    (h : (bif Nat.blt na 4294967296 then some [(Nat.add pc n, lv, rx_int na :: st, E)] else none) = some out) : ∃ σ, rx_h_psh n K N pc na nb lvc stc hp [] 0 0 = some [σ] ∧ ax_Res w X md ρ E.1 hp out σ := by
  obtain ⟨hq, h⟩ := rx_cond h
  cases h
  have := (ax_int_lt (rx_blt.mp hq)).1
  exact ⟨_, rfl, ax_one hE hT hl (ax_evs_push (ax_ev_c (by omega)) hs) List.mem_cons_self⟩
theorem ax_t_ldc (hE : ax_EO w X ρ E hp) (hT : ax_HT w hp) (hl : lv.map (ax_ev E.1 ρ) = lvc.map some) (hs : st.map (ax_ev E.1 ρ) = stc.map some)
    (h : (bif rx_lok na then some [(Nat.add pc 2, lv, na :: st, E)] else none) = some out) : ∃ σ, rx_h_ldc K N pc na nb lvc stc hp [] 0 0 = some [σ] ∧ ax_Res w X md ρ E.1 hp out σ := by
  obtain ⟨hq, h⟩ := rx_cond h
  cases h
  refine ⟨(Nat.add pc 2, lvc, na :: stc, hp, [], 0, 0), ?_, ax_one hE hT hl (ax_evs_push (ax_ev_c ?_) hs) List.mem_cons_self⟩
  · show (bif rx_lok na then _ else _) = _
    rw [hq]
    rfl
  · rcases rx_or2.mp hq with h | h
    · have : na % 4 = 0 := rx_beq.mp (rx_and2.mp h).1
      omega
    · have : na % 4 = 2 := rx_beq.mp (rx_and2.mp h).1
      omega
theorem ax_t_pshJ {n : Nat} (hE : ax_EO w X ρ E hp) (hT : ax_HT w hp) (hl : lv.map (ax_ev E.1 ρ) = lvc.map some) (hs : st.map (ax_ev E.1 ρ) = stc.map some)
    (h : some [(Nat.add pc n, lv, rx_lng na :: st, E)] = some out) : ∃ σ, rx_h_pshJ n K N pc na nb lvc stc hp [] 0 0 = some [σ] ∧ ax_Res w X md ρ E.1 hp out σ := by
  cases h
  have : rx_lng na = 4 * na + 1 := rfl
  exact ⟨_, rfl, ax_one hE hT hl (ax_evs_push (ax_ev_c (by omega)) hs) List.mem_cons_self⟩
theorem ax_t_inc {i : Nat} (hE : ax_EO w X ρ E hp) (hT : ax_HT w hp) (hl : lv.map (ax_ev E.1 ρ) = lvc.map some) (hs : st.map (ax_ev E.1 ρ) = stc.map some)
    (h : (match rx_nth lv i with
    | some v => bif Nat.blt i (rx_mL N) && Nat.blt na 4294967296 then (match ax_bin E 0 v (rx_int na) with
      | some (r, E1) => some [(Nat.add pc 3, ax_put E1 lv i r, st, E1)]
      | none => none) else none
    | none => none) = some out) : ∃ σ, rx_h_inc i K N pc na nb lvc stc hp [] 0 0 = some [σ] ∧ ax_Res w X md ρ E.1 hp out σ := by
  rw [rx_nth_eq] at h
  cases e : lv[i]? with
  | none => rw [e] at h; cases h
  | some v =>
    rw [e] at h
    obtain ⟨hq, h⟩ := rx_cond h
    obtain ⟨hi, hna⟩ := rx_and2.mp hq
    obtain ⟨x, e2, hx⟩ := ax_evs_nth hl e
    cases eb : ax_bin E 0 v (rx_int na) with
    | none => rw [eb] at h; cases h
    | some z =>
      obtain ⟨r, E1⟩ := z
      rw [eb] at h
      cases h
      obtain ⟨n1, n2, n3⟩ := ax_int_lt (rx_blt.mp hna)
      obtain ⟨p0, q0, p1, q1, r0, f1, f2, f3, ρ', a1, a2, a3⟩ := ax_bin_ok hE hx (ax_ev_c (v := rx_int na) (by omega)) eb
      have f1 : (x / 4 + rx_int na / 4) % 4294967296 = r0 := Option.some.inj f1
      refine ⟨_, ?_, ax_new1 hT f3 a1 a2 (ax_put_ok a2 (ax_evs_mono f3 a1 hl) a3) (ax_evs_mono f3 a1 hs) List.mem_cons_self⟩
      unfold rx_h_inc
      rw [rx_nth_eq, e2]
      show (bif Nat.beq (rx_tk x) 0 && Nat.blt i (rx_mL N) then some [(Nat.add pc 3, rx_put lvc i (rx_int (Nat.mod (Nat.add (rx_pl x) na) 4294967296)), stc, hp, [], 0, 0)] else none) = _
      rw [rx_beq.mpr (show rx_tk x = 0 from p0), hi]
      have e3 : Nat.mod (Nat.add (rx_pl x) na) 4294967296 = r0 := by
        rw [← f1, n2]; rfl
      rw [e3]
      rfl
/-- of two ints -/
theorem ax_t_bin {i : Nat} {hd : rx_Hd} (hh : ∀ (x y r : Nat) (s' : List Nat), x % 4 = 0 → y % 4 = 0 → ax_f i (x / 4) (y / 4) = some r → hd K N pc na nb lvc (y :: x :: s') hp [] 0 0 = some [(Nat.add pc 1, lvc, rx_int r :: s', hp, [], 0, 0)]) (hE : ax_EO w X ρ E hp) (hT : ax_HT w hp) (hl : lv.map (ax_ev E.1 ρ) = lvc.map some)
    (h : (match st with
    | y :: x :: st' => ax_psh (Nat.add pc 1) lv st' (ax_bin E i x y)
    | _ => none) = some out) (hs : st.map (ax_ev E.1 ρ) = stc.map some) : ∃ σ, hd K N pc na nb lvc stc hp [] 0 0 = some [σ] ∧ ax_Res w X md ρ E.1 hp out σ := by
  match st, h with
  | [], h => cases h
  | [_], h => cases h
  | y :: x :: st', h =>
    replace h : ax_psh (Nat.add pc 1) lv st' (ax_bin E i x y) = some out := h
    cases eb : ax_bin E i x y with
    | none => rw [eb] at h; cases h
    | some z =>
      obtain ⟨r, E1⟩ := z
      rw [eb] at h
      cases h
      obtain ⟨yv, r1, rfl, hy, hr1⟩ := ax_evs_cons hs
      obtain ⟨xv, r2, rfl, hx, hr2⟩ := ax_evs_cons hr1
      obtain ⟨p0, q0, p1, q1, r0, f1, f2, f3, ρ', a1, a2, a3⟩ := ax_bin_ok hE hx hy eb
      exact ⟨_, hh xv yv r0 r2 p0 q0 f1, ax_new1 hT f3 a1 a2 (ax_evs_mono f3 a1 hl) (ax_evs_push a3 (ax_evs_mono f3 a1 hr2)) List.mem_cons_self⟩
theorem ax_ar {f : Nat → Nat → Option Nat} {g : Nat → Nat × Nat} {x y r : Nat} {s' : List Nat} (hx : x % 4 = 0) (hy : y % 4 = 0) (h : f (x / 4) (y / 4) = some r) : rx_h_ar f g K N pc na nb lvc (y :: x :: s') hp [] 0 0 = some [(Nat.add pc 1, lvc, rx_int r :: s', hp, [], 0, 0)] := by
  unfold rx_h_ar
  show (bif Nat.beq (rx_tk (rx_kn [] x)) 0 && Nat.beq (rx_tk (rx_kn [] y)) 0 then (match f (rx_pl (rx_kn [] x)) (rx_pl (rx_kn [] y)) with
      | some n => some [(Nat.add pc 1, lvc, rx_int n :: s', hp, [], 0, 0)]
      | none => none) else _) = _
  rw [ax_kn, ax_kn, rx_beq.mpr (show rx_tk x = 0 from hx), rx_beq.mpr (show rx_tk y = 0 from hy), show f (rx_pl x) (rx_pl y) = some r from h]
  rfl
theorem ax_ark {f : Nat → Nat → Option Nat} {x y r : Nat} {s' : List Nat} (hx : x % 4 = 0) (hy : y % 4 = 0) (h : f (x / 4) (y / 4) = some r) : rx_h_ark f K N pc na nb lvc (y :: x :: s') hp [] 0 0 = some [(Nat.add pc 1, lvc, rx_int r :: s', hp, [], 0, 0)] := by
  unfold rx_h_ark
  show (bif Nat.beq (rx_tk x) 0 && Nat.beq (rx_tk y) 0 then (match f (rx_pl x) (rx_pl y) with
      | some n => some [(Nat.add pc 1, lvc, rx_int n :: s', hp, [], 0, 0)]
      | none => none) else _) = _
  rw [rx_beq.mpr (show rx_tk x = 0 from hx), rx_beq.mpr (show rx_tk y = 0 from hy), show f (rx_pl x) (rx_pl y) = some r from h]
  rfl
/-- a value of a type is pushed -/
theorem ax_t_val {t : ax_Y} {x p : Nat} {st' stc' : List Nat} (hE : ax_EO w X ρ E hp) (hT : ax_HT w hp) (hl : lv.map (ax_ev E.1 ρ) = lvc.map some) (hs : st'.map (ax_ev E.1 ρ) = stc'.map some) (hx : ax_ok w t x) (h : ax_psh p lv st' (some (ax_val E t)) = some out) : ax_Res w X md ρ E.1 hp out (p, lvc, x :: stc', hp, [], 0, 0) := by
  obtain ⟨n1, ρ', a1, a2, a3⟩ := ax_val_ok hE hx
  cases h
  exact ax_new1 hT n1 a1 a2 (ax_evs_mono n1 a1 hl) (ax_evs_push a3 (ax_evs_mono n1 a1 hs)) List.mem_cons_self
theorem ax_int_ok {lo hi n : Nat} (h : n < 4294967296) (h1 : lo ≤ rx_bi n) (h2 : rx_bi n ≤ hi) : ax_ok w (0, lo, hi) (rx_int n) := by
  obtain ⟨p1, p2, p3⟩ := ax_int_lt h
  exact Or.inl ⟨rfl, p1, p3, by rw [p2]; exact h1, by rw [p2]; exact h2⟩
end AXS
end
section
section AXT
variable {w : ax_W} {X : ax_X} {md : List (Nat × Nat)} {ρ : Nat → Nat} {E : ax_E} {hp : rx_H} {K : rx_K} {N : rx_N} {pc na nb : Nat} {lv st lvc stc : List Nat} {out : List ax_A}
theorem ax_i2b_ok (z : Int32) : 2147483520 ≤ rx_bi (rx_i32 z.toInt8.toInt32) ∧ rx_bi (rx_i32 z.toInt8.toInt32) ≤ 2147483775 := by
  have h := rx_i8_ok z
  have e : rx_bias z.toInt8.toInt32 = rx_bi (rx_i32 z.toInt8.toInt32) := by
    rw [← rx_bias_ofNat, rx_i32_of]
  rw [e] at h
  exact h
theorem ax_t_un {f : Nat → Nat} {lo hi : Nat} (hf : ∀ x, f x < 4294967296 ∧ lo ≤ rx_bi (f x) ∧ rx_bi (f x) ≤ hi) (hE : ax_EO w X ρ E hp) (hT : ax_HT w hp) (hl : lv.map (ax_ev E.1 ρ) = lvc.map some)
    (h : (match st with | x :: st' => bif ax_isK E 0 x then ax_psh (Nat.add pc 1) lv st' (some (ax_val E (0, lo, hi))) else none | [] => none) = some out) (hs : st.map (ax_ev E.1 ρ) = stc.map some) : ∃ σ, rx_h_un f K N pc na nb lvc stc hp [] 0 0 = some [σ] ∧ ax_Res w X md ρ E.1 hp out σ := by
  match st, h with
  | [], h => cases h
  | x :: st', h =>
    obtain ⟨hk, h⟩ := rx_cond h
    obtain ⟨xv, r, rfl, hx, hr⟩ := ax_evs_cons hs
    obtain ⟨k0, k1⟩ := ax_isK0 hE hk hx
    obtain ⟨f1, f2, f3⟩ := hf (xv / 4)
    refine ⟨_, ?_, ax_t_val hE hT hl hr (ax_int_ok f1 f2 f3) h⟩
    show (bif Nat.beq (rx_tk xv) 0 then some [(Nat.add pc 1, lvc, rx_int (f (rx_pl xv)) :: r, hp, [], 0, 0)] else none) = _
    rw [rx_beq.mpr (show rx_tk xv = 0 from k0)]
    rfl
theorem ax_t_i2b (hE : ax_EO w X ρ E hp) (hT : ax_HT w hp) (hl : lv.map (ax_ev E.1 ρ) = lvc.map some)
    (h : (match st with | x :: st' => bif ax_isK E 0 x then ax_psh (Nat.add pc 1) lv st' (some (ax_kp5 x (ax_val E (0, 2147483520, 2147483775)))) else none | [] => none) = some out) (hs : st.map (ax_ev E.1 ρ) = stc.map some) : ∃ σ, rx_h_un rx_f_i2b K N pc na nb lvc stc hp [] 0 0 = some [σ] ∧ ax_Res w X md ρ E.1 hp out σ := by
  match st, h with
  | [], h => cases h
  | x :: st', h =>
    obtain ⟨hk, h⟩ := rx_cond h
    obtain ⟨xv, r, rfl, hx, hr⟩ := ax_evs_cons hs
    obtain ⟨k0, k1⟩ := ax_isK0 hE hk hx
    have f1 : rx_f_i2b (xv / 4) < 4294967296 := ax_i32_lt _
    have f23 : 2147483520 ≤ rx_bi (rx_f_i2b (xv / 4)) ∧ rx_bi (rx_f_i2b (xv / 4)) ≤ 2147483775 := ax_i2b_ok _
    obtain ⟨n1, ρ', a1, a2, a3⟩ := ax_val_ok hE (ax_int_ok f1 f23.1 f23.2 : ax_ok w (0, 2147483520, 2147483775) (rx_int (rx_f_i2b (xv / 4))))
    cases h
    have hno : ax_NO X (ax_val E (0, 2147483520, 2147483775)).2.1 ρ' hp (1043, [x, 0, (ax_val E (0, 2147483520, 2147483775)).1, 0, 0]) := by
      refine ⟨[xv, 0, rx_int (rx_f_i2b (xv / 4)), 0, 0], ax_evs_push (ax_ev_mono n1 a1 hx) (ax_evs_push (ax_ev_c (by decide)) (ax_evs_push a3 (ax_evs_push (ax_ev_c (by decide)) (ax_evs_push (ax_ev_c (by decide)) rfl)))), ?_⟩
      exact (ax_XF_bi (o := 43) (by decide)).mpr (Or.inr (Or.inr ⟨Or.inl rfl, k0, rfl⟩))
    refine ⟨(Nat.add pc 1, lvc, rx_int (rx_f_i2b (xv / 4)) :: r, hp, [], 0, 0), ?_, ax_new1 (E' := ax_addX (ax_val E (0, 2147483520, 2147483775)).2 (1043, [x, 0, (ax_val E (0, 2147483520, 2147483775)).1, 0, 0])) hT n1 a1 (ax_addX_ok a2 hno) (ax_evs_mono n1 a1 hl) (ax_evs_push a3 (ax_evs_mono n1 a1 hr)) List.mem_cons_self⟩
    show (bif Nat.beq (rx_tk xv) 0 then some [(Nat.add pc 1, lvc, rx_int (rx_f_i2b (rx_pl xv)) :: r, hp, [], 0, 0)] else none) = _
    rw [rx_beq.mpr (show rx_tk xv = 0 from k0)]
    rfl
theorem ax_t_ineg (hE : ax_EO w X ρ E hp) (hT : ax_HT w hp) (hl : lv.map (ax_ev E.1 ρ) = lvc.map some)
    (h : (match st with | x :: st' => bif ax_isK E 0 x then ax_psh (Nat.add pc 1) lv st' (some (ax_kp6 x (ax_val E (0, 0, 4294967295)))) else none | [] => none) = some out) (hs : st.map (ax_ev E.1 ρ) = stc.map some) : ∃ σ, rx_h_un rx_f_neg K N pc na nb lvc stc hp [] 0 0 = some [σ] ∧ ax_Res w X md ρ E.1 hp out σ := by
  match st, h with
  | [], h => cases h
  | x :: st', h =>
    obtain ⟨hk, h⟩ := rx_cond h
    obtain ⟨xv, r, rfl, hx, hr⟩ := ax_evs_cons hs
    obtain ⟨k0, k1⟩ := ax_isK0 hE hk hx
    have f1 : rx_f_neg (xv / 4) < 4294967296 := ax_i32_lt _
    have f23 : 0 ≤ rx_bi (rx_f_neg (xv / 4)) ∧ rx_bi (rx_f_neg (xv / 4)) ≤ 4294967295 := ax_full_ok _
    obtain ⟨n1, ρ', a1, a2, a3⟩ := ax_val_ok hE (ax_int_ok f1 f23.1 f23.2 : ax_ok w (0, 0, 4294967295) (rx_int (rx_f_neg (xv / 4))))
    cases h
    have hno : ax_NO X (ax_val E (0, 0, 4294967295)).2.1 ρ' hp (1044, [x, 0, (ax_val E (0, 0, 4294967295)).1, 0, 0]) := by
      refine ⟨[xv, 0, rx_int (rx_f_neg (xv / 4)), 0, 0], ax_evs_push (ax_ev_mono n1 a1 hx) (ax_evs_push (ax_ev_c (by decide)) (ax_evs_push a3 (ax_evs_push (ax_ev_c (by decide)) (ax_evs_push (ax_ev_c (by decide)) rfl)))), ?_⟩
      exact (ax_XF_bi (o := 44) (by decide)).mpr (Or.inr (Or.inr ⟨Or.inr rfl, k0, rfl⟩))
    refine ⟨(Nat.add pc 1, lvc, rx_int (rx_f_neg (xv / 4)) :: r, hp, [], 0, 0), ?_, ax_new1 (E' := ax_addX (ax_val E (0, 0, 4294967295)).2 (1044, [x, 0, (ax_val E (0, 0, 4294967295)).1, 0, 0])) hT n1 a1 (ax_addX_ok a2 hno) (ax_evs_mono n1 a1 hl) (ax_evs_push a3 (ax_evs_mono n1 a1 hr)) List.mem_cons_self⟩
    show (bif Nat.beq (rx_tk xv) 0 then some [(Nat.add pc 1, lvc, rx_int (rx_f_neg (rx_pl xv)) :: r, hp, [], 0, 0)] else none) = _
    rw [rx_beq.mpr (show rx_tk xv = 0 from k0)]
    rfl
/-- a value of a type is pushed, and what it was made of is kept -/
theorem ax_t_kpt {t : ax_Y} {o x y xv yv z p : Nat} {st' stc' : List Nat} (ho : o < 200) (hE : ax_EO w X ρ E hp) (hT : ax_HT w hp) (hl : lv.map (ax_ev E.1 ρ) = lvc.map some) (hs : st'.map (ax_ev E.1 ρ) = stc'.map some) (hx : ax_ev E.1 ρ x = some xv) (hy : ax_ev E.1 ρ y = some yv) (hz : ax_ok w t z) (hb : ax_BI o [xv, yv, z]) (h : ax_psh p lv st' (some (ax_kpt o x y (ax_val E t))) = some out) : ax_Res w X md ρ E.1 hp out (p, lvc, z :: stc', hp, [], 0, 0) := by
  obtain ⟨n1, ρ', a1, a2, a3⟩ := ax_val_ok hE hz
  cases h
  have hno : ax_NO X (ax_val E t).2.1 ρ' hp (Nat.add 1000 o, [x, y, (ax_val E t).1]) := by
    refine ⟨[xv, yv, z], ax_evs_push (ax_ev_mono n1 a1 hx) (ax_evs_push (ax_ev_mono n1 a1 hy) (ax_evs_push a3 rfl)), ?_⟩
    exact (ax_XF_bi ho).mpr hb
  exact ax_new1 (E' := ax_addX (ax_val E t).2 (Nat.add 1000 o, [x, y, (ax_val E t).1])) hT n1 a1 (ax_addX_ok a2 hno) (ax_evs_mono n1 a1 hl) (ax_evs_push a3 (ax_evs_mono n1 a1 hs)) List.mem_cons_self
theorem ax_t_arJ {j : Nat} (hj : j ≤ 5) (hE : ax_EO w X ρ E hp) (hT : ax_HT w hp) (hl : lv.map (ax_ev E.1 ρ) = lvc.map some)
    (h : (match st with | y :: x :: st' => bif ax_isK E 1 x && ax_isK E 1 y then ax_psh (Nat.add pc 1) lv st' (some (ax_kpt (96 + j) x y (ax_val E (1, 0, 0)))) else none | _ => none) = some out) (hs : st.map (ax_ev E.1 ρ) = stc.map some) : ∃ σ, rx_h_arJ (ax_jf j) K N pc na nb lvc stc hp [] 0 0 = some [σ] ∧ ax_Res w X md ρ E.1 hp out σ := by
  match st, h with
  | [], h => cases h
  | [_], h => cases h
  | y :: x :: st', h =>
    obtain ⟨hk, h⟩ := rx_cond h
    obtain ⟨hkx, hky⟩ := rx_and2.mp hk
    obtain ⟨yv, r1, rfl, hy, hr1⟩ := ax_evs_cons hs
    obtain ⟨xv, r, rfl, hx, hr⟩ := ax_evs_cons hr1
    refine ⟨_, ?_, ax_t_kpt (z := rx_lng (ax_jf j (rx_pl xv) (rx_pl yv))) (by omega) hE hT hl hr hx hy (Or.inr (Or.inl ⟨rfl, by show (4 * ax_jf j (rx_pl xv) (rx_pl yv) + 1) % 4 = 1; omega⟩)) (Or.inr (Or.inl ⟨j, hj, rfl, ax_isK1 hE hkx hx, ax_isK1 hE hky hy, rfl⟩)) h⟩
    show (bif rx_isJ xv && rx_isJ yv then some [(Nat.add pc 1, lvc, rx_lng (ax_jf j (rx_pl xv) (rx_pl yv)) :: r, hp, [], 0, 0)] else none) = _
    rw [show rx_isJ xv = true from rx_beq.mpr (ax_isK1 hE hkx hx), show rx_isJ yv = true from rx_beq.mpr (ax_isK1 hE hky hy)]
    rfl
theorem ax_t_shJ (hE : ax_EO w X ρ E hp) (hT : ax_HT w hp) (hl : lv.map (ax_ev E.1 ρ) = lvc.map some)
    (h : (match st with | y :: x :: st' => bif ax_isK E 1 x && ax_isK E 0 y then ax_psh (Nat.add pc 1) lv st' (some (ax_kpt 104 x y (ax_val E (1, 0, 0)))) else none | _ => none) = some out) (hs : st.map (ax_ev E.1 ρ) = stc.map some) : ∃ σ, rx_h_shJ rx_j_shl K N pc na nb lvc stc hp [] 0 0 = some [σ] ∧ ax_Res w X md ρ E.1 hp out σ := by
  match st, h with
  | [], h => cases h
  | [_], h => cases h
  | y :: x :: st', h =>
    obtain ⟨hk, h⟩ := rx_cond h
    obtain ⟨hkx, hky⟩ := rx_and2.mp hk
    obtain ⟨yv, r1, rfl, hy, hr1⟩ := ax_evs_cons hs
    obtain ⟨xv, r, rfl, hx, hr⟩ := ax_evs_cons hr1
    refine ⟨_, ?_, ax_t_kpt (z := rx_lng (rx_j_shl (rx_pl xv) (rx_pl yv))) (by decide) hE hT hl hr hx hy (Or.inr (Or.inl ⟨rfl, by show (4 * rx_j_shl (rx_pl xv) (rx_pl yv) + 1) % 4 = 1; omega⟩)) (Or.inr (Or.inr ⟨Or.inr ⟨Or.inl rfl, (ax_isK0 hE hky hy).1⟩, ax_isK1 hE hkx hx, rfl⟩)) h⟩
    show (bif rx_isJ xv && Nat.beq (rx_tk yv) 0 then some [(Nat.add pc 1, lvc, rx_lng (rx_j_shl (rx_pl xv) (rx_pl yv)) :: r, hp, [], 0, 0)] else none) = _
    rw [show rx_isJ xv = true from rx_beq.mpr (ax_isK1 hE hkx hx), rx_beq.mpr (show rx_tk yv = 0 from (ax_isK0 hE hky hy).1)]
    rfl
theorem ax_t_shrJ (hE : ax_EO w X ρ E hp) (hT : ax_HT w hp) (hl : lv.map (ax_ev E.1 ρ) = lvc.map some)
    (h : (match st with | y :: x :: st' => bif ax_isK E 1 x && ax_isK E 0 y then ax_psh (Nat.add pc 1) lv st' (some (ax_kpt 105 x y (ax_val E (1, 0, 0)))) else none | _ => none) = some out) (hs : st.map (ax_ev E.1 ρ) = stc.map some) : ∃ σ, rx_h_shJ rx_j_shr K N pc na nb lvc stc hp [] 0 0 = some [σ] ∧ ax_Res w X md ρ E.1 hp out σ := by
  match st, h with
  | [], h => cases h
  | [_], h => cases h
  | y :: x :: st', h =>
    obtain ⟨hk, h⟩ := rx_cond h
    obtain ⟨hkx, hky⟩ := rx_and2.mp hk
    obtain ⟨yv, r1, rfl, hy, hr1⟩ := ax_evs_cons hs
    obtain ⟨xv, r, rfl, hx, hr⟩ := ax_evs_cons hr1
    refine ⟨_, ?_, ax_t_kpt (z := rx_lng (rx_j_shr (rx_pl xv) (rx_pl yv))) (by decide) hE hT hl hr hx hy (Or.inr (Or.inl ⟨rfl, by show (4 * rx_j_shr (rx_pl xv) (rx_pl yv) + 1) % 4 = 1; omega⟩)) (Or.inr (Or.inr ⟨Or.inr ⟨Or.inr rfl, (ax_isK0 hE hky hy).1⟩, ax_isK1 hE hkx hx, rfl⟩)) h⟩
    show (bif rx_isJ xv && Nat.beq (rx_tk yv) 0 then some [(Nat.add pc 1, lvc, rx_lng (rx_j_shr (rx_pl xv) (rx_pl yv)) :: r, hp, [], 0, 0)] else none) = _
    rw [show rx_isJ xv = true from rx_beq.mpr (ax_isK1 hE hkx hx), rx_beq.mpr (show rx_tk yv = 0 from (ax_isK0 hE hky hy).1)]
    rfl
theorem ax_lcmp_ok (x y : Nat) : rx_f_lcmp x y < 4294967296 ∧ 2147483647 ≤ rx_bi (rx_f_lcmp x y) ∧ rx_bi (rx_f_lcmp x y) ≤ 2147483649 := by
  refine ⟨ax_i32_lt _, ?_⟩
  unfold rx_f_lcmp lg_cmp
  by_cases h1 : Int64.ofNat x > Int64.ofNat y
  · rw [if_pos h1]; decide
  · rw [if_neg h1]
    by_cases h2 : Int64.ofNat x = Int64.ofNat y
    · rw [if_pos h2]; decide
    · rw [if_neg h2]; decide
theorem ax_t_lcmp (hE : ax_EO w X ρ E hp) (hT : ax_HT w hp) (hl : lv.map (ax_ev E.1 ρ) = lvc.map some)
    (h : (match st with | y :: x :: st' => bif ax_isK E 1 x && ax_isK E 1 y then ax_psh (Nat.add pc 1) lv st' (some (ax_kpt 112 x y (ax_val E (0, 2147483647, 2147483649)))) else none | _ => none) = some out) (hs : st.map (ax_ev E.1 ρ) = stc.map some) : ∃ σ, rx_h_lcmp K N pc na nb lvc stc hp [] 0 0 = some [σ] ∧ ax_Res w X md ρ E.1 hp out σ := by
  match st, h with
  | [], h => cases h
  | [_], h => cases h
  | y :: x :: st', h =>
    obtain ⟨hk, h⟩ := rx_cond h
    obtain ⟨hkx, hky⟩ := rx_and2.mp hk
    obtain ⟨yv, r1, rfl, hy, hr1⟩ := ax_evs_cons hs
    obtain ⟨xv, r, rfl, hx, hr⟩ := ax_evs_cons hr1
    obtain ⟨f1, f2, f3⟩ := ax_lcmp_ok (rx_pl xv) (rx_pl yv)
    refine ⟨_, ?_, ax_t_kpt (by decide) hE hT hl hr hx hy (ax_int_ok f1 f2 f3) (Or.inr (Or.inr ⟨Or.inl ⟨rfl, ax_isK1 hE hky hy⟩, ax_isK1 hE hkx hx, rfl⟩)) h⟩
    show (bif rx_isJ xv && rx_isJ yv then some [(Nat.add pc 1, lvc, rx_int (rx_f_lcmp (rx_pl xv) (rx_pl yv)) :: r, hp, [], 0, 0)] else none) = _
    rw [show rx_isJ xv = true from rx_beq.mpr (ax_isK1 hE hkx hx), show rx_isJ yv = true from rx_beq.mpr (ax_isK1 hE hky hy)]
    rfl
theorem ax_nJ_f (hE : ax_EO w X ρ E hp) {v x : Nat} (h : ax_nJ E v = true) (hx : ax_ev E.1 ρ v = some x) : rx_isJ x = false := Bool.eq_false_iff.mpr (fun z => ax_nJok hE h hx (rx_beq.mp z))
theorem ax_t_dup (hE : ax_EO w X ρ E hp) (hT : ax_HT w hp) (hl : lv.map (ax_ev E.1 ρ) = lvc.map some)
    (h : (match st with | v :: st' => bif ax_nJ E v then some [(Nat.add pc 1, lv, v :: v :: st', E)] else none | [] => none) = some out) (hs : st.map (ax_ev E.1 ρ) = stc.map some) : ∃ σ, rx_h_dup K N pc na nb lvc stc hp [] 0 0 = some [σ] ∧ ax_Res w X md ρ E.1 hp out σ := by
  match st, h with
  | [], h => cases h
  | v :: st', h =>
    obtain ⟨hk, h⟩ := rx_cond h
    cases h
    obtain ⟨x, r, rfl, hx, hr⟩ := ax_evs_cons hs
    refine ⟨_, ?_, ax_one hE hT hl (ax_evs_push hx (ax_evs_push hx hr)) List.mem_cons_self⟩
    show (bif rx_isJ x then none else _) = _
    rw [ax_nJ_f hE hk hx]
    rfl
theorem ax_t_pop (hE : ax_EO w X ρ E hp) (hT : ax_HT w hp) (hl : lv.map (ax_ev E.1 ρ) = lvc.map some)
    (h : (match st with | v :: st' => bif ax_nJ E v then some [(Nat.add pc 1, lv, st', E)] else none | [] => none) = some out) (hs : st.map (ax_ev E.1 ρ) = stc.map some) : ∃ σ, rx_h_pop K N pc na nb lvc stc hp [] 0 0 = some [σ] ∧ ax_Res w X md ρ E.1 hp out σ := by
  match st, h with
  | [], h => cases h
  | v :: st', h =>
    obtain ⟨hk, h⟩ := rx_cond h
    cases h
    obtain ⟨x, r, rfl, hx, hr⟩ := ax_evs_cons hs
    refine ⟨_, ?_, ax_one hE hT hl hr List.mem_cons_self⟩
    show (bif rx_isJ x then none else _) = _
    rw [ax_nJ_f hE hk hx]
    rfl
theorem ax_t_dup2 (hE : ax_EO w X ρ E hp) (hT : ax_HT w hp) (hl : lv.map (ax_ev E.1 ρ) = lvc.map some)
    (h : (match st with | v :: u :: st' => bif ax_nJ E v && ax_nJ E u then some [(Nat.add pc 1, lv, v :: u :: v :: u :: st', E)] else none | _ => none) = some out) (hs : st.map (ax_ev E.1 ρ) = stc.map some) : ∃ σ, rx_h_dup2 K N pc na nb lvc stc hp [] 0 0 = some [σ] ∧ ax_Res w X md ρ E.1 hp out σ := by
  match st, h with
  | [], h => cases h
  | [_], h => cases h
  | v :: u :: st', h =>
    obtain ⟨hk, h⟩ := rx_cond h
    cases h
    obtain ⟨hkv, hku⟩ := rx_and2.mp hk
    obtain ⟨x, r1, rfl, hx, hr1⟩ := ax_evs_cons hs
    obtain ⟨y, r, rfl, hy, hr⟩ := ax_evs_cons hr1
    refine ⟨_, ?_, ax_one hE hT hl (ax_evs_push hx (ax_evs_push hy (ax_evs_push hx (ax_evs_push hy hr)))) List.mem_cons_self⟩
    show (bif rx_isJ x || rx_isJ y then none else _) = _
    rw [ax_nJ_f hE hkv hx, ax_nJ_f hE hku hy]
    rfl
theorem ax_t_goto (hE : ax_EO w X ρ E hp) (hT : ax_HT w hp) (hl : lv.map (ax_ev E.1 ρ) = lvc.map some) (hs : st.map (ax_ev E.1 ρ) = stc.map some)
    (h : some [(na, lv, st, E)] = some out) : ∃ σ, rx_h_goto K N pc na nb lvc stc hp [] 0 0 = some [σ] ∧ ax_Res w X md ρ E.1 hp out σ := by
  cases h
  exact ⟨_, rfl, ax_one hE hT hl hs List.mem_cons_self⟩
-- branches
theorem ax_io {v : Nat} (h : v % 4 = 0) : rx_io [] v = some (rx_bi (v / 4), rx_bi (v / 4)) := by
  unfold rx_io
  rw [rx_beq.mpr (show rx_tk v = 0 from h)]
  rfl
theorem ax_tri (k : ClassFile.Cond) (a b : Nat) : (ax_cnd (ax_cn k) a b ∧ rx_tri k (a, a) (b, b) = some true) ∨ (¬ ax_cnd (ax_cn k) a b ∧ rx_tri k (a, a) (b, b) = some false) := by
  have tt : ∀ {p : Prop} {q : Bool}, (q = true ↔ p) → ¬ p → q = false := fun h1 h2 => Bool.eq_false_iff.mpr (fun z => h2 (h1.mp z))
  cases k with
  | lt =>
    by_cases h : a < b
    · exact Or.inl ⟨h, by show (bif Nat.blt a b then some true else _) = _; rw [rx_blt.mpr h]; rfl⟩
    · exact Or.inr ⟨h, by show (bif Nat.blt a b then some true else bif Nat.ble b a then some false else none) = _; rw [tt rx_blt h, rx_ble.mpr (by omega)]; rfl⟩
  | ge =>
    by_cases h : b ≤ a
    · exact Or.inl ⟨h, by show (bif Nat.blt a b then some false else bif Nat.ble b a then some true else none) = _; rw [tt rx_blt (by omega), rx_ble.mpr h]; rfl⟩
    · exact Or.inr ⟨h, by show (bif Nat.blt a b then some false else _) = _; rw [rx_blt.mpr (by omega)]; rfl⟩
  | gt =>
    by_cases h : b < a
    · exact Or.inl ⟨h, by show (bif Nat.blt b a then some true else _) = _; rw [rx_blt.mpr h]; rfl⟩
    · exact Or.inr ⟨h, by show (bif Nat.blt b a then some true else bif Nat.ble a b then some false else none) = _; rw [tt rx_blt h, rx_ble.mpr (by omega)]; rfl⟩
  | le =>
    by_cases h : a ≤ b
    · exact Or.inl ⟨h, by show (bif Nat.blt b a then some false else bif Nat.ble a b then some true else none) = _; rw [tt rx_blt (by omega), rx_ble.mpr h]; rfl⟩
    · exact Or.inr ⟨h, by show (bif Nat.blt b a then some false else _) = _; rw [rx_blt.mpr (by omega)]; rfl⟩
  | eq =>
    by_cases h : a = b
    · refine Or.inl ⟨h, ?_⟩
      subst h
      show (bif Nat.blt a a || Nat.blt a a then some false else bif Nat.beq a a && (Nat.beq a a && Nat.beq a a) then some true else none) = _
      rw [tt rx_blt (Nat.lt_irrefl a), Nat.beq_refl]
      rfl
    · refine Or.inr ⟨h, ?_⟩
      show (bif Nat.blt a b || Nat.blt b a then some false else _) = _
      rcases Nat.lt_or_gt_of_ne h with q | q
      · rw [rx_blt.mpr q]; rfl
      · rw [rx_blt.mpr q, Bool.or_true]; rfl
  | ne =>
    by_cases h : a = b
    · refine Or.inr ⟨fun z => z h, ?_⟩
      subst h
      show (bif Nat.blt a a || Nat.blt a a then some true else bif Nat.beq a a && (Nat.beq a a && Nat.beq a a) then some false else none) = _
      rw [tt rx_blt (Nat.lt_irrefl a), Nat.beq_refl]
      rfl
    · refine Or.inl ⟨h, ?_⟩
      show (bif Nat.blt a b || Nat.blt b a then some true else _) = _
      rcases Nat.lt_or_gt_of_ne h with q | q
      · rw [rx_blt.mpr q]; rfl
      · rw [rx_blt.mpr q, Bool.or_true]; rfl
theorem ax_cn_lt (k : ClassFile.Cond) : ax_cn k < 6 := by cases k <;> decide
theorem ax_Sm_res (hT : ax_HT w hp) {E' : ax_E} (hE' : ax_EO w X ρ E' hp) (hm : ax_Sm E E') {p : Nat} {st' stc' : List Nat} (hl : lv.map (ax_ev E.1 ρ) = lvc.map some) (hs : st'.map (ax_ev E.1 ρ) = stc'.map some) (h : (p, lv, st', E') ∈ out) : ax_Res w X md ρ E.1 hp out (p, lvc, stc', hp, [], 0, 0) :=
  ⟨_, h, ρ, hp, fun _ _ => rfl, Nat.le_of_eq hm.1.symm, ⟨rfl, by show lv.map (ax_ev E'.1 ρ) = _; rw [hm.1]; exact hl, by show st'.map (ax_ev E'.1 ρ) = _; rw [hm.1]; exact hs, rfl, hE', hT⟩, ax_HR.rf⟩
theorem ax_cmp_ok {k x y xv yv : Nat} (hk : k < 6) (hE : ax_EO w X ρ E hp) (hx : ax_ev E.1 ρ x = some xv) (hy : ax_ev E.1 ρ y = some yv) (hc : ax_cnd k (rx_bi (xv / 4)) (rx_bi (yv / 4))) : ax_EO w X ρ (ax_cmp E k x y) hp ∧ (ax_cmp E k x y).1 = E.1 := by
  unfold ax_cmp
  cases (ax_cst x || ax_cst y) with
  | true => exact ⟨hE, rfl⟩
  | false =>
    refine ⟨ax_addX_ok hE ⟨[xv, yv], ax_evs_push hx (ax_evs_push hy rfl), ?_⟩, rfl⟩
    have e7 : 1020 + k = 1000 + (20 + k) := by omega
    show ax_XF X (1020 + k) [xv, yv] hp
    rw [e7]
    exact (ax_XF_bi (by omega)).mpr (Or.inl ⟨k, hk, rfl, hc⟩)
theorem ax_hasc_ok {k x y xv yv : Nat} (hk : k < 6) (hE : ax_EO w X ρ E hp) (hx : ax_ev E.1 ρ x = some xv) (hy : ax_ev E.1 ρ y = some yv) (h : ax_hasc (ax_xf E) k x y = true) : ax_cnd k (rx_bi (xv / 4)) (rx_bi (yv / 4)) := by
  obtain ⟨n, hn, hz⟩ := List.any_eq_true.mp h
  obtain ⟨z1, z2⟩ := rx_and2.mp hz
  obtain ⟨n1, n2⟩ := n
  have z1 : n1 = 1020 + k := rx_beq.mp z1
  subst z1
  unfold ax_two at z2
  split at z2
  · rename_i a b hab
    obtain ⟨z3, z4⟩ := rx_and2.mp z2
    have z3 := rx_beq.mp z3
    have z4 := rx_beq.mp z4
    subst z3 z4
    obtain ⟨vs, q1, q2⟩ := hE.2.2.2.2 _ hn
    dsimp only at hab q1 q2
    rw [hab] at q1
    obtain ⟨x1, r1, e3, k1, p1⟩ := ax_evs_cons q1
    obtain ⟨x2, r2, e4, k2, p2⟩ := ax_evs_cons p1
    have e5 : r2 = [] := by cases r2 with | nil => rfl | cons _ _ => cases p2
    subst e5 e4 e3
    cases k1.symm.trans hx
    cases k2.symm.trans hy
    have e6 : 1020 + k = 1000 + (20 + k) := by omega
    rw [e6] at q2
    rcases (ax_XF_bi (by omega)).mp q2 with ⟨k', h2, h3, h4⟩ | ⟨h3, -⟩
    · have e7 : k' = k := by omega
      rw [e7] at h4
      exact h4
    · omega
  · cases z2
theorem ax_cnd_no {k a b : Nat} (hk : k < 6) (h : ax_cnd k a b) (h2 : ax_cnd (ax_not k) a b) : False := by
  match k, hk, h, h2 with
  | 0, _, h, h2 => exact h2 h
  | 1, _, h, h2 => exact h h2
  | 2, _, h, h2 => exact absurd (show a < b from h) (Nat.not_lt.mpr h2)
  | 3, _, h, h2 => exact absurd (show a < b from h2) (Nat.not_lt.mpr h)
  | 4, _, h, h2 => exact absurd (show b < a from h) (Nat.not_lt.mpr h2)
  | 5, _, h, h2 => exact absurd (show b < a from h2) (Nat.not_lt.mpr h)
  | n + 6, hk, _, _ => omega
theorem ax_not_lt {k : Nat} (hk : k < 6) : ax_not k < 6 := by
  match k, hk with
  | 0, _ => decide
  | 1, _ => decide
  | 2, _ => decide
  | 3, _ => decide
  | 4, _ => decide
  | 5, _ => decide
  | n + 6, hk => omega
theorem ax_ye2_ok {k x y xv yv : Nat} (hk : k < 6) (hE : ax_EO w X ρ E hp) (hx : ax_ev E.1 ρ x = some xv) (hy : ax_ev E.1 ρ y = some yv) (hc : ax_cnd k (rx_bi (xv / 4)) (rx_bi (yv / 4))) : ∃ E' ∈ ax_ye2 E k x y, ax_EO w X ρ E' hp ∧ E'.1 = E.1 := by
  unfold ax_ye2
  obtain ⟨E1, m1, m2, m3⟩ := ax_yes_ok hE hx hy hc
  cases h0 : (ax_cst x || ax_cst y) with
  | true => exact ⟨E1, m1, m2, m3.1⟩
  | false =>
    rw [cond_false]
    cases h1 : ax_hasc (ax_xf E) (ax_not k) x y with
    | true => exact (ax_cnd_no hk hc (ax_hasc_ok (ax_not_lt hk) hE hx hy h1)).elim
    | false =>
      rw [cond_false]
      cases ax_hasc (ax_xf E) k x y with
      | true => exact ⟨E, List.mem_cons_self, hE, rfl⟩
      | false =>
        obtain ⟨m4, m5⟩ := ax_cmp_ok hk m2 (by rw [m3.1]; exact hx) (by rw [m3.1]; exact hy) hc
        exact ⟨_, List.mem_map.mpr ⟨E1, m1, rfl⟩, m4, m5.trans m3.1⟩
theorem ax_cm_res (hT : ax_HT w hp) {E' : ax_E} (hE' : ax_EO w X ρ E' hp) (hm : E'.1 = E.1) {p : Nat} {st' stc' : List Nat} (hl : lv.map (ax_ev E.1 ρ) = lvc.map some) (hs : st'.map (ax_ev E.1 ρ) = stc'.map some) (h : (p, lv, st', E') ∈ out) : ax_Res w X md ρ E.1 hp out (p, lvc, stc', hp, [], 0, 0) :=
  ⟨_, h, ρ, hp, fun _ _ => rfl, Nat.le_of_eq hm.symm, ⟨rfl, by show lv.map (ax_ev E'.1 ρ) = _; rw [hm]; exact hl, by show st'.map (ax_ev E'.1 ρ) = _; rw [hm]; exact hs, rfl, hE', hT⟩, ax_HR.rf⟩
theorem ax_t_br {k : ClassFile.Cond} {x y xv yv : Nat} {st' stc' stx : List Nat} (hE : ax_EO w X ρ E hp) (hT : ax_HT w hp) (hl : lv.map (ax_ev E.1 ρ) = lvc.map some) (hs : st'.map (ax_ev E.1 ρ) = stc'.map some) (hx : ax_ev E.1 ρ x = some xv) (hy : ax_ev E.1 ρ y = some yv)
    (h : ax_brs pc na lv st' E (ax_cn k) x y = some out) : ∃ σ, rx_br k na pc xv yv stx stc' lvc hp [] 0 0 = some [σ] ∧ ax_Res w X md ρ E.1 hp out σ := by
  obtain ⟨hk, h⟩ := rx_cond h
  cases h
  obtain ⟨hkx, hky⟩ := rx_and2.mp hk
  obtain ⟨x0, x1⟩ := ax_isK0 hE hkx hx
  obtain ⟨y0, y1⟩ := ax_isK0 hE hky hy
  unfold rx_br
  rw [ax_io x0, ax_io y0]
  rcases ax_tri k (rx_bi (xv / 4)) (rx_bi (yv / 4)) with ⟨hc, ht⟩ | ⟨hc, ht⟩
  · obtain ⟨E', m1, m2, m3⟩ := ax_ye2_ok (ax_cn_lt k) hE hx hy hc
    refine ⟨(na, lvc, stc', hp, [], 0, 0), ?_, ax_cm_res hT m2 m3 hl hs (List.mem_append_left _ (List.mem_map.mpr ⟨E', m1, rfl⟩))⟩
    show (match rx_tri k (rx_bi (xv / 4), rx_bi (xv / 4)) (rx_bi (yv / 4), rx_bi (yv / 4)) with
      | some true => _ | some false => _ | none => _) = _
    rw [ht]
  · obtain ⟨E', m1, m2, m3⟩ := ax_ye2_ok (ax_not_lt (ax_cn_lt k)) hE hx hy (ax_not_ok (ax_cn_lt k) hc)
    refine ⟨(Nat.add pc 3, lvc, stc', hp, [], 0, 0), ?_, ax_cm_res hT m2 m3 hl hs (List.mem_append_right _ (List.mem_map.mpr ⟨E', m1, rfl⟩))⟩
    show (match rx_tri k (rx_bi (xv / 4), rx_bi (xv / 4)) (rx_bi (yv / 4), rx_bi (yv / 4)) with
      | some true => _ | some false => _ | none => _) = _
    rw [ht]
theorem ax_t_if {k : ClassFile.Cond} (hE : ax_EO w X ρ E hp) (hT : ax_HT w hp) (hl : lv.map (ax_ev E.1 ρ) = lvc.map some)
    (h : (match st with | x :: st' => ax_brs pc na lv st' E (ax_cn k) x 0 | [] => none) = some out) (hs : st.map (ax_ev E.1 ρ) = stc.map some) : ∃ σ, rx_h_if k K N pc na nb lvc stc hp [] 0 0 = some [σ] ∧ ax_Res w X md ρ E.1 hp out σ := by
  match st, h with
  | [], h => cases h
  | x :: st', h =>
    obtain ⟨xv, r, rfl, hx, hr⟩ := ax_evs_cons hs
    exact ax_t_br hE hT hl hr hx (ax_ev_c (by decide)) h
theorem ax_t_icmp {k : ClassFile.Cond} (hE : ax_EO w X ρ E hp) (hT : ax_HT w hp) (hl : lv.map (ax_ev E.1 ρ) = lvc.map some)
    (h : (match st with | y :: x :: st' => ax_brs pc na lv st' E (ax_cn k) x y | _ => none) = some out) (hs : st.map (ax_ev E.1 ρ) = stc.map some) : ∃ σ, rx_h_icmp k K N pc na nb lvc stc hp [] 0 0 = some [σ] ∧ ax_Res w X md ρ E.1 hp out σ := by
  match st, h with
  | [], h => cases h
  | [_], h => cases h
  | y :: x :: st', h =>
    obtain ⟨yv, r1, rfl, hy, hr1⟩ := ax_evs_cons hs
    obtain ⟨xv, r, rfl, hx, hr⟩ := ax_evs_cons hr1
    exact ax_t_br hE hT hl hr hx hy h
end AXT
end
section
section AXU
variable {w : ax_W} {X : ax_X} {md : List (Nat × Nat)} {ρ : Nat → Nat} {E : ax_E} {hp : rx_H} {K : rx_K} {N : rx_N} {pc na nb : Nat} {lv st lvc stc : List Nat} {out : List ax_A}
theorem ax_tsw_in (hE : ax_EO w X ρ E hp) {x xv : Nat} (hx : ax_ev E.1 ρ x = some xv) : ∀ {tg : List Nat} {j k t : Nat}, rx_bi (xv / 4) = j + k + 2147483648 → tg[k]? = some t → ∃ E', (t, lv, st, E') ∈ ax_tsw na lv st E x tg j ∧ ax_EO w X ρ E' hp ∧ ax_Sm E E'
  | [], j, k, t, _, h => by cases h
  | u :: tg, j, 0, t, hb, h => by
    cases h
    obtain ⟨E', f1, f2, f3⟩ := ax_refine_ok (lo := Nat.add j 2147483648) (hi := Nat.add j 2147483648) hE hx (by show j + 2147483648 ≤ _; omega) (by show _ ≤ j + 2147483648; omega)
    refine ⟨E', List.mem_append_left _ (List.mem_map.mpr ⟨E', ?_, rfl⟩), f2, f3⟩
    rw [f1]
    exact List.mem_cons_self
  | u :: tg, j, k + 1, t, hb, h => by
    rw [List.getElem?_cons_succ] at h
    obtain ⟨E', f1, f2⟩ := ax_tsw_in hE hx (j := Nat.succ j) (k := k) (by show _ = j + 1 + k + 2147483648; omega) h
    exact ⟨E', List.mem_append_right _ f1, f2⟩
theorem ax_tsw_out (hE : ax_EO w X ρ E hp) {x xv : Nat} (hx : ax_ev E.1 ρ x = some xv) : ∀ {tg : List Nat} {j : Nat}, j + tg.length + 2147483648 ≤ rx_bi (xv / 4) → ∃ E', (na, lv, st, E') ∈ ax_tsw na lv st E x tg j ∧ ax_EO w X ρ E' hp ∧ ax_Sm E E'
  | [], j, hb => by
    replace hb : j + 0 + 2147483648 ≤ rx_bi (xv / 4) := hb
    obtain ⟨E', f1, f2, f3⟩ := ax_refine_ok (lo := Nat.add j 2147483648) (hi := 4294967295) hE hx (by show j + 2147483648 ≤ _; omega) (ax_bi_max _)
    refine ⟨E', List.mem_map.mpr ⟨E', ?_, rfl⟩, f2, f3⟩
    rw [f1]
    exact List.mem_cons_self
  | u :: tg, j, hb => by
    rw [List.length_cons] at hb
    obtain ⟨E', f1, f2⟩ := ax_tsw_out hE hx (tg := tg) (j := Nat.succ j) (by show j + 1 + tg.length + 2147483648 ≤ _; omega)
    exact ⟨E', List.mem_append_right _ f1, f2⟩
theorem ax_t_tsw {lo hi : Int} {offs : Array Int} {i : Nat} {tg : List Nat} (hn : (bif decide (0 ≤ lo) && (decide (hi = lo + offs.toList.length - 1) && offs.toList.all (fun o => decide (0 ≤ (pc : Int) + o))) then some (21, lo.toNat, 0, ax_tgs pc offs.toList) else none) = some ((21 : Nat), i, (0 : Nat), tg)) (hE : ax_EO w X ρ E hp) (hT : ax_HT w hp) (hl : lv.map (ax_ev E.1 ρ) = lvc.map some)
    (h : (match st with
    | x :: st' => bif ax_isK E 0 x then some ((bif Nat.beq i 0 then (ax_lst (ax_refine E x 0 2147483647)) else ax_lst (ax_refine E x 0 (Nat.add i 2147483647))).map (fun E1 => (na, lv, st', E1)) ++ ax_tsw na lv st' E x tg i) else none
    | [] => none) = some out) (hne : tg ≠ []) (hs : st.map (ax_ev E.1 ρ) = stc.map some) : ∃ σ, rx_h_tsw lo hi offs K N pc na nb lvc stc hp [] 0 0 = some [σ] ∧ ax_Res w X md ρ E.1 hp out σ := by
  obtain ⟨hc, hn⟩ := rx_cond hn
  obtain ⟨c1, hc⟩ := rx_and2.mp hc
  obtain ⟨c2, c3⟩ := rx_and2.mp hc
  have c1 : 0 ≤ lo := of_decide_eq_true c1
  have c2 : hi = lo + offs.toList.length - 1 := of_decide_eq_true c2
  cases hn
  match st, h with
  | [], h => cases h
  | x :: st', h =>
    obtain ⟨hk, h⟩ := rx_cond h
    cases h
    obtain ⟨xv, r, rfl, hx, hr⟩ := ax_evs_cons hs
    obtain ⟨k0, k1⟩ := ax_isK0 hE hk hx
    obtain ⟨l0, rfl⟩ := Int.eq_ofNat_of_zero_le c1
    have hlen : 0 < offs.toList.length := by
      cases hl0 : offs.toList with
      | nil => rw [hl0] at hne; exact absurd rfl hne
      | cons a t => exact Nat.succ_pos _
    obtain ⟨h0, hh0⟩ : ∃ h0 : Nat, hi = Int.ofNat h0 := Int.eq_ofNat_of_zero_le (by omega)
    subst hh0
    have hh : h0 + 1 = l0 + offs.toList.length := by
      rw [Int.ofNat_eq_natCast] at c2
      omega
    have ei : ((l0 : Nat) : Int).toNat = l0 := rfl
    have goal : ∀ σ : rx_S, rx_tsw1 (Nat.add l0 2147483648) (Nat.add h0 2147483648) offs pc na xv (rx_bi (xv / 4)) (rx_bi (xv / 4)) lvc r hp [] 0 0 = some [σ] → rx_h_tsw (Int.ofNat l0) (Int.ofNat h0) offs K N pc na nb lvc (xv :: r) hp [] 0 0 = some [σ] := by
      intro σ hσ
      show rx_tsw2 (rx_io [] xv) (Int.ofNat l0) (Int.ofNat h0) offs pc na xv lvc r hp [] 0 0 = some [σ]
      rw [ax_io k0]
      exact hσ
    by_cases hb1 : rx_bi (xv / 4) < l0 + 2147483648
    · refine ⟨(na, lvc, r, hp, [], 0, 0), goal _ ?_, ?_⟩
      · unfold rx_tsw1
        rw [rx_blt.mpr (show rx_bi (xv / 4) < Nat.add l0 2147483648 from hb1)]
        rfl
      · obtain ⟨E', f1, f2, f3⟩ := ax_refine_ok (lo := 0) (hi := Nat.add l0 2147483647) hE hx (Nat.zero_le _) (by show _ ≤ l0 + 2147483647; omega)
        refine ax_Sm_res hT f2 f3 hl hr (List.mem_append_left _ (List.mem_map.mpr ⟨E', ?_, rfl⟩))
        rw [ei]
        cases hz : Nat.beq l0 0 with
        | false => rw [cond_false, f1]; exact List.mem_cons_self
        | true =>
          have hz := rx_beq.mp hz
          subst hz
          rw [cond_true]
          have e0 : Nat.add 0 2147483647 = 2147483647 := Nat.zero_add _
          rw [e0] at f1
          rw [f1]
          exact List.mem_cons_self
    · by_cases hb2 : rx_bi (xv / 4) < l0 + offs.toList.length + 2147483648
      · obtain ⟨k, hk2⟩ : ∃ k, rx_bi (xv / 4) = l0 + k + 2147483648 := ⟨rx_bi (xv / 4) - (l0 + 2147483648), by omega⟩
        have hkl : k < offs.toList.length := by omega
        have ho : offs.toList[k]? = some offs.toList[k] := List.getElem?_eq_getElem hkl
        have hoff := of_decide_eq_true (List.all_eq_true.mp c3 _ (List.getElem_mem hkl))
        obtain ⟨t, ht⟩ := Int.eq_ofNat_of_zero_le hoff
        have htg : (ax_tgs pc offs.toList)[k]? = some t := by
          unfold ax_tgs
          rw [List.getElem?_map, ho]
          show some ((pc : Int) + offs.toList[k]).toNat = some t
          rw [ht]
          rfl
        obtain ⟨E', f1, f2, f3⟩ := ax_tsw_in (na := na) (lv := lv) (st := st') hE hx hk2 htg
        refine ⟨(t, lvc, r, hp, [], 0, 0), goal _ ?_, ax_Sm_res hT f2 f3 hl hr (List.mem_append_right _ f1)⟩
        unfold rx_tsw1
        rw [show Nat.blt (rx_bi (xv / 4)) (Nat.add l0 2147483648) = false from Bool.eq_false_iff.mpr (fun z => hb1 (rx_blt.mp z)), show Nat.blt (Nat.add h0 2147483648) (rx_bi (xv / 4)) = false from Bool.eq_false_iff.mpr (fun z => by have z : h0 + 2147483648 < rx_bi (xv / 4) := rx_blt.mp z; omega), Nat.beq_refl]
        have e1 : Nat.sub (rx_bi (xv / 4)) (Nat.add l0 2147483648) = k := by show rx_bi (xv / 4) - (l0 + 2147483648) = k; omega
        rw [e1]
        show (match offs[k]? with
          | some o => (match (pc : Int) + o with
            | .ofNat t => some [(t, lvc, r, hp, [], 0, 0)]
            | _ => none)
          | none => none) = _
        rw [← Array.getElem?_toList, ho]
        show (match (pc : Int) + offs.toList[k] with
            | .ofNat t => some [(t, lvc, r, hp, [], 0, 0)]
            | _ => none) = _
        rw [ht]
      · obtain ⟨E', f1, f2, f3⟩ := ax_tsw_out (na := na) (lv := lv) (st := st') hE hx (tg := ax_tgs pc offs.toList) (j := l0) (by unfold ax_tgs; rw [List.length_map]; omega)
        refine ⟨(na, lvc, r, hp, [], 0, 0), goal _ ?_, ax_Sm_res hT f2 f3 hl hr (List.mem_append_right _ f1)⟩
        unfold rx_tsw1
        rw [rx_blt.mpr (show Nat.add h0 2147483648 < rx_bi (xv / 4) by show h0 + 2147483648 < _; omega), Bool.or_true]
        rfl
/-- a cell, its region, its content -/
theorem ax_cell (hE : ax_EO w X ρ E hp) (hT : ax_HT w hp) {a av g : Nat} (ha : ax_ev E.1 ρ a = some av) (hg : ax_rg w E a = some g) : av % 4 = 2 ∧ 2 ≤ av / 4 ∧ av / 4 < 258 ∧ w.1[av / 4 - 2]? = some g ∧ ∃ (k n : Nat) (l : List (Nat × ax_Y)) (f : List Nat), w.2.1[g]? = some (k, n, l) ∧ rx_hg hp (av / 4 - 2) = some (k, n, f) ∧ f.length = n ∧ ∀ i v : Nat, f[i]? = some v → ∃ t, ax_at l i = some t ∧ ax_ok w t v := by
  obtain ⟨h1, h2, h3, h4⟩ := ax_rg_ok hE hg ha
  exact ⟨h1, h2, h3, h4, hT.2 _ _ h4⟩
theorem ax_tag2 {v : Nat} (h1 : v % 4 = 2) (h2 : 2 ≤ v / 4) : (Nat.beq (rx_tk v) 2 && Nat.ble 2 (rx_pl v)) = true := rx_and2.mpr ⟨rx_beq.mpr h1, rx_ble.mpr h2⟩
theorem ax_t_gf (hE : ax_EO w X ρ E hp) (hT : ax_HT w hp) (hl : lv.map (ax_ev E.1 ρ) = lvc.map some) (hs : st.map (ax_ev E.1 ρ) = stc.map some)
    (h : ax_h_gf w pc na nb lv st E = some out) : ∃ σ, rx_h_gf K N pc na nb lvc stc hp [] 0 0 = some [σ] ∧ ax_Res w X md ρ E.1 hp out σ := by
  match st, h, hs with
  | [], h, _ => cases h
  | a :: st', h, hs =>
    unfold ax_h_gf at h
    dsimp only at h
    cases eg : ax_rg w E a with
    | none => rw [eg] at h; cases h
    | some g =>
      rw [eg] at h
      dsimp only at h
      rw [rx_nth_eq] at h
      obtain ⟨av, r, rfl, ha, hr⟩ := ax_evs_cons hs
      obtain ⟨h1, h2, h3, h4, k, n, l, f, p1, p2, p3, p4⟩ := ax_cell hE hT ha eg
      rw [p1] at h
      dsimp only at h
      obtain ⟨hc, h⟩ := rx_cond h
      obtain ⟨c1, c2⟩ := rx_and2.mp hc
      have c2 : nb < n := rx_blt.mp c2
      cases er : ax_rd w E a (rx_int nb) (ax_at l nb) with
      | none => rw [er] at h; cases h
      | some z =>
        obtain ⟨c, E'⟩ := z
        rw [er] at h
        cases h
        have hlt : nb < f.length := by rw [p3]; exact c2
        have hfv : f[nb]? = some f[nb] := List.getElem?_eq_getElem hlt
        have i4 : rx_int nb / 4 = nb := by show 4 * nb / 4 = nb; omega
        have m4 : rx_int nb % 4 = 0 := by show 4 * nb % 4 = 0; omega
        obtain ⟨n1, ρ', a1, a2, a3⟩ := ax_rd_ok hE ha (ax_ev_c (v := rx_int nb) (by omega)) h1 h2 m4 p2 (by rw [i4]; exact hfv) (fun y hy => by obtain ⟨t, t1, t2⟩ := p4 nb _ hfv; cases hy.symm.trans t1; exact t2) er
        refine ⟨(Nat.add pc 3, lvc, f[nb] :: r, hp, [], 0, 0), ?_, ax_new1 hT n1 a1 a2 (ax_evs_mono n1 a1 hl) (ax_evs_push a3 (ax_evs_mono n1 a1 hr)) List.mem_cons_self⟩
        show (bif Nat.beq (rx_tk av) 2 && Nat.ble 2 (rx_pl av) then (match rx_hg hp (Nat.sub (rx_pl av) 2) with
          | some (t, _, l) => bif Nat.beq t na then (match rx_nth l nb with
              | some x => some [(Nat.add pc 3, lvc, x :: r, hp, [], 0, 0)]
              | none => none) else none
          | none => none) else none) = _
        rw [ax_tag2 h1 h2, show rx_hg hp (Nat.sub (rx_pl av) 2) = some (k, n, f) from p2]
        show (bif Nat.beq k na then (match rx_nth f nb with
              | some x => some [(Nat.add pc 3, lvc, x :: r, hp, [], 0, 0)]
              | none => none) else none) = _
        rw [c1, rx_nth_eq, hfv]
        rfl
theorem ax_bit_ok {v : Nat} (h0 : v % 4 = 0) (h1 : v / 4 < 4294967296) (h2 : 2147483648 ≤ rx_bi (v / 4)) (h3 : rx_bi (v / 4) ≤ 2147483649) : rx_bit v = true := by
  rw [ax_bi_def] at h2 h3
  have : v = 0 ∨ v = 4 := by omega
  rcases this with rfl | rfl
  · rfl
  · rfl
theorem ax_t_pf (hX : ax_XD w X) (hE : ax_EO w X ρ E hp) (hT : ax_HT w hp) (hl : lv.map (ax_ev E.1 ρ) = lvc.map some) (hs : st.map (ax_ev E.1 ρ) = stc.map some)
    (h : ax_h_pf w K md pc na nb lv st E = some out) : ∃ σ, rx_h_pf K N pc na nb lvc stc hp [] 0 0 = some [σ] ∧ ax_Res w X md ρ E.1 hp out σ := by
  match st, h, hs with
  | [], h, _ => cases h
  | [_], h, _ => cases h
  | v :: a :: st', h, hs =>
    unfold ax_h_pf at h
    dsimp only at h
    cases eg : ax_rg w E a with
    | none => rw [eg] at h; cases h
    | some g =>
      cases et : ax_typ E v with
      | none => rw [eg, et] at h; cases h
      | some t =>
        rw [eg, et] at h
        dsimp only at h
        rw [rx_nth_eq] at h
        obtain ⟨vv, r1, rfl, hv, hr1⟩ := ax_evs_cons hs
        obtain ⟨av, r, rfl, ha, hr⟩ := ax_evs_cons hr1
        obtain ⟨h1, h2, h3, h4, k, n, l, f, p1, p2, p3, p4⟩ := ax_cell hE hT ha eg
        rw [p1] at h
        dsimp only at h
        obtain ⟨hc, h⟩ := rx_cond h
        obtain ⟨c1, hc⟩ := rx_and2.mp hc
        obtain ⟨c2, hc⟩ := rx_and2.mp hc
        obtain ⟨c3, c4⟩ := rx_and2.mp hc
        have c2' : nb < n := rx_blt.mp c2
        cases ek : rx_nth K.2 na with
        | none => rw [ek] at h; cases h
        | some ks =>
          rw [ek] at h
          dsimp only at h
          cases ed : rx_nth ks nb with
          | none => rw [ed] at h; cases h
          | some kd =>
            rw [ed] at h
            dsimp only at h
            obtain ⟨hk, h⟩ := rx_cond h
            cases h
            have hok := ax_typ_ok hE et hv
            have hfok : rx_fok kd vv = true := by
              rcases rx_or2.mp hk with hk | hk
              · obtain ⟨k1, k2⟩ := rx_and2.mp hk
                have k1 := rx_beq.mp k1
                have k2 := rx_beq.mp k2
                subst k1
                rcases hok with ⟨-, q, -⟩ | ⟨q, -⟩ | ⟨q, -⟩ | ⟨q, -⟩
                · exact rx_or2.mpr (Or.inl (rx_beq.mpr q))
                · omega
                · omega
                · omega
              rcases rx_or2.mp hk with hk | hk
              · obtain ⟨k1, hk⟩ := rx_and2.mp hk
                obtain ⟨k2, hk⟩ := rx_and2.mp hk
                obtain ⟨k3, k4⟩ := rx_and2.mp hk
                have k1 := rx_beq.mp k1
                have k2 := rx_beq.mp k2
                subst k1
                rcases hok with ⟨-, q1, q2, q3, q4⟩ | ⟨q, -⟩ | ⟨q, -⟩ | ⟨q, -⟩
                · exact ax_bit_ok q1 q2 (Nat.le_trans (rx_ble.mp k3) q3) (Nat.le_trans q4 (rx_ble.mp k4))
                · omega
                · omega
                · omega
              · obtain ⟨k1, k2⟩ := rx_and2.mp hk
                have k1 := rx_beq.mp k1
                subst k1
                exact rx_beq.mpr (ax_isRok hE k2 hv).1
            have i4 : rx_int nb / 4 = nb := by show 4 * nb / 4 = nb; omega
            have m4 : rx_int nb % 4 = 0 := by show 4 * nb % 4 = 0; omega
            have idx : ax_idx (rx_int nb) = nb := by
              unfold ax_idx
              have : ax_cst (rx_int nb) = true := by
                unfold ax_cst
                rw [show Nat.beq (rx_tk (rx_int nb)) 3 = false from Bool.eq_false_iff.mpr (fun z => by have z : rx_int nb % 4 = 3 := rx_beq.mp z; omega)]
                rfl
              rw [this]
              exact i4
            obtain ⟨b1, b2, b3⟩ := ax_wr_ok hX hE hT ha (ax_ev_c (v := rx_int nb) (by omega)) hv h1 h2 m4 h4 p1 p2 p3 (by rw [i4]; exact c2') (by rw [i4]; exact ax_fits_ok c3 (Nat.le_refl _) (Nat.le_refl _) hok)
            rw [i4] at b1 b2 b3
            refine ⟨(Nat.add pc 3, lvc, r, rx_hs hp (av / 4 - 2) (k, n, f.set nb vv), [], 0, 0), ?_, ⟨_, List.mem_cons_self, ρ, _, fun _ _ => rfl, Nat.le_refl _, ⟨rfl, hl, hr, rfl, b1, b2⟩, b3.wk ?_⟩⟩
            · show (bif Nat.beq (rx_tk av) 2 && Nat.ble 2 (rx_pl av) then (match rx_hg hp (Nat.sub (rx_pl av) 2) with
                | some (t, n, l) => (match rx_nth K.2 na with
                  | some ks => (match rx_nth ks nb with
                    | some k => bif Nat.beq t na && (Nat.blt nb n && rx_fok k vv) then some [(Nat.add pc 3, lvc, r, rx_hs hp (Nat.sub (rx_pl av) 2) (t, n, rx_upd l nb vv), [], 0, 0)] else none
                    | none => none)
                  | none => none)
                | none => none) else none) = _
              rw [ax_tag2 h1 h2, show rx_hg hp (Nat.sub (rx_pl av) 2) = some (k, n, f) from p2, ek]
              dsimp only [cond_true]
              rw [ed]
              dsimp only
              rw [c1, c2, hfok, rx_upd_eq]
              rfl
            · rw [idx]
              exact ax_mem_one c4
end AXU
end
section
section AXV
variable {w : ax_W} {X : ax_X} {md : List (Nat × Nat)} {ρ : Nat → Nat} {E : ax_E} {hp : rx_H} {K : rx_K} {N : rx_N} {pc na nb : Nat} {lv st lvc stc : List Nat} {out : List ax_A}
theorem ax_inr_ok {i : Nat × Nat} {n x : Nat} (h : ax_inr i n = true) (hx : x < 4294967296) (h1 : i.1 ≤ rx_bi x) (h2 : rx_bi x ≤ i.2) : x < n ∧ i.1 - 2147483648 ≤ x ∧ x ≤ i.2 - 2147483648 := by
  obtain ⟨c1, c2⟩ := rx_and2.mp h
  have c1 : 2147483648 ≤ i.1 := rx_ble.mp c1
  have c2 : i.2 < n + 2147483648 := rx_blt.mp c2
  rw [ax_bi_def] at h1 h2
  omega
theorem ax_t_ald {o : Nat} {ok : Nat → Bool} (hok : ∀ k, ax_kok o k = true → ok k = true) (hE : ax_EO w X ρ E hp) (hT : ax_HT w hp) (hl : lv.map (ax_ev E.1 ρ) = lvc.map some) (hs : st.map (ax_ev E.1 ρ) = stc.map some)
    (h : ax_h_ald w o pc lv st E = some out) : ∃ σ, rx_h_ald ok K N pc na nb lvc stc hp [] 0 0 = some [σ] ∧ ax_Res w X md ρ E.1 hp out σ := by
  match st, h, hs with
  | [], h, _ => cases h
  | [_], h, _ => cases h
  | i :: a :: st', h, hs =>
    unfold ax_h_ald at h
    dsimp only at h
    cases eg : ax_rg w E a with
    | none => rw [eg] at h; cases h
    | some g =>
      cases ei : ax_iv E i with
      | none => rw [eg, ei] at h; cases h
      | some q =>
        rw [eg, ei] at h
        dsimp only at h
        rw [rx_nth_eq] at h
        obtain ⟨iv, r1, rfl, hi, hr1⟩ := ax_evs_cons hs
        obtain ⟨av, r, rfl, ha, hr⟩ := ax_evs_cons hr1
        obtain ⟨h1, h2, h3, h4, k, n, l, f, p1, p2, p3, p4⟩ := ax_cell hE hT ha eg
        obtain ⟨i0, i1, i2, i3⟩ := ax_iv_ok hE ei hi
        rw [p1] at h
        dsimp only at h
        obtain ⟨hc, h⟩ := rx_cond h
        obtain ⟨c1, hc⟩ := rx_and2.mp hc
        obtain ⟨c2, c3⟩ := rx_and2.mp hc
        obtain ⟨j1, j2, j3⟩ := ax_inr_ok c2 i1 i2 i3
        cases er : ax_rd w E a i (ax_hull l (Nat.sub q.1 2147483648) (Nat.sub q.2 2147483648)) with
        | none => rw [er] at h; cases h
        | some z =>
          obtain ⟨c, E'⟩ := z
          rw [er] at h
          cases h
          have hlt : iv / 4 < f.length := by rw [p3]; exact j1
          have hfv : f[iv / 4]? = some f[iv / 4] := List.getElem?_eq_getElem hlt
          obtain ⟨n1, ρ', a1, a2, a3⟩ := ax_rd_ok hE ha hi h1 h2 i0 p2 hfv (fun y hy => by obtain ⟨t, t1, t2⟩ := p4 _ _ hfv; exact ax_hull_ok hy j2 j3 t1 t2) er
          refine ⟨(Nat.add pc 1, lvc, f[iv / 4] :: r, hp, [], 0, 0), ?_, ax_new1 hT n1 a1 a2 (ax_evs_mono n1 a1 hl) (ax_evs_push a3 (ax_evs_mono n1 a1 hr)) List.mem_cons_self⟩
          have h6 : Nat.beq av 6 = false := Bool.eq_false_iff.mpr (fun z => by have := rx_beq.mp z; omega)
          show (bif Nat.beq av 6 then _ else bif Nat.beq (rx_tk av) 2 && Nat.ble 2 (rx_pl av) then (match rx_hg hp (Nat.sub (rx_pl av) 2) with
            | some (t, n, l) => bif Nat.beq (rx_tk (rx_kn [] iv)) 0 then (bif ok t && (Nat.blt (rx_pl (rx_kn [] iv)) n && Nat.blt n 100000) then (match rx_nth l (rx_pl (rx_kn [] iv)) with
                | some x => some [(Nat.add pc 1, lvc, x :: r, hp, [], 0, 0)]
                | none => none) else none)
              else _
            | none => none) else none) = _
          rw [h6, cond_false, ax_tag2 h1 h2, cond_true, show rx_hg hp (Nat.sub (rx_pl av) 2) = some (k, n, f) from p2]
          dsimp only
          rw [ax_kn, rx_beq.mpr (show rx_tk iv = 0 from i0), hok k c1, rx_blt.mpr (show rx_pl iv < n from j1), c3, rx_nth_eq, show f[rx_pl iv]? = some f[iv / 4] from hfv]
          rfl
theorem ax_t_ast {o : Nat} {ok : Nat → Nat → Bool} (hok : ∀ k t v vv, ax_aok w o k t E v = true → ax_typ E v = some t → ax_ev E.1 ρ v = some vv → ok k vv = true) (hX : ax_XD w X) (hE : ax_EO w X ρ E hp) (hT : ax_HT w hp) (hl : lv.map (ax_ev E.1 ρ) = lvc.map some) (hs : st.map (ax_ev E.1 ρ) = stc.map some)
    (h : ax_h_ast w md o pc lv st E = some out) : ∃ σ, rx_ast ok pc lvc stc hp [] 0 0 = some [σ] ∧ ax_Res w X md ρ E.1 hp out σ := by
  match st, h, hs with
  | [], h, _ => cases h
  | [_], h, _ => cases h
  | [_, _], h, _ => cases h
  | v :: i :: a :: st', h, hs =>
    unfold ax_h_ast at h
    dsimp only at h
    cases eg : ax_rg w E a with
    | none => rw [eg] at h; cases h
    | some g =>
      cases ei : ax_iv E i with
      | none => rw [eg, ei] at h; cases h
      | some q =>
        cases et : ax_typ E v with
        | none => rw [eg, ei, et] at h; cases h
        | some t =>
          rw [eg, ei, et] at h
          dsimp only at h
          rw [rx_nth_eq] at h
          obtain ⟨vv, r0, rfl, hv, hr0⟩ := ax_evs_cons hs
          obtain ⟨iv, r1, rfl, hi, hr1⟩ := ax_evs_cons hr0
          obtain ⟨av, r, rfl, ha, hr⟩ := ax_evs_cons hr1
          obtain ⟨h1, h2, h3, h4, k, n, l, f, p1, p2, p3, p4⟩ := ax_cell hE hT ha eg
          obtain ⟨i0, i1, i2, i3⟩ := ax_iv_ok hE ei hi
          rw [p1] at h
          dsimp only at h
          obtain ⟨hc, h⟩ := rx_cond h
          cases h
          obtain ⟨c1, hc⟩ := rx_and2.mp hc
          obtain ⟨c2, hc⟩ := rx_and2.mp hc
          obtain ⟨c3, hc⟩ := rx_and2.mp hc
          obtain ⟨c4, c5⟩ := rx_and2.mp hc
          obtain ⟨j1, j2, j3⟩ := ax_inr_ok c2 i1 i2 i3
          obtain ⟨b1, b2, b3⟩ := ax_wr_ok hX hE hT ha hi hv h1 h2 i0 h4 p1 p2 p3 j1 (ax_fits_ok c4 j2 j3 (ax_typ_ok hE et hv))
          refine ⟨(Nat.add pc 1, lvc, r, rx_hs hp (av / 4 - 2) (k, n, f.set (iv / 4) vv), [], 0, 0), ?_, ⟨_, List.mem_cons_self, ρ, _, fun _ _ => rfl, Nat.le_refl _, ⟨rfl, hl, hr, rfl, b1, b2⟩, b3.wk (ax_mem_one c5)⟩⟩
          unfold rx_ast
          show (bif Nat.beq (rx_tk av) 2 && Nat.ble 2 (rx_pl av) then (match rx_hg hp (Nat.sub (rx_pl av) 2) with
            | some (t, n, l) => bif Nat.beq (rx_tk (rx_kn [] iv)) 0 then (bif ok t vv && (Nat.blt (rx_pl (rx_kn [] iv)) n && Nat.blt n 100000) then some [(Nat.add pc 1, lvc, r, rx_hs hp (Nat.sub (rx_pl av) 2) (t, n, rx_upd l (rx_pl (rx_kn [] iv)) vv), [], 0, 0)] else none)
              else _
            | none => none) else none) = _
          rw [ax_tag2 h1 h2, cond_true, show rx_hg hp (Nat.sub (rx_pl av) 2) = some (k, n, f) from p2]
          dsimp only
          rw [ax_kn, rx_beq.mpr (show rx_tk iv = 0 from i0), hok k t v vv c1 et hv, rx_blt.mpr (show rx_pl iv < n from j1), c3, rx_upd_eq]
          rfl
theorem ax_t_alen (hE : ax_EO w X ρ E hp) (hT : ax_HT w hp) (hl : lv.map (ax_ev E.1 ρ) = lvc.map some) (hs : st.map (ax_ev E.1 ρ) = stc.map some)
    (h : ax_h_alen w pc lv st E = some out) : ∃ σ, rx_h_alen K N pc na nb lvc stc hp [] 0 0 = some [σ] ∧ ax_Res w X md ρ E.1 hp out σ := by
  match st, h, hs with
  | [], h, _ => cases h
  | a :: st', h, hs =>
    unfold ax_h_alen at h
    dsimp only at h
    cases eg : ax_rg w E a with
    | none => rw [eg] at h; cases h
    | some g =>
      rw [eg] at h
      dsimp only at h
      rw [rx_nth_eq] at h
      obtain ⟨av, r, rfl, ha, hr⟩ := ax_evs_cons hs
      obtain ⟨h1, h2, h3, h4, k, n, l, f, p1, p2, p3, p4⟩ := ax_cell hE hT ha eg
      rw [p1] at h
      dsimp only at h
      obtain ⟨hc, h⟩ := rx_cond h
      cases h
      obtain ⟨c1, c2⟩ := rx_and2.mp hc
      have e0 : rx_int n % 4 = 0 := by show 4 * n % 4 = 0; omega
      refine ⟨(Nat.add pc 1, lvc, rx_int n :: r, hp, [], 0, 0), ?_, ax_one hE hT hl (ax_evs_push (ax_ev_c (by omega)) hr) List.mem_cons_self⟩
      have h6 : Nat.beq av 6 = false := Bool.eq_false_iff.mpr (fun z => by have := rx_beq.mp z; omega)
      show (bif Nat.beq av 6 then _ else bif Nat.beq (rx_tk av) 2 && Nat.ble 2 (rx_pl av) then (match rx_hg hp (Nat.sub (rx_pl av) 2) with
        | some (t, n, _) => bif Nat.beq t 13 && Nat.blt n 100000 then some [(Nat.add pc 1, lvc, rx_int n :: r, hp, [], 0, 0)] else none
        | none => none) else none) = _
      rw [h6, cond_false, ax_tag2 h1 h2, cond_true, show rx_hg hp (Nat.sub (rx_pl av) 2) = some (k, n, f) from p2]
      dsimp only
      rw [c1, c2]
      rfl
theorem ax_within {v lo hi : Nat} (h0 : v % 4 = 0) (h1 : lo ≤ rx_bi (v / 4)) (h2 : rx_bi (v / 4) ≤ hi) : rx_within [] v lo hi = true := by
  unfold rx_within
  rw [ax_io h0]
  exact rx_and2.mpr ⟨rx_ble.mpr h1, rx_ble.mpr h2⟩
/-- ONE STEP: what the abstract interpreter says of an instruction, the interpreter does -/
theorem ax_step_ok (hX : ax_XD w X) {ins : Instr} {o i j : Nat} {tg : List Nat} (hnum : ax_num pc ins = some (o, i, j, tg)) (htg : o = 21 → tg ≠ []) (hE : ax_EO w X ρ E hp) (hT : ax_HT w hp) (hl : lv.map (ax_ev E.1 ρ) = lvc.map some) (hs : st.map (ax_ev E.1 ρ) = stc.map some)
    (h : ax_step w K md (rx_mL N) pc o i j na nb tg lv st E = some out) : ∃ σ, rx_sem ins K N pc na nb lvc stc hp [] 0 0 = some [σ] ∧ ax_Res w X md ρ E.1 hp out σ := by
  have okI : ∀ v x, ax_isK E 0 v = true → ax_ev E.1 ρ v = some x → rx_isI x = true := fun v x h1 h2 => rx_or2.mpr (Or.inl (rx_beq.mpr (ax_isK0 hE h1 h2).1))
  have okR : ∀ v x, ax_isR E v = true → ax_ev E.1 ρ v = some x → rx_isR x = true := fun v x h1 h2 => rx_and2.mpr ⟨rx_beq.mpr (ax_isRok hE h1 h2).1, rx_blt.mpr (ax_isRok hE h1 h2).2⟩
  have okJ : ∀ v x, ax_isK E 1 v = true → ax_ev E.1 ρ v = some x → rx_isJ x = true := fun v x h1 h2 => rx_beq.mpr (ax_isK1 hE h1 h2)
  cases ins with
  | iload_n k => cases hnum; exact ax_t_ld (K := K) (N := N) (na := na) (nb := nb) okI hE hT hl hs h
  | aload_n k => cases hnum; exact ax_t_ld (K := K) (N := N) (na := na) (nb := nb) okR hE hT hl hs h
  | lload_n k => cases hnum; exact ax_t_ld (K := K) (N := N) (na := na) (nb := nb) okJ hE hT hl hs h
  | iload k => cases hnum; exact ax_t_ld (K := K) (N := N) (na := na) (nb := nb) okI hE hT hl hs h
  | lload k => cases hnum; exact ax_t_ld (K := K) (N := N) (na := na) (nb := nb) okJ hE hT hl hs h
  | istore_n k => cases hnum; exact ax_t_sto (K := K) (N := N) (na := na) (nb := nb) okI hE hT hl h hs
  | astore_n k => cases hnum; exact ax_t_sto (K := K) (N := N) (na := na) (nb := nb) okR hE hT hl h hs
  | istore k => cases hnum; exact ax_t_sto (K := K) (N := N) (na := na) (nb := nb) okI hE hT hl h hs
  | lstore_n k => cases hnum; exact ax_t_stJ (K := K) (N := N) (na := na) (nb := nb) hE hT hl h hs
  | lstore k => cases hnum; exact ax_t_stJ (K := K) (N := N) (na := na) (nb := nb) hE hT hl h hs
  | iconst n => cases hnum; exact ax_t_psh (K := K) (N := N) (na := na) (nb := nb) hE hT hl hs h
  | bipush n => cases hnum; exact ax_t_psh (K := K) (N := N) (na := na) (nb := nb) hE hT hl hs h
  | sipush n => cases hnum; exact ax_t_psh (K := K) (N := N) (na := na) (nb := nb) hE hT hl hs h
  | ldc_w n => cases hnum; exact ax_t_psh (K := K) (N := N) (na := na) (nb := nb) hE hT hl hs h
  | ldc n => cases hnum; exact ax_t_ldc (K := K) (N := N) (na := na) (nb := nb) hE hT hl hs h
  | lconst n => cases hnum; exact ax_t_pshJ (K := K) (N := N) (na := na) (nb := nb) hE hT hl hs h
  | ldc2_w n => cases hnum; exact ax_t_pshJ (K := K) (N := N) (na := na) (nb := nb) hE hT hl hs h
  | iinc k n => cases hnum; exact ax_t_inc (K := K) (N := N) (na := na) (nb := nb) hE hT hl hs h
  | iadd => cases hnum; exact ax_t_bin (K := K) (N := N) (na := na) (nb := nb) (i := 0) (fun _ _ _ _ a b c => ax_ar (K := K) (N := N) (na := na) (nb := nb) a b c) hE hT hl h hs
  | isub => cases hnum; exact ax_t_bin (K := K) (N := N) (na := na) (nb := nb) (i := 1) (fun _ _ _ _ a b c => ax_ar (K := K) (N := N) (na := na) (nb := nb) a b c) hE hT hl h hs
  | imul => cases hnum; exact ax_t_bin (K := K) (N := N) (na := na) (nb := nb) (i := 2) (fun _ _ _ _ a b c => ax_ar (K := K) (N := N) (na := na) (nb := nb) a b c) hE hT hl h hs
  | iand => cases hnum; exact ax_t_bin (K := K) (N := N) (na := na) (nb := nb) (i := 3) (fun _ _ _ _ a b c => ax_ar (K := K) (N := N) (na := na) (nb := nb) a b c) hE hT hl h hs
  | ior => cases hnum; exact ax_t_bin (K := K) (N := N) (na := na) (nb := nb) (i := 4) (fun _ _ _ _ a b c => ax_ark (K := K) (N := N) (na := na) (nb := nb) a b c) hE hT hl h hs
  | ixor => cases hnum; exact ax_t_bin (K := K) (N := N) (na := na) (nb := nb) (i := 5) (fun _ _ _ _ a b c => ax_ark (K := K) (N := N) (na := na) (nb := nb) a b c) hE hT hl h hs
  | ishl => cases hnum; exact ax_t_bin (K := K) (N := N) (na := na) (nb := nb) (i := 6) (fun _ _ _ _ a b c => ax_ar (K := K) (N := N) (na := na) (nb := nb) a b c) hE hT hl h hs
  | ishr => cases hnum; exact ax_t_bin (K := K) (N := N) (na := na) (nb := nb) (i := 7) (fun _ _ _ _ a b c => ax_ark (K := K) (N := N) (na := na) (nb := nb) a b c) hE hT hl h hs
  | iushr => cases hnum; exact ax_t_bin (K := K) (N := N) (na := na) (nb := nb) (i := 8) (fun _ _ _ _ a b c => ax_ar (K := K) (N := N) (na := na) (nb := nb) a b c) hE hT hl h hs
  | idiv => cases hnum; exact ax_t_bin (K := K) (N := N) (na := na) (nb := nb) (i := 9) (fun _ _ _ _ a b c => ax_ark (K := K) (N := N) (na := na) (nb := nb) a b c) hE hT hl h hs
  | irem => cases hnum; exact ax_t_bin (K := K) (N := N) (na := na) (nb := nb) (i := 10) (fun _ _ _ _ a b c => ax_ark (K := K) (N := N) (na := na) (nb := nb) a b c) hE hT hl h hs
  | ineg => cases hnum; exact ax_t_ineg (K := K) (N := N) (na := na) (nb := nb) hE hT hl h hs
  | i2b => cases hnum; exact ax_t_i2b (K := K) (N := N) (na := na) (nb := nb) hE hT hl h hs
  | ladd => cases hnum; exact ax_t_arJ (j := 0) (by decide) (K := K) (N := N) (na := na) (nb := nb) hE hT hl h hs
  | lsub => cases hnum; exact ax_t_arJ (j := 1) (by decide) (K := K) (N := N) (na := na) (nb := nb) hE hT hl h hs
  | lmul => cases hnum; exact ax_t_arJ (j := 2) (by decide) (K := K) (N := N) (na := na) (nb := nb) hE hT hl h hs
  | land => cases hnum; exact ax_t_arJ (j := 3) (by decide) (K := K) (N := N) (na := na) (nb := nb) hE hT hl h hs
  | lor => cases hnum; exact ax_t_arJ (j := 4) (by decide) (K := K) (N := N) (na := na) (nb := nb) hE hT hl h hs
  | lxor => cases hnum; exact ax_t_arJ (j := 5) (by decide) (K := K) (N := N) (na := na) (nb := nb) hE hT hl h hs
  | lshl => cases hnum; exact ax_t_shJ (K := K) (N := N) (na := na) (nb := nb) hE hT hl h hs
  | lshr => cases hnum; exact ax_t_shrJ (K := K) (N := N) (na := na) (nb := nb) hE hT hl h hs
  | lcmp => cases hnum; exact ax_t_lcmp (K := K) (N := N) (na := na) (nb := nb) hE hT hl h hs
  | dup => cases hnum; exact ax_t_dup (K := K) (N := N) (na := na) (nb := nb) hE hT hl h hs
  | pop => cases hnum; exact ax_t_pop (K := K) (N := N) (na := na) (nb := nb) hE hT hl h hs
  | dup2 => cases hnum; exact ax_t_dup2 (K := K) (N := N) (na := na) (nb := nb) hE hT hl h hs
  | goto off => cases hnum; exact ax_t_goto (pc := pc) (K := K) (N := N) (na := na) (nb := nb) hE hT hl hs h
  | ifCond k off => cases hnum; exact ax_t_if (K := K) (N := N) (na := na) (nb := nb) hE hT hl h hs
  | if_icmp k off => cases hnum; exact ax_t_icmp (K := K) (N := N) (na := na) (nb := nb) hE hT hl h hs
  | tableswitch d lo hi offs =>
    have h21 : o = 21 := by
      obtain ⟨-, h2⟩ := rx_cond hnum
      cases h2
      rfl
    have h0 : j = 0 := by
      obtain ⟨-, h2⟩ := rx_cond hnum
      cases h2
      rfl
    subst h21
    subst h0
    exact ax_t_tsw (K := K) (N := N) (na := na) (nb := nb) hnum hE hT hl h (htg rfl) hs
  | getfield k => cases hnum; exact ax_t_gf (K := K) (N := N) (na := na) (nb := nb) hE hT hl hs h
  | putfield k => cases hnum; exact ax_t_pf (K := K) (N := N) (na := na) (nb := nb) hX hE hT hl hs h
  | arraylength => cases hnum; exact ax_t_alen (K := K) (N := N) (na := na) (nb := nb) hE hT hl hs h
  | iaload => cases hnum; exact ax_t_ald (K := K) (N := N) (na := na) (nb := nb) (o := 13) (fun k hk => rx_beq.mpr (rx_beq.mp hk).symm) hE hT hl hs h
  | baload => cases hnum; exact ax_t_ald (K := K) (N := N) (na := na) (nb := nb) (o := 12) (fun k hk => hk) hE hT hl hs h
  | laload => cases hnum; exact ax_t_ald (K := K) (N := N) (na := na) (nb := nb) (o := 14) (fun k hk => rx_beq.mpr (rx_beq.mp hk).symm) hE hT hl hs h
  | aaload => cases hnum; exact ax_t_ald (K := K) (N := N) (na := na) (nb := nb) (o := 16) (fun k hk => rx_beq.mpr (rx_beq.mp hk).symm) hE hT hl hs h
  | iastore =>
    cases hnum
    refine ax_t_ast (o := 13) (fun k t v vv hk ht hv => ?_) hX hE hT hl hs h
    obtain ⟨k1, k2⟩ := rx_and2.mp hk
    refine rx_and2.mpr ⟨k1, ?_⟩
    have k2 := rx_beq.mp k2
    rcases ax_typ_ok hE ht hv with ⟨-, q, -⟩ | ⟨q, -⟩ | ⟨q, -⟩ | ⟨q, -⟩
    · exact rx_or2.mpr (Or.inl (rx_beq.mpr q))
    · omega
    · omega
    · omega
  | bastore =>
    cases hnum
    refine ax_t_ast (o := 12) (fun k t v vv hk ht hv => ?_) hX hE hT hl hs h
    obtain ⟨k0, hk⟩ := rx_and2.mp hk
    have k0 := rx_beq.mp k0
    rcases ax_typ_ok hE ht hv with ⟨-, q1, q2, q3, q4⟩ | ⟨q, -⟩ | ⟨q, -⟩ | ⟨q, -⟩
    · rcases rx_or2.mp hk with hk | hk
      · obtain ⟨k1, hk⟩ := rx_and2.mp hk
        obtain ⟨k2, k3⟩ := rx_and2.mp hk
        exact rx_or2.mpr (Or.inl (rx_and2.mpr ⟨k1, ax_within q1 (Nat.le_trans (rx_ble.mp k2) q3) (Nat.le_trans q4 (rx_ble.mp k3))⟩))
      · obtain ⟨k1, hk⟩ := rx_and2.mp hk
        obtain ⟨k2, k3⟩ := rx_and2.mp hk
        exact rx_or2.mpr (Or.inr (rx_and2.mpr ⟨k1, ax_bit_ok q1 q2 (Nat.le_trans (rx_ble.mp k2) q3) (Nat.le_trans q4 (rx_ble.mp k3))⟩))
    · omega
    · omega
    · omega
  | lastore =>
    cases hnum
    refine ax_t_ast (o := 14) (fun k t v vv hk ht hv => ?_) hX hE hT hl hs h
    obtain ⟨k1, k2⟩ := rx_and2.mp hk
    refine rx_and2.mpr ⟨k1, ?_⟩
    have k2 := rx_beq.mp k2
    rcases ax_typ_ok hE ht hv with ⟨q, -⟩ | ⟨-, q⟩ | ⟨q, -⟩ | ⟨q, -⟩
    · omega
    · exact rx_beq.mpr q
    · omega
    · omega
  | aastore =>
    cases hnum
    refine ax_t_ast (o := 16) (fun k t v vv hk ht hv => ?_) hX hE hT hl hs h
    replace hk : (Nat.beq k 16 && (match ax_rg w E v with
      | some g => (match rx_nth w.2.1 g with
        | some z => Nat.beq z.1 7
        | none => false)
      | none => false)) = true := hk
    obtain ⟨k1, hk⟩ := rx_and2.mp hk
    refine rx_and2.mpr ⟨k1, ?_⟩
    cases eg : ax_rg w E v with
    | none => rw [eg] at hk; cases hk
    | some g =>
      rw [eg] at hk
      dsimp only at hk
      obtain ⟨h1, h2, h3, h4, k', n, l, f, p1, p2, p3, p4⟩ := ax_cell hE hT hv eg
      rw [rx_nth_eq, p1] at hk
      unfold rx_obj
      rw [show rx_hg hp (Nat.sub (rx_pl vv) 2) = some (k', n, f) from p2]
      exact rx_and2.mpr ⟨rx_beq.mpr h1, rx_and2.mpr ⟨rx_ble.mpr h2, hk⟩⟩
  | _ => cases hnum
end AXV
end
section
/-! Templates: values and what is known of them; contracts -/
abbrev ax_T : Type := List Nat × ax_E
/-- a contract: how it begins (arguments), what may be written, how it ends (the answer) -/
abbrev ax_C : Type := ax_T × List (Nat × Nat) × List ax_T
noncomputable def ax_lk (m : List (Nat × Nat)) (k : Nat) : Option Nat := List.rec (motive := fun _ => Option Nat) none (fun x _ ih => bif Nat.beq x.1 k then some x.2 else ih) m
/-- a template's value stands for a value; its first f symbols stand for themselves -/
noncomputable def ax_uni (f : Nat) (m : List (Nat × Nat)) (t v : Nat) : Option (List (Nat × Nat)) :=
  bif Nat.beq (rx_tk t) 3 && !(Nat.blt (rx_pl t) f) then (match ax_lk m (rx_pl t) with
    | some u => bif Nat.beq u v then some m else none
    | none => some ((rx_pl t, v) :: m))
  else bif Nat.beq t v then some m else none
noncomputable def ax_unis (f : Nat) (ts : List Nat) : List Nat → List (Nat × Nat) → Option (List (Nat × Nat)) := List.rec (motive := fun _ => List Nat → List (Nat × Nat) → Option (List (Nat × Nat))) (fun vs m => match vs with
  | [] => some m
  | _ :: _ => none) (fun t _ ih vs m => match vs with
  | [] => none
  | v :: vs' => (match ax_uni f m t v with
    | some m1 => ih vs' m1
    | none => none)) ts
noncomputable def ax_sb (f : Nat) (m : List (Nat × Nat)) (t : Nat) : Option Nat := bif Nat.beq (rx_tk t) 3 && !(Nat.blt (rx_pl t) f) then ax_lk m (rx_pl t) else some t
noncomputable def ax_unif (f : Nat) (fs : List (Nat × Nat × Nat)) (ts : List (Nat × Nat × Nat)) : List (Nat × Nat) → Option (List (Nat × Nat)) := List.rec (motive := fun _ => List (Nat × Nat) → Option (List (Nat × Nat))) (fun m => some m) (fun t _ ih m => match ax_sb f m t.1, ax_sb f m t.2.1 with
  | some a, some i => (match ax_get fs a i with
    | some v => (match ax_uni f m t.2.2 v with
      | some m1 => ih m1
      | none => none)
    | none => none)
  | _, _ => none) ts
/-- a named fact of a template is one of those there -/
noncomputable def ax_unx1 (f : Nat) (m : List (Nat × Nat)) (t : ax_N) (xf : List ax_N) : Option (List (Nat × Nat)) := List.rec (motive := fun _ => Option (List (Nat × Nat))) none (fun y _ ih => bif Nat.beq y.1 t.1 then (match ax_unis f t.2 y.2 m with
  | some m1 => some m1
  | none => ih) else ih) xf
noncomputable def ax_unx (f : Nat) (xf : List ax_N) (ts : List ax_N) : List (Nat × Nat) → Option (List (Nat × Nat)) := List.rec (motive := fun _ => List (Nat × Nat) → Option (List (Nat × Nat))) (fun m => some m) (fun t _ ih m => match ax_unx1 f m t xf with
  | some m1 => ih m1
  | none => none) ts
noncomputable def ax_tyck (w : ax_W) (E : ax_E) (f : Nat) (m : List (Nat × Nat)) (tl : List ax_Y) : Nat → Bool := List.rec (motive := fun _ => Nat → Bool) (fun k => Nat.beq k 0) (fun t _ ih k => Nat.blt 0 k && ((match (bif Nat.blt (Nat.pred k) f then some (ax_sym (Nat.pred k)) else ax_lk m (Nat.pred k)) with
  | some v => (match ax_typ E v with
    | some s => ax_sub w s t
    | none => false)
  | none => false) && ih (Nat.pred k))) tl
noncomputable def ax_nil {α : Type} (l : List α) : Bool := match l with
  | [] => true
  | _ => false
/-- all its symbols are there -/
noncomputable def ax_sc (n v : Nat) : Bool := !(Nat.beq (rx_tk v) 3) || Nat.blt (rx_pl v) n
noncomputable def ax_scs (T : ax_T) : Bool := T.1.all (ax_sc (ax_n T.2)) && ((ax_fs T.2).all (fun x => ax_sc (ax_n T.2) x.1 && (ax_sc (ax_n T.2) x.2.1 && ax_sc (ax_n T.2) x.2.2)) && (ax_xf T.2).all (fun x => x.2.all (ax_sc (ax_n T.2))))
/-- all facts: the sums and the cells too -/
noncomputable def ax_xall (E : ax_E) : List ax_N := ax_xf E ++ ((ax_df E).map (fun d => (1015, [d.1, d.2.1, d.2.2, 0])) ++ (ax_fs E).map (fun d => (1200, [d.1, d.2.1, d.2.2])))
/-- named facts first, as they are told; then the cells -/
noncomputable def ax_mt (w : ax_W) (E : ax_E) (f : Nat) (T : ax_T) (vs : List Nat) : Option (List (Nat × Nat)) := match ax_unis f T.1 vs [] with
  | some m => (match ax_unx f (ax_xall E) (ax_xf T.2) m with
    | some m1 => ax_unif f (ax_fs E) (ax_fs T.2) m1
    | none => none)
  | none => none
noncomputable def ax_match (w : ax_W) (E : ax_E) (f : Nat) (T : ax_T) (vs : List Nat) : Option (List (Nat × Nat)) := match ax_mt w E f T vs with
  | some m2 => bif Nat.beq (rx_len (ax_ty T.2)) (ax_n T.2) && (Nat.ble f (ax_n T.2) && (ax_tyck w E f m2 (ax_ty T.2) (ax_n T.2) && (ax_nil (ax_df T.2) && ax_scs T))) then some m2 else none
  | none => none
-- what they stand for
/-- what a template's value is, by a map -/
noncomputable def ax_tv (f : Nat) (m : List (Nat × Nat)) (t v : Nat) : Prop := (t % 4 = 3 ∧ f ≤ t / 4 ∧ ax_lk m (t / 4) = some v) ∨ (¬ (t % 4 = 3 ∧ f ≤ t / 4) ∧ t = v)
noncomputable def ax_le (m m' : List (Nat × Nat)) : Prop := ∀ k u, ax_lk m k = some u → ax_lk m' k = some u
theorem ax_le.rf {m : List (Nat × Nat)} : ax_le m m := fun _ _ h => h
theorem ax_le.tr {a b c : List (Nat × Nat)} (h : ax_le a b) (k : ax_le b c) : ax_le a c := fun i u z => k i u (h i u z)
theorem ax_tv.le {f : Nat} {m m' : List (Nat × Nat)} {t v : Nat} (h : ax_tv f m t v) (hl : ax_le m m') : ax_tv f m' t v := by
  rcases h with ⟨h1, h2, h3⟩ | h
  · exact Or.inl ⟨h1, h2, hl _ _ h3⟩
  · exact Or.inr h
theorem ax_ub {f t : Nat} : (Nat.beq (rx_tk t) 3 && !(Nat.blt (rx_pl t) f)) = true ↔ (t % 4 = 3 ∧ f ≤ t / 4) := by
  constructor
  · intro h
    obtain ⟨h1, h2⟩ := rx_and2.mp h
    refine ⟨rx_beq.mp h1, ?_⟩
    cases hb : Nat.blt (rx_pl t) f with
    | true => rw [hb] at h2; cases h2
    | false => exact Nat.not_lt.mp (fun z => by rw [rx_blt.mpr (show rx_pl t < f from z)] at hb; cases hb)
  · rintro ⟨h1, h2⟩
    refine rx_and2.mpr ⟨rx_beq.mpr h1, ?_⟩
    rw [show Nat.blt (rx_pl t) f = false from Bool.eq_false_iff.mpr (fun z => by have z : t / 4 < f := rx_blt.mp z; omega)]
    rfl
theorem ax_uni_ok {f : Nat} {m m1 : List (Nat × Nat)} {t v : Nat} (h : ax_uni f m t v = some m1) : ax_le m m1 ∧ ax_tv f m1 t v := by
  unfold ax_uni at h
  rcases ax_condY h with ⟨hc, h⟩ | ⟨hc, h⟩
  · obtain ⟨c1, c2⟩ := ax_ub.mp hc
    cases e : ax_lk m (rx_pl t) with
    | some u =>
      rw [e] at h
      obtain ⟨hb, h⟩ := rx_cond h
      cases h
      have hb := rx_beq.mp hb
      subst hb
      exact ⟨ax_le.rf, Or.inl ⟨c1, c2, e⟩⟩
    | none =>
      rw [e] at h
      cases h
      refine ⟨fun k u hk => ?_, Or.inl ⟨c1, c2, ?_⟩⟩
      · show (bif Nat.beq (rx_pl t) k then some v else ax_lk m k) = some u
        rw [show Nat.beq (rx_pl t) k = false from Bool.eq_false_iff.mpr (fun z => by rw [← rx_beq.mp z, e] at hk; cases hk)]
        exact hk
      · show (bif Nat.beq (rx_pl t) (t / 4) then some v else ax_lk m (t / 4)) = some v
        rw [show Nat.beq (rx_pl t) (t / 4) = true from rx_beq.mpr rfl]
        rfl
  · obtain ⟨hb, h⟩ := rx_cond h
    cases h
    exact ⟨ax_le.rf, Or.inr ⟨(fun z => by rw [ax_ub.mpr z] at hc; cases hc), rx_beq.mp hb⟩⟩
theorem ax_unis_ok {f : Nat} : ∀ {ts vs : List Nat} {m m1 : List (Nat × Nat)}, ax_unis f ts vs m = some m1 → ax_le m m1 ∧ ts.length = vs.length ∧ ∀ i t v : Nat, ts[i]? = some t → vs[i]? = some v → ax_tv f m1 t v
  | [], [], m, m1, h => by
    cases h
    exact ⟨ax_le.rf, rfl, fun i t v h => by cases h⟩
  | [], _ :: _, _, _, h => by cases h
  | _ :: _, [], _, _, h => by cases h
  | t :: ts, v :: vs, m, m1, h => by
    replace h : (match ax_uni f m t v with
      | some m1 => ax_unis f ts vs m1
      | none => none) = some m1 := h
    cases e : ax_uni f m t v with
    | none => rw [e] at h; cases h
    | some m2 =>
      rw [e] at h
      obtain ⟨a1, a2⟩ := ax_uni_ok e
      obtain ⟨b1, b2, b3⟩ := ax_unis_ok h
      refine ⟨a1.tr b1, by simp [b2], fun i t' v' h1 h2 => ?_⟩
      cases i with
      | zero => cases h1; cases h2; exact a2.le b1
      | succ i => exact b3 i t' v' (by simpa using h1) (by simpa using h2)
theorem ax_sb_ok {f : Nat} {m : List (Nat × Nat)} {t v : Nat} (h : ax_sb f m t = some v) : ax_tv f m t v := by
  unfold ax_sb at h
  rcases ax_condY h with ⟨hc, h⟩ | ⟨hc, h⟩
  · obtain ⟨c1, c2⟩ := ax_ub.mp hc
    exact Or.inl ⟨c1, c2, h⟩
  · cases h
    exact Or.inr ⟨(fun z => by rw [ax_ub.mpr z] at hc; cases hc), rfl⟩
theorem ax_unif_ok {f : Nat} {fs : List (Nat × Nat × Nat)} : ∀ {ts : List (Nat × Nat × Nat)} {m m1 : List (Nat × Nat)}, ax_unif f fs ts m = some m1 → ax_le m m1 ∧ ∀ x ∈ ts, ∃ a i v, (a, i, v) ∈ fs ∧ ax_tv f m1 x.1 a ∧ ax_tv f m1 x.2.1 i ∧ ax_tv f m1 x.2.2 v
  | [], m, m1, h => by
    cases h
    exact ⟨ax_le.rf, fun x hx => by cases hx⟩
  | t :: ts, m, m1, h => by
    replace h : (match ax_sb f m t.1, ax_sb f m t.2.1 with
      | some a, some i => (match ax_get fs a i with
        | some v => (match ax_uni f m t.2.2 v with
          | some m1 => ax_unif f fs ts m1
          | none => none)
        | none => none)
      | _, _ => none) = some m1 := h
    cases e1 : ax_sb f m t.1 with
    | none => rw [e1] at h; cases h
    | some a =>
      cases e2 : ax_sb f m t.2.1 with
      | none => rw [e1, e2] at h; cases h
      | some i =>
        rw [e1, e2] at h
        dsimp only at h
        cases e3 : ax_get fs a i with
        | none => rw [e3] at h; cases h
        | some v =>
          rw [e3] at h
          dsimp only at h
          cases e4 : ax_uni f m t.2.2 v with
          | none => rw [e4] at h; cases h
          | some m2 =>
            rw [e4] at h
            dsimp only at h
            obtain ⟨a1, a2⟩ := ax_uni_ok e4
            obtain ⟨b1, b2⟩ := ax_unif_ok h
            refine ⟨a1.tr b1, fun x hx => ?_⟩
            rcases List.mem_cons.mp hx with rfl | hx
            · exact ⟨a, i, v, ax_get_ok e3, (ax_sb_ok e1).le (a1.tr b1), (ax_sb_ok e2).le (a1.tr b1), a2.le b1⟩
            · exact b2 x hx
theorem ax_unx1_ok {f : Nat} {m m1 : List (Nat × Nat)} {t : ax_N} : ∀ {xf : List ax_N}, ax_unx1 f m t xf = some m1 → ∃ y ∈ xf, y.1 = t.1 ∧ ax_unis f t.2 y.2 m = some m1
  | [], h => by cases h
  | y :: xf, h => by
    replace h : (bif Nat.beq y.1 t.1 then (match ax_unis f t.2 y.2 m with
      | some m1 => some m1
      | none => ax_unx1 f m t xf) else ax_unx1 f m t xf) = some m1 := h
    rcases ax_condY h with ⟨h0, h⟩ | ⟨-, h⟩
    · cases e : ax_unis f t.2 y.2 m with
      | some m2 =>
        rw [e] at h
        cases h
        exact ⟨y, List.mem_cons_self, rx_beq.mp h0, e⟩
      | none =>
        rw [e] at h
        obtain ⟨z, hz, hh⟩ := ax_unx1_ok h
        exact ⟨z, List.mem_cons_of_mem _ hz, hh⟩
    · obtain ⟨z, hz, hh⟩ := ax_unx1_ok h
      exact ⟨z, List.mem_cons_of_mem _ hz, hh⟩
theorem ax_unx_ok {f : Nat} {xf : List ax_N} : ∀ {ts : List ax_N} {m m1 : List (Nat × Nat)}, ax_unx f xf ts m = some m1 → ax_le m m1 ∧ ∀ x ∈ ts, ∃ y ∈ xf, y.1 = x.1 ∧ x.2.length = y.2.length ∧ ∀ i t v : Nat, x.2[i]? = some t → y.2[i]? = some v → ax_tv f m1 t v
  | [], m, m1, h => by
    cases h
    exact ⟨ax_le.rf, fun x hx => by cases hx⟩
  | t :: ts, m, m1, h => by
    replace h : (match ax_unx1 f m t xf with
      | some m1 => ax_unx f xf ts m1
      | none => none) = some m1 := h
    cases e : ax_unx1 f m t xf with
    | none => rw [e] at h; cases h
    | some m2 =>
      rw [e] at h
      obtain ⟨y, hy, e1, e2⟩ := ax_unx1_ok e
      obtain ⟨a1, a2, a3⟩ := ax_unis_ok e2
      obtain ⟨b1, b2⟩ := ax_unx_ok h
      refine ⟨a1.tr b1, fun x hx => ?_⟩
      rcases List.mem_cons.mp hx with rfl | hx
      · exact ⟨y, hy, e1, a2, fun i t v h1 h2 => (a3 i t v h1 h2).le b1⟩
      · exact b2 x hx
theorem ax_mt_ok {w : ax_W} {E : ax_E} {f : Nat} {T : ax_T} {vs : List Nat} {m : List (Nat × Nat)} (h : ax_mt w E f T vs = some m) : ∃ m0 m1, ax_unis f T.1 vs [] = some m0 ∧ ax_unx f (ax_xall E) (ax_xf T.2) m0 = some m1 ∧ ax_unif f (ax_fs E) (ax_fs T.2) m1 = some m := by
  unfold ax_mt at h
  cases e1 : ax_unis f T.1 vs [] with
  | none => rw [e1] at h; cases h
  | some m0 =>
    rw [e1] at h
    dsimp only at h
    cases e2 : ax_unx f (ax_xall E) (ax_xf T.2) m0 with
    | none => rw [e2] at h; cases h
    | some m1 =>
      rw [e2] at h
      exact ⟨m0, m1, rfl, e2, h⟩
/-- the valuation of a template -/
noncomputable def ax_rm (f : Nat) (m : List (Nat × Nat)) (n : Nat) (ρ : Nat → Nat) (k : Nat) : Nat := if k < f then ρ k else (match ax_lk m k with
  | some v => (ax_ev n ρ v).getD 0
  | none => 0)
theorem ax_tv_ev {f : Nat} {m : List (Nat × Nat)} {n N : Nat} {ρ : Nat → Nat} {t v x : Nat} (h : ax_tv f m t v) (hx : ax_ev n ρ v = some x) (hN : ∀ k, t % 4 = 3 → k = t / 4 → k < N) : ax_ev N (ax_rm f m n ρ) t = some x := by
  unfold ax_ev
  rcases h with ⟨h1, h2, h3⟩ | ⟨h1, rfl⟩
  · rw [if_pos h1, if_pos (hN _ h1 rfl)]
    unfold ax_rm
    rw [if_neg (by omega), h3]
    show some ((ax_ev n ρ v).getD 0) = some x
    rw [hx]
    rfl
  · unfold ax_ev at hx
    by_cases h3 : t % 4 = 3
    · rw [if_pos h3] at hx ⊢
      by_cases hl : t / 4 < n
      · rw [if_pos hl] at hx
        rw [if_pos (hN _ h3 rfl)]
        unfold ax_rm
        rw [if_pos (by omega)]
        exact hx
      · rw [if_neg hl] at hx; cases hx
    · rw [if_neg h3] at hx ⊢; exact hx
end
section
section AXM
variable {w : ax_W} {X : ax_X} {ρ : Nat → Nat} {E : ax_E} {hp : rx_H}
theorem ax_tyck_ok {f : Nat} {m : List (Nat × Nat)} (hE : ax_EO w X ρ E hp) (hm : ∀ k v, ax_lk m k = some v → ∃ x, ax_ev E.1 ρ v = some x) : ∀ {tl : List ax_Y} {n : Nat}, ax_tyck w E f m tl n = true → tl.length = n ∧ ∀ k t, k < n → tl[n - 1 - k]? = some t → ax_ok w t (ax_rm f m E.1 ρ k)
  | [], n, h => by
    have h : n = 0 := rx_beq.mp h
    subst h
    exact ⟨rfl, fun k t hk => absurd hk (Nat.not_lt_zero _)⟩
  | t :: tl, n, h => by
    replace h : (Nat.blt 0 n && ((match (bif Nat.blt (Nat.pred n) f then some (ax_sym (Nat.pred n)) else ax_lk m (Nat.pred n)) with
      | some v => (match ax_typ E v with
        | some s => ax_sub w s t
        | none => false)
      | none => false) && ax_tyck w E f m tl (Nat.pred n))) = true := h
    obtain ⟨h0, h⟩ := rx_and2.mp h
    obtain ⟨h1, h2⟩ := rx_and2.mp h
    obtain ⟨b1, b2⟩ := ax_tyck_ok hE hm h2
    cases n with
    | zero => cases h0
    | succ n =>
      have b1 : tl.length = n := b1
      refine ⟨by rw [List.length_cons, b1], fun k s hk hs => ?_⟩
      by_cases e : k = n
      · subst e
        rw [show k + 1 - 1 - k = 0 by omega] at hs
        cases hs
        replace h1 : (match (bif Nat.blt k f then some (ax_sym k) else ax_lk m k) with
          | some v => (match ax_typ E v with
            | some s => ax_sub w s t
            | none => false)
          | none => false) = true := h1
        unfold ax_rm
        by_cases hf : k < f
        · rw [if_pos hf]
          rw [rx_blt.mpr hf, cond_true] at h1
          dsimp only at h1
          cases et : ax_typ E (ax_sym k) with
          | none => rw [et] at h1; cases h1
          | some s =>
            rw [et] at h1
            have e1 : ax_sym k % 4 = 3 := by show (4 * k + 3) % 4 = 3; omega
            have e2 : ax_sym k / 4 = k := by show (4 * k + 3) / 4 = k; omega
            have hkn : k < E.1 := by
              unfold ax_typ at et
              rw [rx_beq.mpr (show rx_tk (ax_sym k) = 3 from e1), cond_true] at et
              obtain ⟨z, -⟩ := rx_cond et
              have z : ax_sym k / 4 < E.1 := rx_blt.mp z
              omega
            refine ax_sub_ty h1 (ax_typ_ok hE et ?_)
            unfold ax_ev
            rw [if_pos e1, e2, if_pos hkn]
        · rw [if_neg hf]
          rw [show Nat.blt k f = false from Bool.eq_false_iff.mpr (fun z => hf (rx_blt.mp z)), cond_false] at h1
          cases ev : ax_lk m k with
          | none => rw [ev] at h1; cases h1
          | some v =>
            rw [ev] at h1
            dsimp only at h1
            cases et : ax_typ E v with
            | none => rw [et] at h1; cases h1
            | some s =>
              rw [et] at h1
              obtain ⟨x, hx⟩ := hm k v ev
              show ax_ok w t ((ax_ev E.1 ρ v).getD 0)
              rw [hx]
              exact ax_sub_ty h1 (ax_typ_ok hE et hx)
      · rw [show n + 1 - 1 - k = (n - 1 - k) + 1 by omega, List.getElem?_cons_succ] at hs
        exact b2 k s (by omega) hs
/-- what is mapped to is there -/
noncomputable def ax_me (n : Nat) (ρ : Nat → Nat) (m : List (Nat × Nat)) : Prop := ∀ k v, ax_lk m k = some v → ∃ x, ax_ev n ρ v = some x
theorem ax_uni_me {n f t v : Nat} {m m1 : List (Nat × Nat)} (h : ax_uni f m t v = some m1) (hm : ax_me n ρ m) (hv : ∃ x, ax_ev n ρ v = some x) : ax_me n ρ m1 := by
  unfold ax_uni at h
  rcases ax_condY h with ⟨hc, h⟩ | ⟨hc, h⟩
  · cases e : ax_lk m (rx_pl t) with
    | some u =>
      rw [e] at h
      obtain ⟨hb, h⟩ := rx_cond h
      cases h
      exact hm
    | none =>
      rw [e] at h
      cases h
      intro k u hk
      replace hk : (bif Nat.beq (rx_pl t) k then some v else ax_lk m k) = some u := hk
      rcases ax_condY hk with ⟨-, hk⟩ | ⟨-, hk⟩
      · cases hk; exact hv
      · exact hm k u hk
  · obtain ⟨hb, h⟩ := rx_cond h
    cases h
    exact hm
theorem ax_unis_me {n f : Nat} : ∀ {ts vs : List Nat} {m m1 : List (Nat × Nat)}, ax_unis f ts vs m = some m1 → ax_me n ρ m → (∀ v ∈ vs, ∃ x, ax_ev n ρ v = some x) → ax_me n ρ m1
  | [], [], m, m1, h, hm, _ => by cases h; exact hm
  | [], _ :: _, _, _, h, _, _ => by cases h
  | _ :: _, [], _, _, h, _, _ => by cases h
  | t :: ts, v :: vs, m, m1, h, hm, hv => by
    replace h : (match ax_uni f m t v with
      | some m1 => ax_unis f ts vs m1
      | none => none) = some m1 := h
    cases e : ax_uni f m t v with
    | none => rw [e] at h; cases h
    | some m2 =>
      rw [e] at h
      exact ax_unis_me h (ax_uni_me e hm (hv v List.mem_cons_self)) (fun u hu => hv u (List.mem_cons_of_mem _ hu))
theorem ax_unif_me {n f : Nat} {fs : List (Nat × Nat × Nat)} (hfs : ∀ x ∈ fs, ∃ y, ax_ev n ρ x.2.2 = some y) : ∀ {ts : List (Nat × Nat × Nat)} {m m1 : List (Nat × Nat)}, ax_unif f fs ts m = some m1 → ax_me n ρ m → ax_me n ρ m1
  | [], m, m1, h, hm => by cases h; exact hm
  | t :: ts, m, m1, h, hm => by
    replace h : (match ax_sb f m t.1, ax_sb f m t.2.1 with
      | some a, some i => (match ax_get fs a i with
        | some v => (match ax_uni f m t.2.2 v with
          | some m1 => ax_unif f fs ts m1
          | none => none)
        | none => none)
      | _, _ => none) = some m1 := h
    cases e1 : ax_sb f m t.1 with
    | none => rw [e1] at h; cases h
    | some a =>
      cases e2 : ax_sb f m t.2.1 with
      | none => rw [e1, e2] at h; cases h
      | some i =>
        rw [e1, e2] at h
        dsimp only at h
        cases e3 : ax_get fs a i with
        | none => rw [e3] at h; cases h
        | some v =>
          rw [e3] at h
          dsimp only at h
          cases e4 : ax_uni f m t.2.2 v with
          | none => rw [e4] at h; cases h
          | some m2 =>
            rw [e4] at h
            exact ax_unif_me hfs h (ax_uni_me e4 hm (hfs _ (ax_get_ok e3)))
theorem ax_unx_me {n f : Nat} {xf : List ax_N} (hxf : ∀ x ∈ xf, ∀ v ∈ x.2, ∃ y, ax_ev n ρ v = some y) : ∀ {ts : List ax_N} {m m1 : List (Nat × Nat)}, ax_unx f xf ts m = some m1 → ax_me n ρ m → ax_me n ρ m1
  | [], m, m1, h, hm => by cases h; exact hm
  | t :: ts, m, m1, h, hm => by
    replace h : (match ax_unx1 f m t xf with
      | some m1 => ax_unx f xf ts m1
      | none => none) = some m1 := h
    cases e : ax_unx1 f m t xf with
    | none => rw [e] at h; cases h
    | some m2 =>
      rw [e] at h
      obtain ⟨y, hy, e1, e2⟩ := ax_unx1_ok e
      exact ax_unx_me hxf h (ax_unis_me e2 hm (hxf y hy))
theorem ax_NO_ev {n : Nat} {x : ax_N} (h : ax_NO X n ρ hp x) : ∀ v ∈ x.2, ∃ y, ax_ev n ρ v = some y := by
  obtain ⟨vs, h1, -⟩ := h
  intro v hv
  obtain ⟨i, hi⟩ := List.getElem?_of_mem hv
  obtain ⟨y, -, hy⟩ := ax_evs_nth h1 hi
  exact ⟨y, hy⟩
theorem ax_xall_ok (hE : ax_EO w X ρ E hp) : ∀ x ∈ ax_xall E, ax_NO X E.1 ρ hp x := by
  intro x hx
  rcases List.mem_append.mp hx with hx | hx
  · exact hE.2.2.2.2 x hx
  rcases List.mem_append.mp hx with hx | hx
  rotate_left
  · obtain ⟨d, hd, rfl⟩ := List.mem_map.mp hx
    obtain ⟨a, i, v, k, m, l, g1, g2, g3, g4, g5, g6, g7, g8⟩ := hE.2.2.1 d hd
    exact ⟨[a, i, v], ax_evs_push g1 (ax_evs_push g2 (ax_evs_push g3 rfl)), ax_XF_cc.mpr ⟨g4, g5, g6, k, m, l, g7, g8⟩⟩
  · obtain ⟨d, hd, rfl⟩ := List.mem_map.mp hx
    obtain ⟨a, b, c, g1, g2, g3, g4⟩ := hE.2.2.2.1 d hd
    refine ⟨[4 * a, 4 * b, 4 * c, 0], ax_evs_push g1 (ax_evs_push g2 (ax_evs_push g3 (ax_evs_push (ax_ev_c (by decide)) rfl))), ?_⟩
    exact (ax_XF_bi (o := 15) (by decide)).mpr ⟨rfl, a, b, c, rfl, rfl, rfl, g4⟩
theorem ax_sc_ok {n v : Nat} (h : ax_sc n v = true) : ∀ k, v % 4 = 3 → k = v / 4 → k < n := by
  intro k h3 hk
  subst hk
  unfold ax_sc at h
  rw [rx_beq.mpr (show rx_tk v = 3 from h3)] at h
  exact rx_blt.mp h
theorem ax_rm_lt {f n k : Nat} {m : List (Nat × Nat)} (h : k < f) : ax_rm f m n ρ k = ρ k := if_pos h
/-- A TEMPLATE THAT FITS: what it says holds, by the valuation that the map gives -/
theorem ax_match_ok (hE : ax_EO w X ρ E hp) {f : Nat} {T : ax_T} {vs xs : List Nat} {m : List (Nat × Nat)} (hvs : vs.map (ax_ev E.1 ρ) = xs.map some) (h : ax_match w E f T vs = some m) : T.1.map (ax_ev T.2.1 (ax_rm f m E.1 ρ)) = xs.map some ∧ ax_EO w X (ax_rm f m E.1 ρ) T.2 hp ∧ f ≤ T.2.1 := by
  unfold ax_match at h
  cases em : ax_mt w E f T vs with
  | none => rw [em] at h; cases h
  | some mm =>
      rw [em] at h
      dsimp only at h
      obtain ⟨hc, h⟩ := rx_cond h
      cases h
      obtain ⟨m0, m1, e1, e2, e3⟩ := ax_mt_ok em
      obtain ⟨c1, hc⟩ := rx_and2.mp hc
      obtain ⟨c2, hc⟩ := rx_and2.mp hc
      obtain ⟨c3, hc⟩ := rx_and2.mp hc
      obtain ⟨c4, hc⟩ := rx_and2.mp hc
      obtain ⟨s1, s2⟩ := rx_and2.mp hc
      obtain ⟨s2, s3⟩ := rx_and2.mp s2
      obtain ⟨-, a2, a3⟩ := ax_unis_ok e1
      obtain ⟨y1, y2⟩ := ax_unx_ok e2
      obtain ⟨b1, b2⟩ := ax_unif_ok e3
      have hev : ∀ v ∈ vs, ∃ x, ax_ev E.1 ρ v = some x := fun v hv => by
        obtain ⟨i, hi⟩ := List.getElem?_of_mem hv
        obtain ⟨x, -, hx⟩ := ax_evs_nth hvs hi
        exact ⟨x, hx⟩
      have me0 : ax_me E.1 ρ m0 := ax_unis_me e1 (fun k v hk => by cases hk) hev
      have me1 : ax_me E.1 ρ m1 := ax_unx_me (fun x hx => ax_NO_ev (ax_xall_ok hE x hx)) e2 me0
      have me3 : ax_me E.1 ρ m := ax_unif_me (fun x hx => by obtain ⟨a, i, v, k, mm, l, q1, q2, q3, -⟩ := hE.2.2.1 x hx; exact ⟨v, q3⟩) e3 me1
      obtain ⟨t1, t2⟩ := ax_tyck_ok hE me3 c3
      refine ⟨?_, ⟨t1, t2, ?_, ?_, ?_⟩, rx_ble.mp c2⟩
      · apply List.ext_getElem?
        intro i
        rw [List.getElem?_map, List.getElem?_map]
        cases et : T.1[i]? with
        | none =>
          have : xs[i]? = none := by
            rw [List.getElem?_eq_none_iff, ax_evs_len hvs, ← a2]
            exact List.getElem?_eq_none_iff.mp et
          rw [this]
          rfl
        | some t =>
          have hi : i < vs.length := by rw [← a2]; exact (List.getElem?_eq_some_iff.mp et).1
          obtain ⟨x, hx1, hx2⟩ := ax_evs_nth hvs (List.getElem?_eq_getElem hi)
          rw [hx1]
          have htv := (a3 i t _ et (List.getElem?_eq_getElem hi)).le (y1.tr b1)
          have hsc := List.all_eq_true.mp s1 t (List.mem_of_getElem? et)
          exact congrArg some (ax_tv_ev htv hx2 (ax_sc_ok hsc))
      · intro x hx
        obtain ⟨a, i, v, hm, q1, q2, q3⟩ := b2 x hx
        obtain ⟨a', i', v', k, mm, l, g1, g2, g3, g4⟩ := hE.2.2.1 _ hm
        have hsc := List.all_eq_true.mp s2 x hx
        obtain ⟨z1, hsc⟩ := rx_and2.mp hsc
        obtain ⟨z2, z3⟩ := rx_and2.mp hsc
        exact ⟨a', i', v', k, mm, l, ax_tv_ev q1 g1 (ax_sc_ok z1), ax_tv_ev q2 g2 (ax_sc_ok z2), ax_tv_ev q3 g3 (ax_sc_ok z3), g4⟩
      · intro d hd
        have hd : d ∈ ax_df T.2 := hd
        cases hz : ax_df T.2 with
        | nil => rw [hz] at hd; cases hd
        | cons _ _ => rw [hz] at c4; cases c4
      · intro x hx
        obtain ⟨y, hy, e4, e5, e6⟩ : ∃ y ∈ ax_xall E, y.1 = x.1 ∧ x.2.length = y.2.length ∧ ∀ i t v : Nat, x.2[i]? = some t → y.2[i]? = some v → ax_tv f m t v := by
          obtain ⟨y, hy, e4, e5, e6⟩ := y2 x hx
          exact ⟨y, hy, e4, e5, fun i t v h1 h2 => (e6 i t v h1 h2).le b1⟩
        obtain ⟨vs', g1, g2⟩ := ax_xall_ok hE y hy
        refine ⟨vs', ?_, by rw [← e4]; exact g2⟩
        have hsc := List.all_eq_true.mp s3 x hx
        apply List.ext_getElem?
        intro i
        rw [List.getElem?_map, List.getElem?_map]
        cases et : x.2[i]? with
        | none =>
          have : vs'[i]? = none := by
            rw [List.getElem?_eq_none_iff, ax_evs_len g1, ← e5]
            exact List.getElem?_eq_none_iff.mp et
          rw [this]
          rfl
        | some t =>
          have hi : i < y.2.length := by rw [← e5]; exact (List.getElem?_eq_some_iff.mp et).1
          obtain ⟨z, hx1, hx2⟩ := ax_evs_nth g1 (List.getElem?_eq_getElem hi)
          rw [hx1]
          have hsc' := List.all_eq_true.mp hsc t (List.mem_of_getElem? et)
          exact congrArg some (ax_tv_ev (e6 i t _ et (List.getElem?_eq_getElem hi)) hx2 (ax_sc_ok hsc'))
end AXM
end
section
noncomputable def ax_ps (n0 En : Nat) (m : List (Nat × Nat)) (t : Nat) : Option Nat := bif Nat.beq (rx_tk t) 3 then (bif Nat.blt (rx_pl t) n0 then ax_lk m (rx_pl t) else some (ax_sym (Nat.add En (Nat.sub (rx_pl t) n0)))) else some t
noncomputable def ax_psf (n0 En : Nat) (m : List (Nat × Nat)) (fs : List (Nat × Nat × Nat)) : Option (List (Nat × Nat × Nat)) := List.rec (motive := fun _ => Option (List (Nat × Nat × Nat))) (some []) (fun x _ ih => match ax_ps n0 En m x.1, ax_ps n0 En m x.2.1, ax_ps n0 En m x.2.2, ih with
  | some a, some i, some v, some r => some ((a, i, v) :: r)
  | _, _, _, _ => none) fs
noncomputable def ax_psl (n0 En : Nat) (m : List (Nat × Nat)) (l : List Nat) : Option (List Nat) := List.rec (motive := fun _ => Option (List Nat)) (some []) (fun x _ ih => match ax_ps n0 En m x, ih with
  | some a, some r => some (a :: r)
  | _, _ => none) l
noncomputable def ax_psx (n0 En : Nat) (m : List (Nat × Nat)) (xf : List ax_N) : Option (List ax_N) := List.rec (motive := fun _ => Option (List ax_N)) (some []) (fun x _ ih => match ax_psl n0 En m x.2, ih with
  | some a, some r => some ((x.1, a) :: r)
  | _, _ => none) xf
/-- what is still known behind a call that may write -/
noncomputable def ax_mkill (w : ax_W) (E : ax_E) (md : List (Nat × Nat)) : List (Nat × Nat × Nat) := (ax_fs E).filter (fun x => match ax_rg w E x.1 with
  | some g => !(md.any (fun y => Nat.beq y.1 g && (Nat.beq y.2 999 || (!(ax_cst x.2.1) || Nat.beq y.2 (rx_pl x.2.1)))))
  | none => false)
noncomputable def ax_post (w : ax_W) (E : ax_E) (m : List (Nat × Nat)) (n0 : Nat) (md : List (Nat × Nat)) (po : ax_T) : Option (Nat × ax_E) := match po.1 with
  | [r] => (match ax_ps n0 E.1 m r, ax_psf n0 E.1 m (ax_fs po.2) with
    | some rv, some fs => (match ax_psx n0 E.1 m (ax_xf po.2) with
      | some xs => bif Nat.ble n0 (ax_n po.2) && (Nat.beq (rx_len (ax_ty po.2)) (ax_n po.2) && ax_nil (ax_df po.2)) then some (rv, (Nat.add E.1 (Nat.sub (ax_n po.2) n0), List.take (Nat.sub (ax_n po.2) n0) (ax_ty po.2) ++ ax_ty E, fs ++ ax_mkill w E md, ax_df E, xs ++ ax_xkill w (ax_xf E) md)) else none
      | none => none)
    | _, _ => none)
  | _ => none
section AXP
variable {w : ax_W} {X : ax_X} {ρ ρ1 : Nat → Nat} {E : ax_E} {hp hp' : rx_H}
/-- the valuation behind a call -/
noncomputable def ax_rp (n0 En : Nat) (ρ ρ1 : Nat → Nat) (j : Nat) : Nat := if j < En then ρ j else ρ1 (n0 + (j - En))
theorem ax_rp_lt {n0 En j : Nat} (h : j < En) : ax_rp n0 En ρ ρ1 j = ρ j := if_pos h
theorem ax_ps_ok {n0 N : Nat} {m : List (Nat × Nat)} (hm : ax_me E.1 ρ m) (hρ : ∀ k, k < n0 → ρ1 k = ax_rm 0 m E.1 ρ k) {t u x : Nat} (h : ax_ps n0 E.1 m t = some u) (hx : ax_ev N ρ1 t = some x) : ax_ev (E.1 + (N - n0)) (ax_rp n0 E.1 ρ ρ1) u = some x := by
  unfold ax_ps at h
  unfold ax_ev at hx
  rcases ax_condY h with ⟨h3, h⟩ | ⟨h3, h⟩
  · have h3 : t % 4 = 3 := rx_beq.mp h3
    rw [if_pos h3] at hx
    by_cases hl : t / 4 < N
    · rw [if_pos hl] at hx
      cases hx
      rcases ax_condY h with ⟨hk, h⟩ | ⟨hk, h⟩
      · have hk : t / 4 < n0 := rx_blt.mp hk
        have h : ax_lk m (t / 4) = some u := h
        obtain ⟨y, hy⟩ := hm _ _ h
        have e : ρ1 (t / 4) = y := by
          rw [hρ _ hk]
          unfold ax_rm
          rw [if_neg (Nat.not_lt_zero _), h]
          show (ax_ev E.1 ρ u).getD 0 = y
          rw [hy]
          rfl
        rw [e]
        exact ax_ev_mono (Nat.le_add_right _ _) (fun k hk' => ax_rp_lt hk') hy
      · have hk : n0 ≤ t / 4 := Nat.not_lt.mp (fun z => by rw [rx_blt.mpr (show rx_pl t < n0 from z)] at hk; cases hk)
        cases h
        unfold ax_ev
        have e1 : ax_sym (Nat.add E.1 (Nat.sub (rx_pl t) n0)) % 4 = 3 := by show (4 * (E.1 + (t / 4 - n0)) + 3) % 4 = 3; omega
        have e2 : ax_sym (Nat.add E.1 (Nat.sub (rx_pl t) n0)) / 4 = E.1 + (t / 4 - n0) := by show (4 * (E.1 + (t / 4 - n0)) + 3) / 4 = _; omega
        rw [if_pos e1, e2, if_pos (by omega)]
        unfold ax_rp
        rw [if_neg (by omega), show n0 + (E.1 + (t / 4 - n0) - E.1) = t / 4 by omega]
    · rw [if_neg hl] at hx; cases hx
  · have h3 : t % 4 ≠ 3 := fun z => by rw [rx_beq.mpr (show rx_tk t = 3 from z)] at h3; cases h3
    rw [if_neg h3] at hx
    cases hx
    cases h
    exact ax_ev_c h3
theorem ax_psf_ok {n0 En : Nat} {m : List (Nat × Nat)} : ∀ {fs r : List (Nat × Nat × Nat)}, ax_psf n0 En m fs = some r → ∀ y ∈ r, ∃ x ∈ fs, ax_ps n0 En m x.1 = some y.1 ∧ ax_ps n0 En m x.2.1 = some y.2.1 ∧ ax_ps n0 En m x.2.2 = some y.2.2
  | [], r, h => by cases h; intro y hy; cases hy
  | x :: fs, r, h => by
    replace h : (match ax_ps n0 En m x.1, ax_ps n0 En m x.2.1, ax_ps n0 En m x.2.2, ax_psf n0 En m fs with
      | some a, some i, some v, some r => some ((a, i, v) :: r)
      | _, _, _, _ => none) = some r := h
    cases e1 : ax_ps n0 En m x.1 with
    | none => rw [e1] at h; cases h
    | some a =>
      cases e2 : ax_ps n0 En m x.2.1 with
      | none => rw [e1, e2] at h; cases h
      | some i =>
        cases e3 : ax_ps n0 En m x.2.2 with
        | none => rw [e1, e2, e3] at h; cases h
        | some v =>
          cases e4 : ax_psf n0 En m fs with
          | none => rw [e1, e2, e3, e4] at h; cases h
          | some r' =>
            rw [e1, e2, e3, e4] at h
            cases h
            intro y hy
            rcases List.mem_cons.mp hy with rfl | hy
            · exact ⟨x, List.mem_cons_self, e1, e2, e3⟩
            · obtain ⟨z, hz, q⟩ := ax_psf_ok e4 y hy
              exact ⟨z, List.mem_cons_of_mem _ hz, q⟩
theorem ax_psl_ok {n0 N : Nat} {m : List (Nat × Nat)} (hm : ax_me E.1 ρ m) (hρ : ∀ k, k < n0 → ρ1 k = ax_rm 0 m E.1 ρ k) : ∀ {l r xs : List Nat}, ax_psl n0 E.1 m l = some r → l.map (ax_ev N ρ1) = xs.map some → r.map (ax_ev (E.1 + (N - n0)) (ax_rp n0 E.1 ρ ρ1)) = xs.map some
  | [], r, xs, h, hx => by
    cases h
    exact hx
  | t :: l, r, xs, h, hx => by
    replace h : (match ax_ps n0 E.1 m t, ax_psl n0 E.1 m l with
      | some a, some r => some (a :: r)
      | _, _ => none) = some r := h
    cases e1 : ax_ps n0 E.1 m t with
    | none => rw [e1] at h; cases h
    | some a =>
      cases e2 : ax_psl n0 E.1 m l with
      | none => rw [e1, e2] at h; cases h
      | some r' =>
        rw [e1, e2] at h
        cases h
        obtain ⟨x, xs', e, hx1, hx2⟩ := ax_evs_cons hx
        subst e
        exact ax_evs_push (ax_ps_ok hm hρ e1 hx1) (ax_psl_ok hm hρ e2 hx2)
theorem ax_psx_ok {n0 N : Nat} {m : List (Nat × Nat)} (hm : ax_me E.1 ρ m) (hρ : ∀ k, k < n0 → ρ1 k = ax_rm 0 m E.1 ρ k) : ∀ {xf r : List ax_N}, ax_psx n0 E.1 m xf = some r → (∀ x ∈ xf, ax_NO X N ρ1 hp' x) → ∀ y ∈ r, ax_NO X (E.1 + (N - n0)) (ax_rp n0 E.1 ρ ρ1) hp' y
  | [], r, h, _ => by cases h; intro y hy; cases hy
  | x :: xf, r, h, hx => by
    replace h : (match ax_psl n0 E.1 m x.2, ax_psx n0 E.1 m xf with
      | some a, some r => some ((x.1, a) :: r)
      | _, _ => none) = some r := h
    cases e1 : ax_psl n0 E.1 m x.2 with
    | none => rw [e1] at h; cases h
    | some a =>
      cases e2 : ax_psx n0 E.1 m xf with
      | none => rw [e1, e2] at h; cases h
      | some r' =>
        rw [e1, e2] at h
        cases h
        intro y hy
        rcases List.mem_cons.mp hy with rfl | hy
        · obtain ⟨vs, g1, g2⟩ := hx x List.mem_cons_self
          exact ⟨vs, ax_psl_ok hm hρ e1 g1, g2⟩
        · exact ax_psx_ok hm hρ e2 (fun x' h' => hx x' (List.mem_cons_of_mem _ h')) y hy
/-- BEHIND A CALL by contract -/
theorem ax_post_ok (hX : ax_XD w X) (hE : ax_EO w X ρ E hp) {n0 : Nat} {m md : List (Nat × Nat)} {po : ax_T} {rv : Nat} {E' : ax_E} (hm : ax_me E.1 ρ m) (hρ : ∀ k, k < n0 → ρ1 k = ax_rm 0 m E.1 ρ k) (hpo : ax_EO w X ρ1 po.2 hp') (hr : ax_HR w md hp hp') (h : ax_post w E m n0 md po = some (rv, E')) :
    ∃ r, po.1 = [r] ∧ E.1 ≤ E'.1 ∧ (∀ k, k < E.1 → ax_rp n0 E.1 ρ ρ1 k = ρ k) ∧ (∀ x, ax_ev po.2.1 ρ1 r = some x → ax_ev E'.1 (ax_rp n0 E.1 ρ ρ1) rv = some x) ∧ ax_EO w X (ax_rp n0 E.1 ρ ρ1) E' hp' := by
  unfold ax_post at h
  match hp1 : po.1, h with
  | [], h => cases h
  | _ :: _ :: _, h => cases h
  | [r], h =>
    dsimp only at h
    cases e1 : ax_ps n0 E.1 m r with
    | none => rw [e1] at h; cases h
    | some rv' =>
      cases e2 : ax_psf n0 E.1 m (ax_fs po.2) with
      | none => rw [e1, e2] at h; cases h
      | some fs =>
        rw [e1, e2] at h
        dsimp only at h
        cases e3 : ax_psx n0 E.1 m (ax_xf po.2) with
        | none => rw [e3] at h; cases h
        | some xs =>
        rw [e3] at h
        dsimp only at h
        obtain ⟨hc, h⟩ := rx_cond h
        cases h
        obtain ⟨c1, hc⟩ := rx_and2.mp hc
        obtain ⟨c2, c3⟩ := rx_and2.mp hc
        have c1 : n0 ≤ po.2.1 := rx_ble.mp c1
        have ha : ∀ k, k < E.1 → ax_rp n0 E.1 ρ ρ1 k = ρ k := fun k hk => ax_rp_lt hk
        refine ⟨r, rfl, Nat.le_add_right _ _, ha, fun x hx => ax_ps_ok hm hρ e1 hx, ⟨?_, ?_, ?_, ?_, ?_⟩⟩
        · show (List.take (po.2.1 - n0) po.2.2.1 ++ E.2.1).length = E.1 + (po.2.1 - n0)
          rw [List.length_append, List.length_take, hpo.1, hE.1]
          omega
        · intro j t hj ht
          replace hj : j < E.1 + (po.2.1 - n0) := hj
          replace ht : (List.take (po.2.1 - n0) po.2.2.1 ++ E.2.1)[E.1 + (po.2.1 - n0) - 1 - j]? = some t := ht
          have hlen : (List.take (po.2.1 - n0) po.2.2.1).length = po.2.1 - n0 := by rw [List.length_take, hpo.1]; omega
          by_cases hl : j < E.1
          · rw [List.getElem?_append_right (by rw [hlen]; omega), hlen, show E.1 + (po.2.1 - n0) - 1 - j - (po.2.1 - n0) = E.1 - 1 - j by omega] at ht
            rw [ha j hl]
            exact hE.2.1 j t hl ht
          · rw [List.getElem?_append_left (by rw [hlen]; omega), List.getElem?_take_of_lt (by omega)] at ht
            have : ax_rp n0 E.1 ρ ρ1 j = ρ1 (n0 + (j - E.1)) := if_neg hl
            rw [this]
            refine hpo.2.1 _ t (by omega) ?_
            rw [show po.2.1 - 1 - (n0 + (j - E.1)) = E.1 + (po.2.1 - n0) - 1 - j by omega]
            exact ht
        · intro y hy
          rcases List.mem_append.mp hy with hy | hy
          · obtain ⟨x, hx, q1, q2, q3⟩ := ax_psf_ok e2 y hy
            obtain ⟨a, i, v, k, mm, l, g1, g2, g3, g4⟩ := hpo.2.2.1 x hx
            exact ⟨a, i, v, k, mm, l, ax_ps_ok hm hρ q1 g1, ax_ps_ok hm hρ q2 g2, ax_ps_ok hm hρ q3 g3, g4⟩
          · obtain ⟨hy1, hy2⟩ := List.mem_filter.mp hy
            obtain ⟨a, i, v, k, mm, l, g1, g2, g3, g4, g5, g6, g7, g8⟩ := hE.2.2.1 y hy1
            cases eg : ax_rg w E y.1 with
            | none => rw [eg] at hy2; cases hy2
            | some g =>
              rw [eg] at hy2
              dsimp only at hy2
              obtain ⟨-, -, -, hw⟩ := ax_rg_ok hE eg g1
              obtain ⟨l', hl', hsame⟩ := hr.2 _ _ hw _ _ _ g7
              have hmem : ax_mem md g (i / 4) = false := by
                refine Bool.eq_false_iff.mpr (fun z => ?_)
                obtain ⟨u, hu, hz⟩ := List.any_eq_true.mp z
                obtain ⟨z1, z2⟩ := rx_and2.mp hz
                have : md.any (fun y' => Nat.beq y'.1 g && (Nat.beq y'.2 999 || (!(ax_cst y.2.1) || Nat.beq y'.2 (rx_pl y.2.1)))) = true := by
                  refine List.any_eq_true.mpr ⟨u, hu, rx_and2.mpr ⟨z1, ?_⟩⟩
                  rcases rx_or2.mp z2 with z2 | z2
                  · cases hc : ax_cst y.2.1 with
                    | false => exact rx_or2.mpr (Or.inr rfl)
                    | true =>
                      have e := ax_cst_ev hc g2
                      subst e
                      exact rx_or2.mpr (Or.inr z2)
                  · exact rx_or2.mpr (Or.inl z2)
                rw [this] at hy2
                cases hy2
              refine ⟨a, i, v, k, mm, l', ax_ev_mono (Nat.le_add_right _ _) ha g1, ax_ev_mono (Nat.le_add_right _ _) ha g2, ax_ev_mono (Nat.le_add_right _ _) ha g3, g4, g5, g6, hl', ?_⟩
              rw [hsame _ hmem]
              exact g8
        · intro d hd
          exact (hE.2.2.2.1 d hd).mono (Nat.le_add_right _ _) ha
        · intro x hx
          rcases List.mem_append.mp hx with hx | hx
          · exact ax_psx_ok hm hρ e3 hpo.2.2.2.2 x hx
          · exact (ax_xkill_ok hX hE.2.2.2.2 hr x hx).mono (Nat.le_add_right _ _) ha
end AXP
/-- what is concluded: nothing is written -/
noncomputable def ax_rpo (w : ax_W) (E : ax_E) (m : List (Nat × Nat)) (n0 : Nat) (po : ax_T) : Option ax_E := match ax_psf n0 E.1 m (ax_fs po.2), ax_psx n0 E.1 m (ax_xf po.2) with
  | some fs, some xs => bif Nat.ble n0 (ax_n po.2) && (Nat.beq (rx_len (ax_ty po.2)) (ax_n po.2) && ax_nil (ax_df po.2)) then some (Nat.add E.1 (Nat.sub (ax_n po.2) n0), List.take (Nat.sub (ax_n po.2) n0) (ax_ty po.2) ++ ax_ty E, fs ++ ax_fs E, ax_df E, xs ++ ax_xf E) else none
  | _, _ => none
noncomputable def ax_rpos (w : ax_W) (E : ax_E) (m : List (Nat × Nat)) (n0 : Nat) (ps : List ax_T) : Option (List ax_E) := List.rec (motive := fun _ => Option (List ax_E)) (some []) (fun po _ ih => match ax_rpo w E m n0 po, ih with
  | some q, some r => some (q :: r)
  | _, _ => none) ps
theorem ax_rpos_ok {w : ax_W} {E : ax_E} {m : List (Nat × Nat)} {n0 : Nat} : ∀ {ps : List ax_T} {os : List ax_E}, ax_rpos w E m n0 ps = some os → ∀ po ∈ ps, ∃ q ∈ os, ax_rpo w E m n0 po = some q
  | [], os, _ => by intro po hpo; cases hpo
  | p :: ps, os, h => by
    replace h : (match ax_rpo w E m n0 p, ax_rpos w E m n0 ps with
      | some q, some r => some (q :: r)
      | _, _ => none) = some os := h
    cases e1 : ax_rpo w E m n0 p with
    | none => rw [e1] at h; cases h
    | some q =>
      cases e2 : ax_rpos w E m n0 ps with
      | none => rw [e1, e2] at h; cases h
      | some r =>
        rw [e1, e2] at h
        cases h
        intro po hpo
        rcases List.mem_cons.mp hpo with rfl | hpo
        · exact ⟨q, List.mem_cons_self, e1⟩
        · obtain ⟨z, hz, hz2⟩ := ax_rpos_ok e2 po hpo
          exact ⟨z, List.mem_cons_of_mem _ hz, hz2⟩
section AXQ
variable {w : ax_W} {X : ax_X} {ρ ρ1 : Nat → Nat} {E : ax_E} {hp : rx_H}
theorem ax_rpo_ok (hE : ax_EO w X ρ E hp) {n0 : Nat} {m : List (Nat × Nat)} {po : ax_T} {E' : ax_E} (hm : ax_me E.1 ρ m) (hρ : ∀ k, k < n0 → ρ1 k = ax_rm 0 m E.1 ρ k) (hpo : ax_EO w X ρ1 po.2 hp) (h : ax_rpo w E m n0 po = some E') :
    E.1 ≤ E'.1 ∧ (∀ k, k < E.1 → ax_rp n0 E.1 ρ ρ1 k = ρ k) ∧ ax_EO w X (ax_rp n0 E.1 ρ ρ1) E' hp := by
  unfold ax_rpo at h
  cases e2 : ax_psf n0 E.1 m (ax_fs po.2) with
  | none => rw [e2] at h; cases h
  | some fs =>
    cases e3 : ax_psx n0 E.1 m (ax_xf po.2) with
    | none => rw [e2, e3] at h; cases h
    | some xs =>
      rw [e2, e3] at h
      dsimp only at h
      obtain ⟨hc, h⟩ := rx_cond h
      cases h
      obtain ⟨c1, hc⟩ := rx_and2.mp hc
      have c1 : n0 ≤ po.2.1 := rx_ble.mp c1
      have ha : ∀ k, k < E.1 → ax_rp n0 E.1 ρ ρ1 k = ρ k := fun k hk => ax_rp_lt hk
      refine ⟨Nat.le_add_right _ _, ha, ⟨?_, ?_, ?_, ?_, ?_⟩⟩
      · show (List.take (po.2.1 - n0) po.2.2.1 ++ E.2.1).length = E.1 + (po.2.1 - n0)
        rw [List.length_append, List.length_take, hpo.1, hE.1]
        omega
      · intro j t hj ht
        replace hj : j < E.1 + (po.2.1 - n0) := hj
        replace ht : (List.take (po.2.1 - n0) po.2.2.1 ++ E.2.1)[E.1 + (po.2.1 - n0) - 1 - j]? = some t := ht
        have hlen : (List.take (po.2.1 - n0) po.2.2.1).length = po.2.1 - n0 := by rw [List.length_take, hpo.1]; omega
        by_cases hl : j < E.1
        · rw [List.getElem?_append_right (by rw [hlen]; omega), hlen, show E.1 + (po.2.1 - n0) - 1 - j - (po.2.1 - n0) = E.1 - 1 - j by omega] at ht
          rw [ha j hl]
          exact hE.2.1 j t hl ht
        · rw [List.getElem?_append_left (by rw [hlen]; omega), List.getElem?_take_of_lt (by omega)] at ht
          have : ax_rp n0 E.1 ρ ρ1 j = ρ1 (n0 + (j - E.1)) := if_neg hl
          rw [this]
          refine hpo.2.1 _ t (by omega) ?_
          rw [show po.2.1 - 1 - (n0 + (j - E.1)) = E.1 + (po.2.1 - n0) - 1 - j by omega]
          exact ht
      · intro y hy
        rcases List.mem_append.mp hy with hy | hy
        · obtain ⟨x, hx, q1, q2, q3⟩ := ax_psf_ok e2 y hy
          obtain ⟨a, i, v, k, mm, l, g1, g2, g3, g4⟩ := hpo.2.2.1 x hx
          exact ⟨a, i, v, k, mm, l, ax_ps_ok hm hρ q1 g1, ax_ps_ok hm hρ q2 g2, ax_ps_ok hm hρ q3 g3, g4⟩
        · exact (hE.2.2.1 y hy).mono (Nat.le_add_right _ _) ha
      · intro d hd
        exact (hE.2.2.2.1 d hd).mono (Nat.le_add_right _ _) ha
      · intro x hx
        rcases List.mem_append.mp hx with hx | hx
        · exact ax_psx_ok hm hρ e3 hpo.2.2.2.2 x hx
        · exact (hE.2.2.2.2 x hx).mono (Nat.le_add_right _ _) ha
end AXQ
end
section
/-! Runs of the interpreter: more time does no harm; locals that are not there are not needed -/
theorem rm_fold {α β : Type} {f g : α → Option (List β)} {φ : α → α} : ∀ {l : List α} {b : List β}, (∀ x ∈ l, ∀ c, f x = some c → g (φ x) = some c) → l.foldr (fun x acc => match f x with
    | some a => (match acc with
      | some b => some (a ++ b)
      | none => none)
    | none => none) (some []) = some b → (l.map φ).foldr (fun x acc => match g x with
    | some a => (match acc with
      | some b => some (a ++ b)
      | none => none)
    | none => none) (some []) = some b
  | [], b, _, e => e
  | z :: l, b, h, e => by
    rw [List.foldr_cons] at e
    rw [List.map_cons, List.foldr_cons]
    cases hz : f z with
    | none => rw [hz] at e; cases e
    | some a =>
      rw [hz] at e
      dsimp only at e
      rw [h z List.mem_cons_self a hz]
      dsimp only
      cases hb : l.foldr (fun x acc => match f x with
        | some a => (match acc with
          | some b => some (a ++ b)
          | none => none)
        | none => none) (some []) with
      | none => rw [hb] at e; cases e
      | some c =>
        rw [hb] at e
        rw [rm_fold (fun x hx => h x (List.mem_cons_of_mem _ hx)) hb]
        exact e
theorem rm_all {α β : Type} {f g : α → Option (List β)} {φ : α → α} {l : List α} {b : List β} (h : ∀ x ∈ l, ∀ c, f x = some c → g (φ x) = some c) (e : rx_all f l = some b) : rx_all g (l.map φ) = some b := by
  match l, h, e with
  | [], h, e => exact e
  | [x], h, e => exact h x List.mem_cons_self b e
  | x :: y :: l, h, e => exact rm_fold (l := x :: y :: l) h e
theorem rm_id {α : Type} (l : List α) : l.map (fun x => x) = l := by
  induction l with
  | nil => rfl
  | cons x l ih => rw [List.map_cons, ih]
theorem rm_all1 {α β : Type} {f g : α → Option (List β)} {l : List α} {b : List β} (h : ∀ x ∈ l, ∀ c, f x = some c → g x = some c) (e : rx_all f l = some b) : rx_all g l = some b := by
  have := rm_all (φ := fun x => x) h e
  rw [rm_id] at this
  exact this
/-- less is known of the locals -/
noncomputable def rm_le (a b : List Nat) : Prop := a.length = b.length ∧ ∀ i v : Nat, a[i]? = some v → v ≠ 2 → b[i]? = some v
noncomputable def rm_lv (lv : List Nat) (σ : rx_S) : rx_S := (σ.1, lv, σ.2.2)
/-- what an instruction does has nothing to do with locals -/
noncomputable def rm_in (h : rx_Hd) : Prop := ∀ K r pc a b lv lv' st hp iv c s, h K r pc a b lv st hp iv c s = (h K r pc a b lv' st hp iv c s).map (List.map (rm_lv lv))
theorem rm_cond {c : Bool} {A B : Option (List rx_S)} {A' B' : Option (List rx_S)} {lv : List Nat} (h1 : A = A'.map (List.map (rm_lv lv))) (h2 : B = B'.map (List.map (rm_lv lv))) : (bif c then A else B) = (bif c then A' else B').map (List.map (rm_lv lv)) := by
  cases c
  · exact h2
  · exact h1
theorem rm_two {pc : Nat} {lv lv' : rx_L} {st : List Nat} {hp : rx_H} {q : Option (rx_I × rx_I)} {c s : Nat} : rx_two pc lv st hp q c s = (rx_two pc lv' st hp q c s).map (List.map (rm_lv lv)) := by
  cases q with
  | none => rfl
  | some z => rfl
theorem rm_half {pc : Nat} {lv lv' : rx_L} {st : List Nat} {hp : rx_H} {iv : rx_I} {c s v : Nat} : rx_half pc lv st hp iv c s v = (rx_half pc lv' st hp iv c s v).map (List.map (rm_lv lv)) := by
  unfold rx_half
  cases rx_io iv v with
  | none => rfl
  | some z => exact rm_two
theorem rm_br {k : ClassFile.Cond} {t pc x y : Nat} {st r : List Nat} {lv lv' : rx_L} {hp : rx_H} {iv : rx_I} {c s : Nat} : rx_br k t pc x y st r lv hp iv c s = (rx_br k t pc x y st r lv' hp iv c s).map (List.map (rm_lv lv)) := by
  unfold rx_br
  cases rx_io iv x with
  | none => rfl
  | some a =>
    cases rx_io iv y with
    | none => rfl
    | some b =>
      dsimp only
      cases rx_tri k a b with
      | none => exact rm_cond rm_two rm_two
      | some z => cases z <;> rfl
theorem rm_ald (ok : Nat → Bool) : rm_in (rx_h_ald ok) := by
  intro K r pc a b lv lv' st hp iv c s
  unfold rx_h_ald
  match st with
  | [] => rfl
  | [_] => rfl
  | ix :: v :: st' =>
    dsimp only
    refine rm_cond (rm_cond rfl rfl) (rm_cond ?_ rfl)
    cases rx_hg hp (Nat.sub (rx_pl v) 2) with
    | none => rfl
    | some z =>
      dsimp only
      refine rm_cond (rm_cond ?_ rfl) rm_half
      cases rx_nth z.2.2 (rx_pl (rx_kn iv ix)) <;> rfl
theorem rm_ast {ok : Nat → Nat → Bool} {pc : Nat} {lv lv' : rx_L} {st : List Nat} {hp : rx_H} {iv : rx_I} {c s : Nat} : rx_ast ok pc lv st hp iv c s = (rx_ast ok pc lv' st hp iv c s).map (List.map (rm_lv lv)) := by
  unfold rx_ast
  match st with
  | [] => rfl
  | [_] => rfl
  | [_, _] => rfl
  | x :: ix :: v :: st' =>
    dsimp only
    refine rm_cond ?_ rfl
    cases rx_hg hp (Nat.sub (rx_pl v) 2) with
    | none => rfl
    | some z =>
      dsimp only
      exact rm_cond (rm_cond rfl rfl) rm_half
theorem rm_new {r : rx_N} {pc : Nat} {lv lv' : rx_L} {st : List Nat} {hp : rx_H} {iv : rx_I} {c s : Nat} {x : rx_C} : rx_new r pc lv st hp iv c s x = (rx_new r pc lv' st hp iv c s x).map (List.map (rm_lv lv)) := by
  unfold rx_new
  exact rm_cond rfl rfl
theorem rm_ar (f : Nat → Nat → Option Nat) (g : Nat → Nat × Nat) : rm_in (rx_h_ar f g) := by
  intro K r pc a b lv lv' st hp iv c s
  unfold rx_h_ar
  match st with
  | [] => rfl
  | [_] => rfl
  | y0 :: x0 :: st' =>
    dsimp only
    refine rm_cond ?_ (rm_cond rm_half (rm_cond rm_half (rm_cond rfl rfl)))
    cases f (rx_pl (rx_kn iv x0)) (rx_pl (rx_kn iv y0)) <;> rfl
theorem rm_sem0 (ins : Instr) : (∃ ok i n, rx_sem ins = rx_h_ld ok i n ∧ ok 2 = false) ∨ (∃ ok i n, rx_sem ins = rx_h_sto ok i n) ∨ (∃ i n, rx_sem ins = rx_h_stJ i n) ∨ (∃ i, rx_sem ins = rx_h_inc i) ∨ rm_in (rx_sem ins) := by
  have one : ∀ h : rx_Hd, (∀ K r pc a b lv lv' st hp iv c s, h K r pc a b lv st hp iv c s = (h K r pc a b lv' st hp iv c s).map (List.map (rm_lv lv))) → rm_in h := fun h x => x
  cases ins <;> first
    | exact Or.inl ⟨_, _, _, rfl, rfl⟩
    | exact Or.inr (Or.inl ⟨_, _, _, rfl⟩)
    | exact Or.inr (Or.inr (Or.inl ⟨_, _, rfl⟩))
    | exact Or.inr (Or.inr (Or.inr (Or.inl ⟨_, rfl⟩)))
    | exact Or.inr (Or.inr (Or.inr (Or.inr (fun _ _ _ _ _ _ _ _ _ _ _ _ => rm_ast))))
    | exact Or.inr (Or.inr (Or.inr (Or.inr (fun _ _ _ _ _ _ _ _ _ _ _ _ => rfl))))
    | skip
  all_goals refine Or.inr (Or.inr (Or.inr (Or.inr ?_)))
  all_goals intro K r pc a b lv lv' st hp iv c s
  case iaload => exact rm_ald (fun t => Nat.beq t 13) K r pc a b lv lv' st hp iv c s
  case baload => exact rm_ald (fun t => Nat.beq t 12 || Nat.beq t 15) K r pc a b lv lv' st hp iv c s
  case aaload => exact rm_ald (fun t => Nat.beq t 16) K r pc a b lv lv' st hp iv c s
  case laload => exact rm_ald (fun t => Nat.beq t 14) K r pc a b lv lv' st hp iv c s
  case iadd => exact rm_ar rx_f_add rx_g32 K r pc a b lv lv' st hp iv c s
  case isub => exact rm_ar rx_f_sub rx_g32 K r pc a b lv lv' st hp iv c s
  case imul => exact rm_ar rx_f_mul rx_g32 K r pc a b lv lv' st hp iv c s
  case iand => exact rm_ar rx_f_and rx_gand K r pc a b lv lv' st hp iv c s
  case ishl => exact rm_ar rx_f_shl rx_g32 K r pc a b lv lv' st hp iv c s
  case iushr => exact rm_ar rx_f_ushr rx_g32 K r pc a b lv lv' st hp iv c s
  case ifCond k o => match st with
    | [] => rfl
    | x :: st' => exact rm_br
  case if_icmp k o => match st with
    | [] => rfl
    | [_] => rfl
    | y :: x :: st' => exact rm_br
  case getfield i =>
    show rx_h_gf K r pc a b lv st hp iv c s = (rx_h_gf K r pc a b lv' st hp iv c s).map (List.map (rm_lv lv))
    unfold rx_h_gf
    match st with
    | [] => rfl
    | v :: st' =>
      dsimp only
      refine rm_cond ?_ rfl
      cases rx_hg hp (Nat.sub (rx_pl v) 2) with
      | none => rfl
      | some z =>
        dsimp only
        refine rm_cond ?_ rfl
        cases rx_nth z.2.2 b <;> rfl
  case putfield i =>
    show rx_h_pf K r pc a b lv st hp iv c s = (rx_h_pf K r pc a b lv' st hp iv c s).map (List.map (rm_lv lv))
    unfold rx_h_pf
    match st with
    | [] => rfl
    | [_] => rfl
    | x :: v :: st' =>
      dsimp only
      refine rm_cond ?_ rfl
      cases rx_hg hp (Nat.sub (rx_pl v) 2) with
      | none => rfl
      | some z =>
        dsimp only
        cases rx_nth K.2 a with
        | none => rfl
        | some ks =>
          dsimp only
          cases rx_nth ks b with
          | none => rfl
          | some k => exact rm_cond rfl rfl
  case tableswitch d lo hi offs =>
    show rx_h_tsw lo hi offs K r pc a b lv st hp iv c s = (rx_h_tsw lo hi offs K r pc a b lv' st hp iv c s).map (List.map (rm_lv lv))
    unfold rx_h_tsw
    match st with
    | [] => rfl
    | v :: st' =>
      dsimp only
      unfold rx_tsw2
      cases rx_io iv v with
      | none => rfl
      | some q =>
        cases lo with
        | negSucc _ => rfl
        | ofNat l0 =>
          cases hi with
          | negSucc _ => rfl
          | ofNat h0 =>
            dsimp only
            unfold rx_tsw1
            refine rm_cond rfl (rm_cond ?_ rm_two)
            cases offs[Nat.sub q.1 (Nat.add l0 2147483648)]? with
            | none => rfl
            | some o =>
              dsimp only
              cases (pc : Int) + o <;> rfl
  case new i =>
    show rx_h_new K r pc a b lv st hp iv c s = (rx_h_new K r pc a b lv' st hp iv c s).map (List.map (rm_lv lv))
    unfold rx_h_new
    cases rx_nth K.1 a with
    | none => rfl
    | some l => exact rm_new
  case newarray t =>
    show rx_h_newa t K r pc a b lv st hp iv c s = (rx_h_newa t K r pc a b lv' st hp iv c s).map (List.map (rm_lv lv))
    unfold rx_h_newa
    match st with
    | [] => rfl
    | v :: st' =>
      dsimp only
      cases rx_nk t with
      | none => rfl
      | some z => exact rm_cond rm_new rfl
  case anewarray t =>
    show rx_h_anew K r pc a b lv st hp iv c s = (rx_h_anew K r pc a b lv' st hp iv c s).map (List.map (rm_lv lv))
    unfold rx_h_anew
    match st with
    | [] => rfl
    | v :: st' => exact rm_cond rm_new rfl
  case arraylength =>
    show rx_h_alen K r pc a b lv st hp iv c s = (rx_h_alen K r pc a b lv' st hp iv c s).map (List.map (rm_lv lv))
    unfold rx_h_alen
    match st with
    | [] => rfl
    | v :: st' =>
      dsimp only
      refine rm_cond (rm_cond rfl rfl) (rm_cond ?_ rfl)
      cases rx_hg hp (Nat.sub (rx_pl v) 2) with
      | none => rfl
      | some z => exact rm_cond rfl rfl
  all_goals match st with
    | [] => first | rfl | exact rm_cond rfl rfl
    | [_] => first | rfl | exact rm_cond rfl rfl
    | y :: x :: st' => first
      | rfl
      | exact rm_cond rfl rfl
      | (refine rm_cond (A := match (_ : Option Nat) with | some n => _ | none => _) ?_ rfl; split <;> rfl)
      | (show (bif _ then _ else _) = Option.map _ (bif _ then _ else _); refine rm_cond ?_ rfl; split <;> rfl)
-- PART TWO
theorem rm_le.rf {a : List Nat} : rm_le a a := ⟨rfl, fun _ _ h _ => h⟩
theorem rm_le.set {a b : List Nat} (h : rm_le a b) (i v : Nat) : rm_le (a.set i v) (b.set i v) := by
  refine ⟨by rw [List.length_set, List.length_set]; exact h.1, fun j u hj hu => ?_⟩
  rw [List.getElem?_set] at hj ⊢
  by_cases hij : i = j
  · rw [if_pos hij] at hj ⊢
    rw [← h.1]
    exact hj
  · rw [if_neg hij] at hj ⊢
    exact h.2 j u hj hu
theorem rm_le.two {a b : List Nat} (h : rm_le a b) (i : Nat) (ha : a[i]? = some 2) : rm_le a (b.set i 2) := by
  refine ⟨by rw [List.length_set]; exact h.1, fun j u hj hu => ?_⟩
  rw [List.getElem?_set]
  by_cases hij : i = j
  · rw [← hij, ha] at hj
    exact absurd (Option.some.inj hj).symm hu
  · rw [if_neg hij]
    exact h.2 j u hj hu
theorem rm_le.low {a b : List Nat} (h : rm_le a b) (i : Nat) : rm_le (rx_low a i) (rx_low b i) := by
  unfold rx_low
  cases i with
  | zero => exact h
  | succ j =>
    show rm_le (match rx_nth a j with | some v => bif rx_isJ v then rx_upd a j 2 else a | none => a) (match rx_nth b j with | some v => bif rx_isJ v then rx_upd b j 2 else b | none => b)
    rw [rx_nth_eq, rx_nth_eq, rx_upd_eq, rx_upd_eq]
    cases ha : a[j]? with
    | none =>
      have hb : b[j]? = none := by rw [List.getElem?_eq_none_iff] at ha ⊢; rw [← h.1]; exact ha
      rw [hb]
      exact h
    | some v =>
      have hl : j < b.length := by
        rw [← h.1]
        rcases Nat.lt_or_ge j a.length with q | q
        · exact q
        · rw [List.getElem?_eq_none_iff.mpr q] at ha; cases ha
      by_cases hv : v = 2
      · subst hv
        show rm_le a _
        cases hb : b[j]? with
        | none => exact h
        | some u =>
          dsimp only
          cases rx_isJ u with
          | false => exact h
          | true => exact h.two j ha
      · rw [h.2 j v ha hv]
        dsimp only
        cases rx_isJ v with
        | false => exact h
        | true => exact h.set j 2
theorem rm_le.put {a b : List Nat} (h : rm_le a b) (i v : Nat) : rm_le (rx_put a i v) (rx_put b i v) := by
  unfold rx_put
  rw [rx_upd_eq, rx_upd_eq]
  exact (h.low i).set i v
theorem rm_le.putJ {a b : List Nat} (h : rm_le a b) (i v : Nat) : rm_le (rx_putJ a i v) (rx_putJ b i v) := by
  unfold rx_putJ
  rw [rx_upd_eq, rx_upd_eq, rx_upd_eq, rx_upd_eq]
  exact ((h.low i).set i v).set (Nat.succ i) 2
section RM
variable {P : List rx_M} {K : rx_K} {r : rx_M} {g f f' : rx_M → rx_S → Option (List rx_O)} {pc a b c s : Nat} {lv lv' : List Nat} {st : List Nat} {hp : rx_H} {iv : rx_I} {l : List rx_O}
noncomputable def rm_ok (r : rx_M) (f f' : rx_M → rx_S → Option (List rx_O)) : Prop := ∀ (pc : Nat) (a b : List Nat) (rest : List Nat × rx_H × rx_I × Nat × Nat) (l : List rx_O), rm_le a b → f r (pc, a, rest) = some l → f' r (pc, b, rest) = some l
theorem rm_nxt (H : rm_ok r f f') (hle : rm_le lv' lv) (ins : Instr) (h : rx_nxt f r (rx_sem ins K (rx_n r) pc a b lv' st hp iv c s) = some l) : rx_nxt f' r (rx_sem ins K (rx_n r) pc a b lv st hp iv c s) = some l := by
  rcases rm_sem0 ins with ⟨ok, i, n, e, e2⟩ | ⟨ok, i, n, e⟩ | ⟨i, n, e⟩ | ⟨i, e⟩ | e
  · rw [e] at h ⊢
    unfold rx_h_ld at h ⊢
    rw [rx_nth_eq] at h ⊢
    cases hv : lv'[i]? with
    | none => rw [hv] at h; cases h
    | some v =>
      rw [hv] at h
      dsimp only at h
      cases ho : ok v with
      | false => rw [ho] at h; cases h
      | true =>
        have h2 : v ≠ 2 := fun z => by rw [z, e2] at ho; cases ho
        rw [hle.2 i v hv h2]
        dsimp only
        rw [ho] at h ⊢
        exact H _ _ _ _ _ hle h
  · rw [e] at h ⊢
    unfold rx_h_sto at h ⊢
    match st, h with
    | [], h => cases h
    | v :: st', h =>
      dsimp only at h ⊢
      cases hb : ok v && Nat.blt i (rx_mL (rx_n r)) with
      | false => rw [hb] at h; cases h
      | true => rw [hb] at h; exact H _ _ _ _ _ (hle.put i v) h
  · rw [e] at h ⊢
    unfold rx_h_stJ at h ⊢
    match st, h with
    | [], h => cases h
    | v :: st', h =>
      dsimp only at h ⊢
      cases hb : rx_isJ v && Nat.blt (Nat.succ i) (rx_mL (rx_n r)) with
      | false => rw [hb] at h; cases h
      | true => rw [hb] at h; exact H _ _ _ _ _ (hle.putJ i v) h
  · rw [e] at h ⊢
    unfold rx_h_inc at h ⊢
    rw [rx_nth_eq] at h ⊢
    cases hv : lv'[i]? with
    | none => rw [hv] at h; cases h
    | some v =>
      rw [hv] at h
      dsimp only at h
      cases ho : Nat.beq (rx_tk v) 0 && Nat.blt i (rx_mL (rx_n r)) with
      | false => rw [ho] at h; cases h
      | true =>
        have h2 : v ≠ 2 := fun z => by rw [z] at ho; cases ho
        rw [hle.2 i v hv h2]
        dsimp only
        rw [ho] at h ⊢
        exact H _ _ _ _ _ (hle.put i _) h
  · have e1 := e K (rx_n r) pc a b lv' lv' st hp iv c s
    rw [e K (rx_n r) pc a b lv lv' st hp iv c s]
    cases hz : rx_sem ins K (rx_n r) pc a b lv' st hp iv c s with
    | none => rw [hz] at h; cases h
    | some l0 =>
      rw [hz] at h e1
      replace h : rx_all (f r) l0 = some l := h
      show rx_all (f' r) (l0.map (rm_lv lv)) = some l
      refine rm_all (fun x hx o ho => ?_) h
      have e2 : l0 = l0.map (rm_lv lv') := Option.some.inj e1
      rw [e2] at hx
      obtain ⟨y, -, hy⟩ := List.mem_map.mp hx
      obtain ⟨p, q, rest⟩ := x
      have : q = lv' := by have := congrArg (fun z : rx_S => z.2.1) hy; exact this.symm
      subst this
      exact H p q lv rest o hle ho
theorem rm_call {g' : rx_M → rx_S → Option (List rx_O)} {stat : Bool} (hg : ∀ q ∈ P, ∀ σ l, g q σ = some l → g' q σ = some l) (H : rm_ok r f f') (hle : rm_le lv' lv) (h : rx_call stat P g f r pc a b lv' st hp iv c s = some l) : rx_call stat P g' f' r pc a b lv st hp iv c s = some l := by
  unfold rx_call at h ⊢
  rcases ax_condY h with ⟨e, h⟩ | ⟨e, h⟩ <;> rw [e] <;> dsimp only [cond_true, cond_false]
  · unfold rx_inv1 at h ⊢
    match st, h with
    | [], h => cases h
    | v :: st', h =>
      dsimp only at h ⊢
      obtain ⟨hb, h⟩ := rx_cond h
      rw [hb]
      exact H _ _ _ _ _ hle h
  rcases ax_condY h with ⟨e, h⟩ | ⟨e, h⟩ <;> rw [e] <;> dsimp only [cond_true, cond_false]
  · unfold rx_inv2 at h ⊢
    cases hz : rx_cpy pc lv' st hp iv c s with
    | none => rw [hz] at h; cases h
    | some σ =>
      rw [hz] at h
      dsimp only at h
      obtain ⟨hb, hh⟩ := rx_cond h
      have : rx_cpy pc lv st hp iv c s = some (rm_lv lv σ) ∧ σ.2.1 = lv' := by
        unfold rx_cpy at hz ⊢
        split at hz
        · obtain ⟨h1, h2⟩ := rx_cond hz
          rw [h1]
          dsimp only [cond_true]
          split at h2
          · obtain ⟨h3, h4⟩ := rx_cond h2
            rw [h3]
            cases h4
            exact ⟨rfl, rfl⟩
          · cases h2
        · cases hz
      obtain ⟨t1, t2⟩ := this
      rw [t1]
      dsimp only
      rw [hb]
      obtain ⟨p, q, rest⟩ := σ
      replace t2 : q = lv' := t2
      subst t2
      exact H p q lv rest l hle hh
  rcases ax_condY h with ⟨e, h⟩ | ⟨e, h⟩ <;> rw [e] <;> dsimp only [cond_true, cond_false]
  · rcases ax_condY h with ⟨e, h⟩ | ⟨e, h⟩ <;> rw [e] <;> dsimp only [cond_true, cond_false]
    · unfold rx_invP at h ⊢
      cases hz : rx_prim (Nat.div b 4) st with
      | none => rw [hz] at h; cases h
      | some st' =>
        rw [hz] at h
        dsimp only at h ⊢
        obtain ⟨hb, h⟩ := rx_cond h
        rw [hb]
        exact H _ _ _ _ _ hle h
    · unfold rx_invS at h ⊢
      cases hz : rx_primS (Nat.div b 4) st with
      | none => rw [hz] at h; cases h
      | some st' =>
        rw [hz] at h
        dsimp only at h ⊢
        obtain ⟨hb, h⟩ := rx_cond h
        rw [hb]
        exact H _ _ _ _ _ hle h
  · unfold rx_inv at h ⊢
    cases hq : rx_nth P a with
    | none => rw [hq] at h; cases h
    | some q =>
      have hqP : q ∈ P := by rw [rx_nth_eq] at hq; exact List.mem_of_getElem? hq
      rw [hq] at h
      dsimp only at h ⊢
      cases hs : rx_spl (bif stat then rx_np (rx_n q) else Nat.succ (rx_np (rx_n q))) st [] with
      | none => rw [hs] at h; cases h
      | some w =>
        rw [hs] at h
        dsimp only at h ⊢
        obtain ⟨hb, h⟩ := rx_cond h
        rw [hb]
        show rx_inv3 g' f' r q pc lv hp iv c s w.1 w.2 = some l
        replace h : rx_inv3 g f r q pc lv' hp iv c s w.1 w.2 = some l := h
        unfold rx_inv3 at h ⊢
        cases ho : g q (0, rx_args w.1 (rx_mL (rx_n q)), [], hp, iv, 0, 0) with
        | none => rw [ho] at h; cases h
        | some outs =>
          rw [ho] at h
          rw [hg q hqP _ _ ho]
          dsimp only at h ⊢
          exact rm_all1 (fun x _ o hx => H _ _ _ _ _ hle hx) h
end RM
/-- more time, more known locals: the same -/
theorem rm_run {P : List rx_M} {K : rx_K} (hP : ∀ q ∈ P, rx_QW q ∧ rx_ST P K q) : ∀ (n m : Nat), n ≤ m → ∀ r ∈ P, ∀ (pc : Nat) (a b : List Nat) (rest : List Nat × rx_H × rx_I × Nat × Nat) (l : List rx_O), rm_le a b → rx_run P K n r (pc, a, rest) = some l → rx_run P K m r (pc, b, rest) = some l
  | 0, m, _, r, _, pc, a, b, rest, l, _, h => by cases h
  | n + 1, 0, hnm, r, _, pc, a, b, rest, l, _, h => by omega
  | n + 1, m + 1, hnm, r, hr, pc, a, b, rest, l, hle, h => by
    have ih := rm_run hP n m (by omega)
    have H : rm_ok r (rx_run P K n) (rx_run P K m) := fun pc a b rest l hle h => ih r hr pc a b rest l hle h
    have hg : ∀ q ∈ P, ∀ σ l, rx_run P K n q σ = some l → rx_run P K m q σ = some l := fun q hq σ l h => by
      obtain ⟨p, a, rest⟩ := σ
      exact ih q hq p a a rest l rm_le.rf h
    replace h : rx_go P K (rx_run P K n) (rx_run P K n) (fun o => some [o]) r (pc, a, rest) = some l := h
    show rx_go P K (rx_run P K m) (rx_run P K m) (fun o => some [o]) r (pc, b, rest) = some l
    unfold rx_go at h ⊢
    dsimp only at h ⊢
    cases hl : rx_look (rx_cd r) pc with
    | none => rw [hl] at h; cases h
    | some x =>
      rw [hl] at h
      dsimp only at h ⊢
      obtain ⟨⟨ch, hc1, hc2⟩, hpc⟩ := rx_look_ok hl
      obtain ⟨o1, o2, o3, o4, o5⟩ := (hP r hr).2 ch hc1 x hc2
      unfold rx_do at h ⊢
      rcases ax_condY h with ⟨e, h⟩ | ⟨e, h⟩ <;> rw [e] <;> dsimp only [cond_true, cond_false]
      · rw [o3 (rx_beq.mp e)] at h ⊢
        exact rm_nxt H hle _ h
      rcases ax_condY h with ⟨e, h⟩ | ⟨e, h⟩ <;> rw [e] <;> dsimp only [cond_true, cond_false]
      · exact rm_call hg H hle h
      rcases ax_condY h with ⟨e, h⟩ | ⟨e, h⟩ <;> rw [e] <;> dsimp only [cond_true, cond_false]
      · exact h
      rcases ax_condY h with ⟨e, h⟩ | ⟨e, h⟩ <;> rw [e] <;> dsimp only [cond_true, cond_false]
      · exact rm_call hg H hle h
      exact h
end
section
/-- from a state of a method on: it ends, and so -/
noncomputable def ax_Wp (P : List rx_M) (K : rx_K) (r : rx_M) (σ : rx_S) (Po : rx_O → Prop) : Prop := ∃ o, (∃ n, rx_run P K n r σ = some [o]) ∧ Po o
section AXX
variable {P : List rx_M} {K : rx_K} {r : rx_M} {Po : rx_O → Prop}
theorem ax_run_up (hP : ∀ q ∈ P, rx_QW q ∧ rx_ST P K q) (hr : r ∈ P) {n m : Nat} (hnm : n ≤ m) {σ : rx_S} {l : List rx_O} (h : rx_run P K n r σ = some l) : rx_run P K m r σ = some l := by
  obtain ⟨p, a, rest⟩ := σ
  exact rm_run hP n m hnm r hr p a a rest l rm_le.rf h
theorem ax_go_x {f : rx_M → rx_S → Option (List rx_O)} {z : rx_O → Option (List rx_O)} {pc : Nat} {lv st : List Nat} {hp : rx_H} {x : rx_E} (hl : rx_look (rx_cd r) pc = some x) : rx_go P K f f z r (pc, lv, st, hp, [], 0, 0) = rx_do P K f f z r x.2.1 x.2.2.1 pc x.2.2.2.2.2.1 x.2.2.2.2.2.2.1 lv st hp [] 0 0 := by
  unfold rx_go
  dsimp only
  rw [hl]
theorem ax_wp_step (hP : ∀ q ∈ P, rx_QW q ∧ rx_ST P K q) (hr : r ∈ P) {pc : Nat} {lv st : List Nat} {hp : rx_H} {x : rx_E} {σ' : rx_S} (hl : rx_look (rx_cd r) pc = some x) (hk : rx_kd x.2.2.2.1 = 0) (hh : rx_sem x.2.2.2.1 K (rx_n r) pc x.2.2.2.2.2.1 x.2.2.2.2.2.2.1 lv st hp [] 0 0 = some [σ']) (hW : ax_Wp P K r σ' Po) : ax_Wp P K r (pc, lv, st, hp, [], 0, 0) Po := by
  obtain ⟨o, ⟨n, h1⟩, h2⟩ := hW
  refine ⟨o, ⟨n + 1, ?_⟩, h2⟩
  obtain ⟨⟨ch, hc1, hc2⟩, hpc⟩ := rx_look_ok hl
  obtain ⟨o1, o2, o3, o4, o5⟩ := (hP r hr).2 ch hc1 x hc2
  have k0 : x.2.1 = 0 := o2.trans hk
  show rx_go P K (rx_run P K n) (rx_run P K n) (fun o => some [o]) r (pc, lv, st, hp, [], 0, 0) = some [o]
  rw [ax_go_x hl]
  unfold rx_do
  rw [k0, o3 k0]
  show rx_nxt (rx_run P K n) r (rx_sem x.2.2.2.1 K (rx_n r) pc x.2.2.2.2.2.1 x.2.2.2.2.2.2.1 lv st hp [] 0 0) = some [o]
  rw [hh]
  exact h1
theorem ax_wp_ret (hP : ∀ q ∈ P, rx_QW q ∧ rx_ST P K q) (hr : r ∈ P) {pc : Nat} {lv st : List Nat} {hp : rx_H} {x : rx_E} {o : rx_O} (hl : rx_look (rx_cd r) pc = some x)
    (hh : (x.2.2.2.1 = .ireturn ∧ rx_iret (rx_n r) st hp [] 0 0 = some [o]) ∨ (x.2.2.2.1 = .lreturn ∧ rx_lret (rx_n r) st hp [] 0 0 = some [o]) ∨ (x.2.2.2.1 = .return_ ∧ rx_vret (rx_n r) st hp [] 0 0 = some [o]) ∨ (x.2.2.2.1 = .areturn ∧ rx_aret (rx_n r) st hp [] 0 0 = some [o])) (hPo : Po o) : ax_Wp P K r (pc, lv, st, hp, [], 0, 0) Po := by
  refine ⟨o, ⟨1, ?_⟩, hPo⟩
  obtain ⟨⟨ch, hc1, hc2⟩, hpc⟩ := rx_look_ok hl
  obtain ⟨o1, o2, o3, o4, o5⟩ := (hP r hr).2 ch hc1 x hc2
  show rx_go P K (rx_run P K 0) (rx_run P K 0) (fun o => some [o]) r (pc, lv, st, hp, [], 0, 0) = some [o]
  unfold rx_go
  dsimp only
  rw [hl]
  dsimp only
  unfold rx_do
  rcases hh with ⟨h1, h2⟩ | ⟨h1, h2⟩ | ⟨h1, h2⟩ | ⟨h1, h2⟩
  · rw [o2, h1]
    show rx_out (fun o => some [o]) (rx_iret (rx_n r) st hp [] 0 0) = some [o]
    rw [h2]; rfl
  · rw [o2, h1]
    show rx_out (fun o => some [o]) (rx_lret (rx_n r) st hp [] 0 0) = some [o]
    rw [h2]; rfl
  · rw [o2, h1]
    show rx_out (fun o => some [o]) (rx_vret (rx_n r) st hp [] 0 0) = some [o]
    rw [h2]; rfl
  · rw [o2, h1]
    show rx_out (fun o => some [o]) (rx_aret (rx_n r) st hp [] 0 0) = some [o]
    rw [h2]; rfl
theorem ax_wp_call (hP : ∀ q ∈ P, rx_QW q ∧ rx_ST P K q) (hr : r ∈ P) {q : rx_M} {i : Nat} {as rest : List Nat} {σ : rx_S} {Po1 : rx_O → Prop} (hq : rx_nth P i = some q) (hc : rx_cal P r i σ = some (as, rest)) (h1 : ax_Wp P K q (rx_ent q as σ) Po1) (h2 : ∀ o, Po1 o → ax_Wp P K r (rx_bh q rest σ o) Po) : ax_Wp P K r σ Po := by
  obtain ⟨o, ⟨n1, k1⟩, k2⟩ := h1
  obtain ⟨o2, ⟨n2, m1⟩, m2⟩ := h2 o k2
  have hqP : q ∈ P := by rw [rx_nth_eq] at hq; exact List.mem_of_getElem? hq
  have k1' := ax_run_up hP hqP (Nat.le_max_left n1 n2) k1
  have m1' := ax_run_up hP hr (Nat.le_max_right n1 n2) m1
  refine ⟨o2, ⟨max n1 n2 + 1, ?_⟩, m2⟩
  obtain ⟨N, hN⟩ : ∃ N, max n1 n2 = N := ⟨_, rfl⟩
  rw [hN] at k1' m1' ⊢
  obtain ⟨pc, lv, st, hp, iv, cn, sn⟩ := σ
  unfold rx_cal at hc
  dsimp only at hc
  show rx_go P K (rx_run P K N) (rx_run P K N) (fun o => some [o]) r (pc, lv, st, hp, iv, cn, sn) = some [o2]
  unfold rx_go
  dsimp only
  cases hl : rx_look (rx_cd r) pc with
  | none => rw [hl] at hc; cases hc
  | some x =>
    rw [hl, hq] at hc
    dsimp only at hc ⊢
    cases hs : rx_spl (bif Nat.beq x.2.1 5 then rx_np (rx_n q) else Nat.succ (rx_np (rx_n q))) st [] with
    | none => rw [hs] at hc; cases hc
    | some w =>
      obtain ⟨as', rest'⟩ := w
      rw [hs] at hc
      dsimp only at hc
      obtain ⟨hb0, he⟩ := rx_cond hc
      cases he
      obtain ⟨b1, hb1⟩ := rx_and2.mp hb0
      obtain ⟨b2, hb2⟩ := rx_and2.mp hb1
      obtain ⟨b3, hb3⟩ := rx_and2.mp hb2
      obtain ⟨b4, hb4⟩ := rx_and2.mp hb3
      obtain ⟨b5, hb5⟩ := rx_and2.mp hb4
      obtain ⟨b6, b7⟩ := rx_and2.mp hb5
      have e2 : x.2.2.2.2.2.1 = i := rx_beq.mp b2
      have e3 : Nat.beq x.2.2.2.2.2.2.1 1 = false := by cases hz : Nat.beq x.2.2.2.2.2.2.1 1 with | true => rw [hz] at b3; cases b3 | false => rfl
      have e4 : Nat.beq x.2.2.2.2.2.2.1 2 = false := by cases hz : Nat.beq x.2.2.2.2.2.2.1 2 with | true => rw [hz] at b4; cases b4 | false => rfl
      have e5 : Nat.beq (Nat.mod x.2.2.2.2.2.2.1 4) 1 = false := by cases hz : Nat.beq (Nat.mod x.2.2.2.2.2.2.1 4) 1 with | true => rw [hz] at b5; cases b5 | false => rfl
      have key : ∀ stat : Bool, (stat = true ↔ Nat.beq x.2.1 5 = true) → rx_call stat P (rx_run P K N) (rx_run P K N) r pc x.2.2.2.2.2.1 x.2.2.2.2.2.2.1 lv st hp iv cn sn = some [o2] := by
        intro stat hst
        have hst' : stat = Nat.beq x.2.1 5 := by
          cases stat with
          | true => exact (hst.mp rfl).symm
          | false => cases hz : Nat.beq x.2.1 5 with | true => exact hst.mpr hz | false => rfl
        unfold rx_call
        rw [e3, e4, e5]
        dsimp only [cond_false]
        unfold rx_inv
        rw [e2, hq]
        dsimp only
        rw [hst', hs]
        show (bif (Nat.beq x.2.1 5 || rx_rcv hp (Nat.div x.2.2.2.2.2.2.1 4) as) && rx_cok (rx_n r) (rx_n q) as rest cn sn then rx_inv3 (rx_run P K N) (rx_run P K N) r q pc lv hp iv cn sn as rest else none) = some [o2]
        rw [show (Nat.beq x.2.1 5 || rx_rcv hp (Nat.div x.2.2.2.2.2.2.1 4) as) = true from b6, show rx_cok (rx_n r) (rx_n q) as rest cn sn = true from b7]
        show rx_inv3 (rx_run P K N) (rx_run P K N) r q pc lv hp iv cn sn as rest = some [o2]
        unfold rx_inv3
        rw [show rx_run P K N q (0, rx_args as (rx_mL (rx_n q)), [], hp, iv, 0, 0) = some [o] from k1']
        exact m1'
      unfold rx_do
      rcases rx_or2.mp b1 with hk | hk
      · rw [rx_beq.mp hk] at key ⊢
        exact key false (by decide)
      · rw [rx_beq.mp hk] at key ⊢
        exact key true (by decide)
theorem ax_wp_cpy (hP : ∀ q ∈ P, rx_QW q ∧ rx_ST P K q) (hr : r ∈ P) {pc : Nat} {lv st : List Nat} {hp : rx_H} {x : rx_E} {σ' : rx_S} (hl : rx_look (rx_cd r) pc = some x) (hk : rx_kd x.2.2.2.1 = 5) (hb : x.2.2.2.2.2.2.1 = 2) (hh : rx_cpy pc lv st hp [] 0 0 = some σ') (h40 : (Nat.ble 1 (rx_rf (rx_n r)) && Nat.ble 40 (rx_rl (rx_n r))) = true) (hW : ax_Wp P K r σ' Po) : ax_Wp P K r (pc, lv, st, hp, [], 0, 0) Po := by
  obtain ⟨o, ⟨n, h1⟩, h2⟩ := hW
  refine ⟨o, ⟨n + 1, ?_⟩, h2⟩
  obtain ⟨⟨ch, hc1, hc2⟩, hpc⟩ := rx_look_ok hl
  obtain ⟨o1, o2, o3, o4, o5⟩ := (hP r hr).2 ch hc1 x hc2
  have k5 : x.2.1 = 5 := o2.trans hk
  show rx_go P K (rx_run P K n) (rx_run P K n) (fun o => some [o]) r (pc, lv, st, hp, [], 0, 0) = some [o]
  rw [ax_go_x hl]
  unfold rx_do
  rw [k5, hb]
  show rx_inv2 (rx_run P K n) r pc lv st hp [] 0 0 = some [o]
  unfold rx_inv2
  rw [hh]
  dsimp only
  rw [h40]
  exact h1
theorem ax_wp_prim (hP : ∀ q ∈ P, rx_QW q ∧ rx_ST P K q) (hr : r ∈ P) {pc nb : Nat} {lv st st2 : List Nat} {hp : rx_H} {x : rx_E} (hl : rx_look (rx_cd r) pc = some x) (hk : rx_kd x.2.2.2.1 = 5) (hb : x.2.2.2.2.2.2.1 = nb) (h1 : nb ≠ 1) (h2 : nb ≠ 2) (h3 : nb % 4 = 1) (hh : rx_prim (nb / 4) st = some st2) (h40 : (Nat.ble 1 (rx_rf (rx_n r)) && Nat.ble 40 (rx_rl (rx_n r))) = true) (h9 : rx_cat st2 ≤ 9) (hW : ax_Wp P K r (Nat.add pc 3, lv, st2, hp, [], 0, 0) Po) : ax_Wp P K r (pc, lv, st, hp, [], 0, 0) Po := by
  obtain ⟨o, ⟨n, k1⟩, k2⟩ := hW
  refine ⟨o, ⟨n + 1, ?_⟩, k2⟩
  obtain ⟨⟨ch, hc1, hc2⟩, hpc⟩ := rx_look_ok hl
  obtain ⟨o1, o2, o3, o4, o5⟩ := (hP r hr).2 ch hc1 x hc2
  have k5 : x.2.1 = 5 := o2.trans hk
  show rx_go P K (rx_run P K n) (rx_run P K n) (fun o => some [o]) r (pc, lv, st, hp, [], 0, 0) = some [o]
  rw [ax_go_x hl]
  unfold rx_do
  rw [k5, hb]
  show rx_call true P (rx_run P K n) (rx_run P K n) r pc x.2.2.2.2.2.1 nb lv st hp [] 0 0 = _
  unfold rx_call
  rw [show Nat.beq nb 1 = false from Bool.eq_false_iff.mpr (fun z => h1 (rx_beq.mp z)), show Nat.beq nb 2 = false from Bool.eq_false_iff.mpr (fun z => h2 (rx_beq.mp z)), rx_beq.mpr (show Nat.mod nb 4 = 1 from h3)]
  show rx_invP (rx_run P K n) r pc (Nat.div nb 4) lv st hp [] 0 0 = _
  unfold rx_invP
  rw [show rx_prim (Nat.div nb 4) st = some st2 from hh]
  dsimp only
  obtain ⟨q1, q2⟩ := rx_and2.mp h40
  rw [q1, q2, rx_ble.mpr h9]
  exact k1
theorem ax_wp_primS (hP : ∀ q ∈ P, rx_QW q ∧ rx_ST P K q) (hr : r ∈ P) {pc nb : Nat} {lv st st2 : List Nat} {hp : rx_H} {x : rx_E} (hl : rx_look (rx_cd r) pc = some x) (hk : rx_kd x.2.2.2.1 = 4) (hb : x.2.2.2.2.2.2.1 = nb) (h1 : nb ≠ 1) (h2 : nb ≠ 2) (h3 : nb % 4 = 1) (hh : rx_primS (nb / 4) st = some st2) (h40 : (Nat.ble 8 (rx_rf (rx_n r)) && Nat.ble 400 (rx_rl (rx_n r))) = true) (h9 : rx_cat st2 ≤ 9) (hW : ax_Wp P K r (Nat.add pc 3, lv, st2, hp, [], 0, 0) Po) : ax_Wp P K r (pc, lv, st, hp, [], 0, 0) Po := by
  obtain ⟨o, ⟨n, k1⟩, k2⟩ := hW
  refine ⟨o, ⟨n + 1, ?_⟩, k2⟩
  obtain ⟨⟨ch, hc1, hc2⟩, hpc⟩ := rx_look_ok hl
  obtain ⟨o1, o2, o3, o4, o5⟩ := (hP r hr).2 ch hc1 x hc2
  have k5 : x.2.1 = 4 := o2.trans hk
  show rx_go P K (rx_run P K n) (rx_run P K n) (fun o => some [o]) r (pc, lv, st, hp, [], 0, 0) = some [o]
  rw [ax_go_x hl]
  unfold rx_do
  rw [k5, hb]
  show rx_call false P (rx_run P K n) (rx_run P K n) r pc x.2.2.2.2.2.1 nb lv st hp [] 0 0 = _
  unfold rx_call
  rw [show Nat.beq nb 1 = false from Bool.eq_false_iff.mpr (fun z => h1 (rx_beq.mp z)), show Nat.beq nb 2 = false from Bool.eq_false_iff.mpr (fun z => h2 (rx_beq.mp z)), rx_beq.mpr (show Nat.mod nb 4 = 1 from h3)]
  show rx_invS (rx_run P K n) r pc (Nat.div nb 4) lv st hp [] 0 0 = _
  unfold rx_invS
  rw [show rx_primS (Nat.div nb 4) st = some st2 from hh]
  dsimp only
  obtain ⟨q1, q2⟩ := rx_and2.mp h40
  rw [q1, q2, rx_ble.mpr h9]
  exact k1
/-- locals that are forgotten -/
theorem ax_wp_forget (hP : ∀ q ∈ P, rx_QW q ∧ rx_ST P K q) (hr : r ∈ P) {pc c s : Nat} {lv lv' st : List Nat} {hp : rx_H} {iv : rx_I} (hl : lv'.length = lv.length) (h : ∀ i v : Nat, lv'[i]? = some v → v ≠ 2 → lv[i]? = some v) (hW : ax_Wp P K r (pc, lv', st, hp, iv, c, s) Po) : ax_Wp P K r (pc, lv, st, hp, iv, c, s) Po := by
  obtain ⟨o, ⟨n, h1⟩, h2⟩ := hW
  exact ⟨o, ⟨n, rm_run hP n n (Nat.le_refl _) r hr pc lv' lv (st, hp, iv, c, s) [o] ⟨hl, h⟩ h1⟩, h2⟩
theorem ax_wp_mono {σ : rx_S} {Po Po' : rx_O → Prop} (h : ax_Wp P K r σ Po) (hi : ∀ o, Po o → Po' o) : ax_Wp P K r σ Po' := by
  obtain ⟨o, ⟨n, h1⟩, h2⟩ := h
  exact ⟨o, ⟨n, h1⟩, hi o h2⟩
/-- what is run on the machine -/
theorem ax_wp_at (hP : ∀ q ∈ P, rx_QW q ∧ rx_ST P K q) (hr : r ∈ P) {l : Launch} {cy : Nat → ClassId} {D : va_G} {σ : rx_S} (h : ax_Wp P K r σ Po) : ∃ o, rx_At l cy D r σ [o] ∧ Po o := by
  obtain ⟨o, ⟨n, h1⟩, h2⟩ := h
  exact ⟨o, rx_at_run hP hr h1, h2⟩
end AXX
-- the abstract program: code by 16, contracts
abbrev ax_M : Type := List (List ax_I) × List ax_C
abbrev ax_O : Type := Nat × ax_E
noncomputable def ax_findI (pc : Nat) (l : List ax_I) : Option ax_I := List.rec (motive := fun _ => Option ax_I) none (fun x _ ih => bif Nat.beq x.1 pc then some x else ih) l
noncomputable def ax_lookI (cd : List (List ax_I)) (pc : Nat) : Option ax_I := match rx_nth cd (Nat.div pc 16) with
  | some l => ax_findI pc l
  | none => none
noncomputable def ax_ret (o rk : Nat) (st : List Nat) (E : ax_E) : Option ax_O := match st with
  | [] => bif Nat.beq o 28 && Nat.beq rk 0 then some (2, E) else none
  | [v] => bif Nat.beq o 26 then (match ax_iv E v with
      | some i => bif Nat.beq rk 1 || (Nat.beq rk 2 && (Nat.ble 2147483648 i.1 && Nat.ble i.2 2147483649)) then some (v, E) else none
      | none => none)
    else bif Nat.beq o 27 then (bif Nat.beq rk 3 && ax_isK E 1 v then some (v, E) else none)
    else bif Nat.beq o 29 && (Nat.beq rk 4 && ax_isR E v) then some (v, E) else none
  | _ => none
noncomputable def ax_posts (w : ax_W) (E : ax_E) (m : List (Nat × Nat)) (n0 : Nat) (md : List (Nat × Nat)) (ps : List ax_T) : Option (List ax_O) := List.rec (motive := fun _ => Option (List ax_O)) (some []) (fun po _ ih => match ax_post w E m n0 md po, ih with
  | some q, some r => some (q :: r)
  | _, _ => none) ps
noncomputable def ax_tr1 (w : ax_W) (E : ax_E) (md : List (Nat × Nat)) (as : List Nat) (C : ax_C) : Option (List ax_O) := match ax_match w E 0 C.1 as with
  | some m => bif C.2.1.all (fun x => ax_mem md x.1 x.2) then ax_posts w E m (ax_n C.1.2) C.2.1 C.2.2 else none
  | none => none
noncomputable def ax_try (w : ax_W) (E : ax_E) (md : List (Nat × Nat)) (as : List Nat) (cs : List ax_C) : Option (List ax_O) := List.rec (motive := fun _ => Option (List ax_O)) none (fun C _ ih => match ax_tr1 w E md as C with
  | some l => some l
  | none => ih) cs
/-- there is room for a call -/
noncomputable def ax_cok (E : ax_E) (r q : rx_N) (as rest : List Nat) : Bool := Nat.ble (ax_cat E rest) 8 && (Nat.ble (Nat.succ (rx_rf q)) (rx_rf r) && (Nat.ble (Nat.add (Nat.add 19 (rx_mL q)) (rx_rl q)) (rx_rl r) && (Nat.ble (rx_rc q) (rx_rc r) && (Nat.ble (rx_rs q) (rx_rs r) && (Nat.ble (ax_cat E as) (rx_mL q) && (Nat.beq (rx_rc q) 0 && Nat.beq (rx_rs q) 0))))))
noncomputable def ax_rcv (w : ax_W) (E : ax_E) (ci : Nat) (as : List Nat) : Bool := match as with
  | v :: _ => (match ax_rg w E v with
    | some g => (match rx_nth w.2.1 g with
      | some z => Nat.beq z.1 ci
      | none => false)
    | none => false)
  | [] => false
noncomputable def ax_aft {β : Type} (f : ax_A → Option (List β)) (rk pc : Nat) (lv rest : List Nat) (o : ax_O) : Option (List β) := f (Nat.add pc 3, lv, (bif Nat.beq rk 0 then rest else o.1 :: rest), o.2)
noncomputable def ax_outs {β : Type} (f : ax_A → Option (List β)) (rk pc : Nat) (lv rest : List Nat) (os : Option (List ax_O)) : Option (List β) := match os with
  | some l => rx_all (ax_aft f rk pc lv rest) l
  | none => none
noncomputable def ax_inv {β : Type} (w : ax_W) (AP : List ax_M) (md : List (Nat × Nat)) (g : rx_N → List (List ax_I) → ax_A → Option (List ax_O)) (f : ax_A → Option (List β)) (na : Nat) (q : rx_N) (pc : Nat) (lv : List Nat) (E : ax_E) (as rest : List Nat) : Option (List β) := match rx_nth AP na with
  | some (cd, cs) => ax_outs f (rx_rk q) pc lv rest (bif ax_nil cs then g q cd (0, ax_args E as (rx_mL q), [], E) else ax_try w E md as cs)
  | none => none
noncomputable def ax_cpy (w : ax_W) (md : List (Nat × Nat)) (pc : Nat) (lv st : List Nat) (E : ax_E) : Option ax_A := match st with
  | n :: dp :: d :: sp :: q :: st' => bif Nat.beq dp 0 && Nat.beq sp 0 then (match ax_rg w E d, ax_rg w E q with
    | some g, some h => (match rx_nth w.2.1 g with
      | some (k, len, _) => bif Nat.beq g h && (Nat.beq k 13 && (Nat.beq n (rx_int len) && (Nat.blt len 100000 && (Nat.ble (ax_cat E st') 8 && ax_mem md g 999)))) then some (Nat.add pc 3, lv, st', (E.1, E.2.1, ax_mkill w E [(g, 999)], ax_df E, ax_xkill w (ax_xf E) [(g, 999)])) else none
      | none => none)
    | _, _ => none) else none
  | _ => none
/-- Math.max, Math.min -/
noncomputable def ax_prim (k : Nat) (st : List Nat) (E : ax_E) : Option (List Nat × ax_E) := match st with
  | y :: x :: st' => (match ax_iv E x, ax_iv E y with
    | some ix, some iy => (match (bif Nat.beq k 1 then some (ax_val E (0, ax_max ix.1 iy.1, ax_max ix.2 iy.2)) else bif Nat.beq k 2 then some (ax_val E (0, ax_min ix.1 iy.1, ax_min ix.2 iy.2)) else none) with
      | some q => some (q.1 :: st', ax_addX q.2 (Nat.add 1039 k, [x, y, q.1, 0, 0]))
      | none => none)
    | _, _ => none)
  | _ => none
/-- of words -/
noncomputable def ax_primS (k : Nat) (st : List Nat) (E : ax_E) : Option (List Nat × ax_E) := match st with
  | v :: st' => bif Nat.beq k 3 then (match rx_wrd v with
      | some l => some (rx_int (rx_len l) :: st', E)
      | none => none)
    else bif Nat.beq k 4 then (match st' with
      | a :: st2 => (match rx_wrd a, ax_iv E v with
        | some l, some i => bif ax_inr i (rx_len l) && l.all (fun c => Nat.blt c 256) then some ((ax_val E (0, 2147483648, 2147483903)).1 :: st2, ax_addX (ax_val E (0, 2147483648, 2147483903)).2 (1042, [a, v, (ax_val E (0, 2147483648, 2147483903)).1, 0, 0])) else none
        | _, _ => none)
      | [] => none)
    else none
  | [] => none
noncomputable def ax_cl {β : Type} (w : ax_W) (P : List rx_M) (AP : List ax_M) (md : List (Nat × Nat)) (g : rx_N → List (List ax_I) → ax_A → Option (List ax_O)) (f : ax_A → Option (List β)) (rn : rx_N) (o na nb pc : Nat) (lv st : List Nat) (E : ax_E) : Option (List β) :=
  bif Nat.beq nb 1 then none
  else bif Nat.beq nb 2 then (bif Nat.beq o 31 && (Nat.ble 1 (rx_rf rn) && Nat.ble 40 (rx_rl rn)) then (match ax_cpy w md pc lv st E with
    | some a => f a
    | none => none) else none)
  else bif Nat.beq (Nat.mod nb 4) 1 then (bif Nat.beq o 31 && (Nat.ble 1 (rx_rf rn) && Nat.ble 40 (rx_rl rn)) then (match ax_prim (Nat.div nb 4) st E with
    | some (st2, E2) => bif Nat.ble (ax_cat E2 st2) 9 then f (Nat.add pc 3, lv, st2, E2) else none
    | none => none) else bif Nat.beq o 30 && (Nat.ble 8 (rx_rf rn) && Nat.ble 400 (rx_rl rn)) then (match ax_primS (Nat.div nb 4) st E with
    | some (st2, E2) => bif Nat.ble (ax_cat E2 st2) 9 then f (Nat.add pc 3, lv, st2, E2) else none
    | none => none) else none)
  else (match rx_nth P na with
    | some q => (match rx_spl (bif Nat.beq o 31 then rx_np (rx_n q) else Nat.succ (rx_np (rx_n q))) st [] with
      | some (as, rest) => bif (Nat.beq o 31 || ax_rcv w E (Nat.div nb 4) as) && ax_cok E rn (rx_n q) as rest then ax_inv w AP md g f na (rx_n q) pc lv E as rest else none
      | none => none)
    | none => none)
/-- one instruction -/
noncomputable def ax_go {β : Type} (w : ax_W) (P : List rx_M) (K : rx_K) (AP : List ax_M) (md : List (Nat × Nat)) (g : rx_N → List (List ax_I) → ax_A → Option (List ax_O)) (f : ax_A → Option (List β)) (z : ax_O → Option (List β)) (rn : rx_N) (cd : List (List ax_I)) (a : ax_A) : Option (List β) := match ax_lookI cd a.1 with
  | some x => bif Nat.ble x.2.1 25 then (match ax_step w K md (rx_mL rn) a.1 x.2.1 x.2.2.1 x.2.2.2.1 x.2.2.2.2.1 x.2.2.2.2.2.1 x.2.2.2.2.2.2 a.2.1 a.2.2.1 a.2.2.2 with
      | some l => rx_all f l
      | none => none)
    else bif Nat.ble x.2.1 29 then (match ax_ret x.2.1 (rx_rk rn) a.2.2.1 a.2.2.2 with
      | some o => z o
      | none => none)
    else ax_cl w P AP md g f rn x.2.1 x.2.2.2.2.1 x.2.2.2.2.2.1 a.1 a.2.1 a.2.2.1 a.2.2.2
  | none => none
/-- a method is run inline -/
noncomputable def ax_rn (w : ax_W) (P : List rx_M) (K : rx_K) (AP : List ax_M) (md : List (Nat × Nat)) (n : Nat) : rx_N → List (List ax_I) → ax_A → Option (List ax_O) := Nat.rec (fun _ _ _ => none) (fun _ ih rn cd a => ax_go w P K AP md ih (ih rn cd) (fun o => some [o]) rn cd a) n
noncomputable def ax_ctl (ins : Instr) : Option Nat := match ins with
  | .ireturn => some 26 | .lreturn => some 27 | .return_ => some 28 | .areturn => some 29 | .invokevirtual _ => some 30 | .invokespecial _ => some 30 | .invokestatic _ => some 31 | _ => none
/-- the abstract code is the method's -/
noncomputable def ax_tab (r : rx_M) (cd : List (List ax_I)) : Prop := ∀ ch ∈ cd, ∀ x ∈ ch, ∃ y, rx_look (rx_cd r) x.1 = some y ∧ y.2.2.2.2.2.1 = x.2.2.2.2.1 ∧ y.2.2.2.2.2.2.1 = x.2.2.2.2.2.1 ∧ ((x.2.1 ≤ 25 ∧ ax_num x.1 y.2.2.2.1 = some (x.2.1, x.2.2.1, x.2.2.2.1, x.2.2.2.2.2.2) ∧ (x.2.1 = 21 → x.2.2.2.2.2.2 ≠ [])) ∨ (25 < x.2.1 ∧ ax_ctl y.2.2.2.1 = some x.2.1))
end
