/-! An abstract interpreter over the interpreter, for the kernel to run. Values are codes as before; 4 k + 3 is the k-th symbol, of which a type is known. -/
/-- a type: 0: an int between two numbers (each 2^31 more); 1: a long; 2: a reference into a region; 3: this value alone -/
abbrev ax_Y : Type := Nat × Nat × Nat
/-- the world: the region of each place; of each region the kind of its cells, their length, and types from an index on; of each named fact the (region, index) it stands on (index 999: all) -/
abbrev ax_W : Type := List Nat × List (Nat × Nat × List (Nat × ax_Y)) × List (List (Nat × Nat))
/-- a named fact: its name, and the values that it speaks of -/
abbrev ax_N : Type := Nat × List Nat
/-- what is known: how many symbols, their types (the newest first), contents of cells (reference, index, value), sums (p, q, r: p + q = r), named facts -/
abbrev ax_E : Type := Nat × List ax_Y × List (Nat × Nat × Nat) × List (Nat × Nat × Nat) × List ax_N
/-- what names stand for -/
abbrev ax_X : Type := Nat → List Nat → rx_H → Prop
/-- pc, locals, stack, what is known -/
abbrev ax_A : Type := Nat × List Nat × List Nat × ax_E
noncomputable def ax_n (E : ax_E) : Nat := E.1
noncomputable def ax_ty (E : ax_E) : List ax_Y := E.2.1
noncomputable def ax_fs (E : ax_E) : List (Nat × Nat × Nat) := E.2.2.1
noncomputable def ax_df (E : ax_E) : List (Nat × Nat × Nat) := E.2.2.2.1
noncomputable def ax_xf (E : ax_E) : List ax_N := E.2.2.2.2
/-- the type of a value -/
noncomputable def ax_typ (E : ax_E) (v : Nat) : Option ax_Y :=
  bif Nat.beq (rx_tk v) 3 then (bif Nat.blt (rx_pl v) (ax_n E) then rx_nth (ax_ty E) (Nat.sub (Nat.sub (ax_n E) 1) (rx_pl v)) else none)
  else bif Nat.beq (rx_tk v) 0 then (bif Nat.blt (rx_pl v) 4294967296 then some (0, rx_bi (rx_pl v), rx_bi (rx_pl v)) else none)
  else bif Nat.beq (rx_tk v) 1 then some (1, 0, 0) else some (3, v, v)
noncomputable def ax_iv (E : ax_E) (v : Nat) : Option (Nat × Nat) := match ax_typ E v with
  | some t => bif Nat.beq t.1 0 then some t.2 else none
  | none => none
/-- the region of a reference -/
noncomputable def ax_rg (w : ax_W) (E : ax_E) (v : Nat) : Option Nat := match ax_typ E v with
  | some t => bif Nat.beq t.1 2 then some t.2.1 else bif Nat.beq t.1 3 && (Nat.beq (rx_tk t.2.1) 2 && (Nat.ble 2 (rx_pl t.2.1) && Nat.blt (rx_pl t.2.1) 258)) then rx_nth w.1 (Nat.sub (rx_pl t.2.1) 2) else none
  | none => none
noncomputable def ax_sym (k : Nat) : Nat := Nat.add (Nat.mul 4 k) 3
/-- a new symbol -/
noncomputable def ax_new (E : ax_E) (t : ax_Y) : ax_E := (Nat.succ E.1, t :: E.2.1, E.2.2)
/-- a value of a type: a constant if it can only be one -/
noncomputable def ax_val (E : ax_E) (t : ax_Y) : Nat × ax_E :=
  bif Nat.beq t.1 0 && Nat.beq t.2.1 t.2.2 then (rx_int (rx_bi t.2.1), E)
  else bif Nat.beq t.1 3 then (t.2.1, E)
  else (ax_sym (ax_n E), ax_new E t)
noncomputable def ax_addF (E : ax_E) (f : Nat × Nat × Nat) : ax_E := (E.1, E.2.1, f :: E.2.2.1, E.2.2.2)
noncomputable def ax_addD (E : ax_E) (d : Nat × Nat × Nat) : ax_E := (E.1, E.2.1, E.2.2.1, d :: E.2.2.2.1, E.2.2.2.2)
noncomputable def ax_addX (E : ax_E) (x : ax_N) : ax_E := (E.1, E.2.1, E.2.2.1, E.2.2.2.1, x :: E.2.2.2.2)
/-- the type from an index on -/
noncomputable def ax_at (l : List (Nat × ax_Y)) (i : Nat) : Option ax_Y := List.rec (motive := fun _ => Option ax_Y) none (fun x _ ih => match ih with
  | some t => some t
  | none => bif Nat.ble x.1 i then some x.2 else none) l
noncomputable def ax_min (a b : Nat) : Nat := bif Nat.ble a b then a else b
noncomputable def ax_max (a b : Nat) : Nat := bif Nat.ble a b then b else a
noncomputable def ax_eqY (s t : ax_Y) : Bool := Nat.beq s.1 t.1 && (Nat.beq s.2.1 t.2.1 && Nat.beq s.2.2 t.2.2)
noncomputable def ax_join (s t : ax_Y) : Option ax_Y := bif Nat.beq s.1 0 && Nat.beq t.1 0 then some (0, ax_min s.2.1 t.2.1, ax_max s.2.2 t.2.2) else bif ax_eqY s t then some s else none
/-- a type of all that lies between two indices -/
noncomputable def ax_hull (l : List (Nat × ax_Y)) (a b : Nat) : Option ax_Y := List.rec (motive := fun _ => Option ax_Y) (ax_at l a) (fun x _ ih => bif Nat.blt a x.1 && Nat.ble x.1 b then (match ih with
  | some t => ax_join x.2 t
  | none => none) else ih) l
/-- whatever is of type t is of type s -/
noncomputable def ax_sub (w : ax_W) (t s : ax_Y) : Bool :=
  bif Nat.beq s.1 0 then Nat.beq t.1 0 && (Nat.ble s.2.1 t.2.1 && Nat.ble t.2.2 s.2.2)
  else bif Nat.beq s.1 1 then Nat.beq t.1 1
  else bif Nat.beq s.1 2 then (bif Nat.beq t.1 2 then Nat.beq t.2.1 s.2.1 else Nat.beq t.1 3 && (Nat.beq (rx_tk t.2.1) 2 && (Nat.ble 2 (rx_pl t.2.1) && (Nat.blt (rx_pl t.2.1) 258 && (match rx_nth w.1 (Nat.sub (rx_pl t.2.1) 2) with
    | some g => Nat.beq g s.2.1
    | none => false)))))
  else Nat.beq s.1 3 && (Nat.beq t.1 3 && Nat.beq t.2.1 s.2.1)
/-- whatever is of type t may lie at all indices between two -/
noncomputable def ax_fits (w : ax_W) (t : ax_Y) (l : List (Nat × ax_Y)) (a b : Nat) : Bool := (match ax_at l a with
  | some s => ax_sub w t s
  | none => false) && l.all (fun x => !(Nat.blt a x.1 && Nat.ble x.1 b) || ax_sub w t x.2)
/-- what is known of a cell's content -/
noncomputable def ax_get (fs : List (Nat × Nat × Nat)) (a i : Nat) : Option Nat := List.rec (motive := fun _ => Option Nat) none (fun x _ ih => bif Nat.beq x.1 a && Nat.beq x.2.1 i then some x.2.2 else ih) fs
noncomputable def ax_cst (v : Nat) : Bool := !(Nat.beq (rx_tk v) 3)
/-- two cells are not the same one -/
noncomputable def ax_apart (w : ax_W) (E : ax_E) (a b : Nat) : Bool := (ax_cst a && (ax_cst b && !(Nat.beq a b))) || (match ax_rg w E a, ax_rg w E b with
  | some g, some h => !(Nat.beq g h)
  | _, _ => false)
/-- behind a write to cell a at index i -/
noncomputable def ax_kill (w : ax_W) (E : ax_E) (a i : Nat) : List (Nat × Nat × Nat) := (ax_fs E).filter (fun x => (ax_cst i && (ax_cst x.2.1 && !(Nat.beq i x.2.1))) || ax_apart w E a x.1)
/-- an index (of a region) is one of these -/
noncomputable def ax_mem (md : List (Nat × Nat)) (g i : Nat) : Bool := md.any (fun x => Nat.beq x.1 g && (Nat.beq x.2 i || Nat.beq x.2 999))
/-- named facts that stand on nothing that is written (1000 and on: on no cell at all; 500 and on: on all) -/
noncomputable def ax_xkill (w : ax_W) (xf : List ax_N) (md : List (Nat × Nat)) : List ax_N := xf.filter (fun x => (Nat.ble 1000 x.1 && Nat.blt x.1 1200) || (Nat.blt x.1 500 && (match rx_nth w.2.2 x.1 with
  | some dl => dl.all (fun d => !(md.any (fun y => Nat.beq y.1 d.1 && (Nat.beq y.2 d.2 || (Nat.beq y.2 999 || Nat.beq d.2 999)))))
  | none => false)))
/-- facts that were told of the heap behind this write -/
noncomputable def ax_wx1 (a i v : Nat) (x : ax_N) : List ax_N := bif Nat.ble 500 x.1 && Nat.blt x.1 1000 then (match x.2 with
  | b :: j :: u :: r => bif Nat.beq a b && (Nat.beq i j && Nat.beq v u) then [(Nat.sub x.1 500, r)] else []
  | _ => []) else []
noncomputable def ax_wx (xf : List ax_N) (a i v : Nat) : List ax_N := List.rec (motive := fun _ => List ax_N) [] (fun x _ ih => ax_wx1 a i v x ++ ih) xf
noncomputable def ax_idx (i : Nat) : Nat := bif ax_cst i then rx_pl i else 999
/-- cell a (of region g) is written at i with v -/
noncomputable def ax_wr (w : ax_W) (E : ax_E) (g a i v : Nat) : ax_E := (E.1, E.2.1, (a, i, v) :: ax_kill w E a i, ax_df E, ax_wx (ax_xf E) a i v ++ ax_xkill w (ax_xf E) [(g, ax_idx i)])
-- numbers
noncomputable def ax_full : Nat × Nat := (0, 4294967295)
noncomputable def ax_ge (a : Nat) : Bool := Nat.ble 2147483648 a
noncomputable def ax_b_add (x y : Nat × Nat) : Nat × Nat := bif Nat.ble 2147483648 (Nat.add x.1 y.1) && Nat.blt (Nat.add x.2 y.2) 6442450944 then (Nat.sub (Nat.add x.1 y.1) 2147483648, Nat.sub (Nat.add x.2 y.2) 2147483648) else ax_full
noncomputable def ax_b_sub (x y : Nat × Nat) : Nat × Nat := bif Nat.ble y.2 (Nat.add x.1 2147483648) && Nat.blt (Nat.add x.2 2147483648) (Nat.add y.1 4294967296) then (Nat.sub (Nat.add x.1 2147483648) y.2, Nat.sub (Nat.add x.2 2147483648) y.1) else ax_full
noncomputable def ax_b_mul (x y : Nat × Nat) : Nat × Nat := bif ax_ge x.1 && (ax_ge y.1 && Nat.blt (Nat.mul (Nat.sub x.2 2147483648) (Nat.sub y.2 2147483648)) 2147483648) then (Nat.add (Nat.mul (Nat.sub x.1 2147483648) (Nat.sub y.1 2147483648)) 2147483648, Nat.add (Nat.mul (Nat.sub x.2 2147483648) (Nat.sub y.2 2147483648)) 2147483648) else ax_full
noncomputable def ax_b_and (x y : Nat × Nat) : Nat × Nat := bif ax_ge y.1 then (2147483648, y.2) else bif ax_ge x.1 then (2147483648, x.2) else ax_full
noncomputable def ax_b_shr (x y : Nat × Nat) : Nat × Nat := bif ax_ge x.1 && (Nat.beq y.1 y.2 && (ax_ge y.1 && Nat.blt y.1 2147483680)) then (Nat.add (Nat.div (Nat.sub x.1 2147483648) (Nat.pow 2 (Nat.sub y.1 2147483648))) 2147483648, Nat.add (Nat.div (Nat.sub x.2 2147483648) (Nat.pow 2 (Nat.sub y.1 2147483648))) 2147483648) else ax_full
noncomputable def ax_n0 (y : Nat × Nat) : Bool := Nat.blt 2147483648 y.1 || Nat.blt y.2 2147483648
noncomputable def ax_b_div (x y : Nat × Nat) : Option (Nat × Nat) := bif ax_ge x.1 && Nat.blt 2147483648 y.1 then some (Nat.add (Nat.div (Nat.sub x.1 2147483648) (Nat.sub y.2 2147483648)) 2147483648, Nat.add (Nat.div (Nat.sub x.2 2147483648) (Nat.sub y.1 2147483648)) 2147483648) else bif ax_n0 y then some ax_full else none
noncomputable def ax_b_rem (x y : Nat × Nat) : Option (Nat × Nat) := bif ax_ge x.1 && Nat.blt 2147483648 y.1 then some (2147483648, ax_min x.2 (Nat.pred y.2)) else bif ax_n0 y then some ax_full else none
/-- 0 add, 1 sub, 2 mul, 3 and, 4 or, 5 xor, 6 shl, 7 shr, 8 ushr, 9 div, 10 rem -/
noncomputable def ax_bop (o : Nat) (x y : Nat × Nat) : Option (Nat × Nat) :=
  bif Nat.beq o 0 then some (ax_b_add x y) else bif Nat.beq o 1 then some (ax_b_sub x y) else bif Nat.beq o 2 then some (ax_b_mul x y) else bif Nat.beq o 3 then some (ax_b_and x y)
  else bif Nat.beq o 7 then some (ax_b_shr x y) else bif Nat.beq o 9 then ax_b_div x y else bif Nat.beq o 10 then ax_b_rem x y else bif Nat.ble o 8 then some ax_full else none
/-- whether a sum, a difference is exact -/
noncomputable def ax_exact (o : Nat) (x y : Nat × Nat) : Bool := bif Nat.beq o 0 then Nat.ble 2147483648 (Nat.add x.1 y.1) && Nat.blt (Nat.add x.2 y.2) 6442450944 else Nat.beq o 1 && (Nat.ble y.2 (Nat.add x.1 2147483648) && Nat.blt (Nat.add x.2 2147483648) (Nat.add y.1 4294967296))
/-- a sum or difference that is known already -/
noncomputable def ax_vn (df : List (Nat × Nat × Nat)) (o x y : Nat) : Option Nat := List.rec (motive := fun _ => Option Nat) none (fun d _ ih => bif Nat.beq o 0 then (bif Nat.beq d.1 x && Nat.beq d.2.1 y then some d.2.2 else ih) else (bif Nat.beq d.2.1 y && Nat.beq d.2.2 x then some d.1 else ih)) df
/-- a number of two that is known already -/
noncomputable def ax_vx1 (l : List Nat) (x y : Nat) (z : Option Nat) : Option Nat := match l with
  | [p, q, r] => bif Nat.beq p x && Nat.beq q y then some r else z
  | _ => z
noncomputable def ax_vx (xf : List ax_N) (o x y : Nat) : Option Nat := List.rec (motive := fun _ => Option Nat) none (fun n _ ih => bif Nat.beq n.1 (Nat.add 1000 o) then ax_vx1 n.2 x y ih else ih) xf
noncomputable def ax_bin2 (E : ax_E) (o x y : Nat) (ex : Bool) (q : Nat × ax_E) : Nat × ax_E := bif ex then (q.1, ax_addD q.2 (bif Nat.beq o 0 then (x, y, q.1) else (q.1, y, x))) else bif ax_cst q.1 then q else (q.1, ax_addX q.2 (Nat.add 1000 o, [x, y, q.1]))
noncomputable def ax_bin1 (E : ax_E) (o x y : Nat) (ix iy : Nat × Nat) : Option (Nat × ax_E) := match ax_bop o ix iy with
  | some r => some (ax_bin2 E o x y (ax_exact o ix iy) (ax_val E (0, r)))
  | none => none
/-- a number of two -/
noncomputable def ax_bin (E : ax_E) (o x y : Nat) : Option (Nat × ax_E) := match ax_iv E x, ax_iv E y with
  | some ix, some iy => (bif Nat.ble o 1 then (match ax_vn (ax_df E) o x y with
    | some z => some (z, E)
    | none => ax_bin1 E o x y ix iy) else (match ax_vx (ax_xf E) o x y with
    | some z => some (z, E)
    | none => ax_bin1 E o x y ix iy))
  | _, _ => none
-- refinements: none says that it can't be
noncomputable def ax_setT (E : ax_E) (k : Nat) (t : ax_Y) : ax_E := (E.1, rx_upd E.2.1 (Nat.sub (Nat.sub E.1 1) k) t, E.2.2)
noncomputable def ax_ref2 (E : ax_E) (v : Nat) (a b : Nat) : Option ax_E := bif Nat.ble a b then some (bif Nat.beq (rx_tk v) 3 then ax_setT E (rx_pl v) (0, a, b) else E) else none
noncomputable def ax_ref1 (E : ax_E) (v lo hi : Nat) : Option ax_E := match ax_iv E v with
  | some i => ax_ref2 E v (ax_max i.1 lo) (ax_min i.2 hi)
  | none => some E
noncomputable def ax_bind (o : Option ax_E) (f : ax_E → Option ax_E) : Option ax_E := match o with
  | some E => f E
  | none => none
noncomputable def ax_tri1 (E : ax_E) (p q r : Nat) : Option ax_E := match ax_iv E p, ax_iv E q, ax_iv E r with
  | some ip, some iq, some ir => ax_bind (ax_ref1 E p (Nat.sub (Nat.add ir.1 2147483648) iq.2) (Nat.sub (Nat.add ir.2 2147483648) iq.1)) (fun E1 => ax_bind (ax_ref1 E1 q (Nat.sub (Nat.add ir.1 2147483648) ip.2) (Nat.sub (Nat.add ir.2 2147483648) ip.1)) (fun E2 => ax_ref1 E2 r (Nat.sub (Nat.add ip.1 iq.1) 2147483648) (Nat.sub (Nat.add ip.2 iq.2) 2147483648)))
  | _, _, _ => some E
noncomputable def ax_prop (E : ax_E) (v : Nat) : Option ax_E := List.rec (motive := fun _ => Option ax_E) (some E) (fun d _ ih => ax_bind ih (fun E1 => bif Nat.beq d.1 v || (Nat.beq d.2.1 v || Nat.beq d.2.2 v) then ax_tri1 E1 d.1 d.2.1 d.2.2 else some E1)) (ax_df E)
noncomputable def ax_refine (E : ax_E) (v lo hi : Nat) : Option ax_E := bif Nat.beq (rx_tk v) 3 then ax_bind (ax_ref1 E v lo hi) (fun E1 => ax_prop E1 v) else ax_ref1 E v lo hi
/-- x + s ≤ y -/
noncomputable def ax_asLe (E : ax_E) (x y s : Nat) : Option ax_E := match ax_iv E x, ax_iv E y with
  | some ix, some iy => bif Nat.ble s iy.2 then ax_bind (ax_refine E x 0 (Nat.sub iy.2 s)) (fun E1 => ax_refine E1 y (Nat.add ix.1 s) 4294967295) else none
  | _, _ => some E
noncomputable def ax_asEq (E : ax_E) (x y : Nat) : Option ax_E := match ax_iv E x, ax_iv E y with
  | some ix, some iy => ax_bind (ax_refine E x iy.1 iy.2) (fun E1 => ax_refine E1 y ix.1 ix.2)
  | _, _ => some E
noncomputable def ax_lst (o : Option ax_E) : List ax_E := match o with
  | some E => [E]
  | none => []
noncomputable def ax_ne1 (E : ax_E) (x c : Nat) : List ax_E := (bif Nat.blt 0 c then ax_lst (ax_refine E x 0 (Nat.pred c)) else []) ++ ax_lst (ax_refine E x (Nat.succ c) 4294967295)
noncomputable def ax_asNe (E : ax_E) (x y : Nat) : List ax_E := match ax_iv E x, ax_iv E y with
  | some ix, some iy => bif Nat.beq iy.1 iy.2 then ax_ne1 E x iy.1 else bif Nat.beq ix.1 ix.2 then ax_ne1 E y ix.1 else [E]
  | _, _ => [E]
/-- a condition holds, or doesn't: 0 eq, 1 ne, 2 lt, 3 ge, 4 gt, 5 le -/
noncomputable def ax_yes (E : ax_E) (k x y : Nat) : List ax_E := bif Nat.beq k 0 then ax_lst (ax_asEq E x y) else bif Nat.beq k 1 then ax_asNe E x y else bif Nat.beq k 2 then ax_lst (ax_asLe E x y 1) else bif Nat.beq k 3 then ax_lst (ax_asLe E y x 0) else bif Nat.beq k 4 then ax_lst (ax_asLe E y x 1) else ax_lst (ax_asLe E x y 0)
noncomputable def ax_not (k : Nat) : Nat := bif Nat.beq k 0 then 1 else bif Nat.beq k 1 then 0 else bif Nat.beq k 2 then 3 else bif Nat.beq k 3 then 2 else bif Nat.beq k 4 then 5 else 4
noncomputable def ax_isK (E : ax_E) (k v : Nat) : Bool := match ax_typ E v with
  | some t => Nat.beq t.1 k
  | none => false
noncomputable def ax_isR (E : ax_E) (v : Nat) : Bool := match ax_typ E v with
  | some t => Nat.beq t.1 2 || (Nat.beq t.1 3 && (Nat.beq (rx_tk t.2.1) 2 && Nat.blt 0 (rx_pl t.2.1)))
  | none => false
noncomputable def ax_low (E : ax_E) (lv : List Nat) (i : Nat) : List Nat := Nat.casesOn i lv (fun j => match rx_nth lv j with
  | some v => bif ax_isK E 1 v then rx_upd lv j 2 else lv
  | none => lv)
noncomputable def ax_args (E : ax_E) (as : List Nat) : Nat → List Nat := List.rec (motive := fun _ => Nat → List Nat) (fun n => List.replicate n 2) (fun v _ ih n => bif ax_isK E 1 v then v :: 2 :: ih (n - 2) else v :: ih (n - 1)) as
noncomputable def ax_cat (E : ax_E) (st : List Nat) : Nat := List.rec (motive := fun _ => Nat) 0 (fun v _ n => bif ax_isK E 1 v then Nat.add n 2 else Nat.succ n) st
noncomputable def ax_psh (pc : Nat) (lv st : List Nat) (q : Option (Nat × ax_E)) : Option (List ax_A) := match q with
  | some (v, E) => some [(pc, lv, v :: st, E)]
  | none => none
/-- content of a cell is read -/
noncomputable def ax_rd (w : ax_W) (E : ax_E) (a i : Nat) (t : Option ax_Y) : Option (Nat × ax_E) := match ax_get (ax_fs E) a i with
  | some v => some (v, E)
  | none => (match t with
    | some y => some ((ax_val E y).1, ax_addF (ax_val E y).2 (a, i, (ax_val E y).1))
    | none => none)
noncomputable def ax_h_gf (w : ax_W) (pc na nb : Nat) (lv st : List Nat) (E : ax_E) : Option (List ax_A) := match st with
  | a :: st' => (match ax_rg w E a with
    | some g => (match rx_nth w.2.1 g with
      | some (k, n, l) => bif Nat.beq k na && Nat.blt nb n then ax_psh (Nat.add pc 3) lv st' (ax_rd w E a (rx_int nb) (ax_at l nb)) else none
      | none => none)
    | none => none)
  | [] => none
noncomputable def ax_h_pf (w : ax_W) (K : rx_K) (md : List (Nat × Nat)) (pc na nb : Nat) (lv st : List Nat) (E : ax_E) : Option (List ax_A) := match st with
  | v :: a :: st' => (match ax_rg w E a, ax_typ E v with
    | some g, some t => (match rx_nth w.2.1 g with
      | some (k, n, l) => bif Nat.beq k na && (Nat.blt nb n && (ax_fits w t l nb nb && ax_mem md g nb)) then (match rx_nth K.2 na with
        | some ks => (match rx_nth ks nb with
          | some kd => bif (Nat.beq kd 0 && Nat.beq t.1 0) || ((Nat.beq kd 1 && (Nat.beq t.1 0 && (Nat.ble 2147483648 t.2.1 && Nat.ble t.2.2 2147483649))) || (Nat.beq kd 2 && ax_isR E v)) then some [(Nat.add pc 3, lv, st', ax_wr w E g a (rx_int nb) v)] else none
          | none => none)
        | none => none) else none
      | none => none)
    | _, _ => none)
  | _ => none
noncomputable def ax_inr (i : Nat × Nat) (n : Nat) : Bool := ax_ge i.1 && Nat.blt i.2 (Nat.add n 2147483648)
noncomputable def ax_kok (o k : Nat) : Bool := bif Nat.beq o 12 then Nat.beq k 12 || Nat.beq k 15 else Nat.beq o k
/-- an array is read; o: 13 ints, 12 bytes and booleans, 14 longs, 16 references -/
noncomputable def ax_h_ald (w : ax_W) (o pc : Nat) (lv st : List Nat) (E : ax_E) : Option (List ax_A) := match st with
  | i :: a :: st' => (match ax_rg w E a, ax_iv E i with
    | some g, some q => (match rx_nth w.2.1 g with
      | some (k, n, l) => bif ax_kok o k && (ax_inr q n && Nat.blt n 100000) then ax_psh (Nat.add pc 1) lv st' (ax_rd w E a i (ax_hull l (Nat.sub q.1 2147483648) (Nat.sub q.2 2147483648))) else none
      | none => none)
    | _, _ => none)
  | _ => none
noncomputable def ax_h_alen (w : ax_W) (pc : Nat) (lv st : List Nat) (E : ax_E) : Option (List ax_A) := match st with
  | a :: st' => (match ax_rg w E a with
    | some g => (match rx_nth w.2.1 g with
      | some (k, n, _) => bif Nat.beq k 13 && Nat.blt n 100000 then some [(Nat.add pc 1, lv, rx_int n :: st', E)] else none
      | none => none)
    | none => none)
  | [] => none
noncomputable def ax_aok (w : ax_W) (o k : Nat) (t : ax_Y) (E : ax_E) (v : Nat) : Bool :=
  bif Nat.beq o 13 then Nat.beq k 13 && Nat.beq t.1 0
  else bif Nat.beq o 12 then Nat.beq t.1 0 && ((Nat.beq k 12 && (Nat.ble 2147483520 t.2.1 && Nat.ble t.2.2 2147483775)) || (Nat.beq k 15 && (Nat.ble 2147483648 t.2.1 && Nat.ble t.2.2 2147483649)))
  else bif Nat.beq o 14 then Nat.beq k 14 && Nat.beq t.1 1
  else Nat.beq o 16 && (Nat.beq k 16 && (match ax_rg w E v with
    | some g => (match rx_nth w.2.1 g with
      | some z => Nat.beq z.1 7
      | none => false)
    | none => false))
noncomputable def ax_h_ast (w : ax_W) (md : List (Nat × Nat)) (o pc : Nat) (lv st : List Nat) (E : ax_E) : Option (List ax_A) := match st with
  | v :: i :: a :: st' => (match ax_rg w E a, ax_iv E i, ax_typ E v with
    | some g, some q, some t => (match rx_nth w.2.1 g with
      | some (k, n, l) => bif ax_aok w o k t E v && (ax_inr q n && (Nat.blt n 100000 && (ax_fits w t l (Nat.sub q.1 2147483648) (Nat.sub q.2 2147483648) && ax_mem md g (ax_idx i)))) then some [(Nat.add pc 1, lv, st', ax_wr w E g a i v)] else none
      | none => none)
    | _, _, _ => none)
  | _ => none
-- an instruction: pc, number, two of its own, two notes, where a switch goes
abbrev ax_I : Type := Nat × Nat × Nat × Nat × Nat × Nat × List Nat
noncomputable def ax_nJ (E : ax_E) (v : Nat) : Bool := match ax_typ E v with
  | some t => !(Nat.beq t.1 1)
  | none => false
noncomputable def ax_put (E : ax_E) (lv : List Nat) (i v : Nat) : List Nat := rx_upd (ax_low E lv i) i v
/-- how two numbers stand to each other is kept if neither is a constant -/
noncomputable def ax_cmp (E : ax_E) (k x y : Nat) : ax_E := bif ax_cst x || ax_cst y then E else ax_addX E (Nat.add 1020 k, [x, y])
noncomputable def ax_two (l : List Nat) (x y : Nat) : Bool := match l with
  | [a, b] => Nat.beq a x && Nat.beq b y
  | _ => false
/-- it is known how two numbers stand to each other -/
noncomputable def ax_hasc (xf : List ax_N) (k x y : Nat) : Bool := xf.any (fun n => Nat.beq n.1 (Nat.add 1020 k) && ax_two n.2 x y)
noncomputable def ax_ye2 (E : ax_E) (k x y : Nat) : List ax_E := bif ax_cst x || ax_cst y then ax_yes E k x y else bif ax_hasc (ax_xf E) (ax_not k) x y then [] else bif ax_hasc (ax_xf E) k x y then [E] else (ax_yes E k x y).map (fun E1 => ax_cmp E1 k x y)
noncomputable def ax_brs (pc na : Nat) (lv st : List Nat) (E : ax_E) (k x y : Nat) : Option (List ax_A) := bif ax_isK E 0 x && ax_isK E 0 y then some ((ax_ye2 E k x y).map (fun E1 => (na, lv, st, E1)) ++ (ax_ye2 E (ax_not k) x y).map (fun E1 => (Nat.add pc 3, lv, st, E1))) else none
noncomputable def ax_tsw (na : Nat) (lv st : List Nat) (E : ax_E) (x : Nat) (tg : List Nat) : Nat → List ax_A := List.rec (motive := fun _ => Nat → List ax_A) (fun j => (ax_lst (ax_refine E x (Nat.add j 2147483648) 4294967295)).map (fun E1 => (na, lv, st, E1))) (fun t _ ih j => (ax_lst (ax_refine E x (Nat.add j 2147483648) (Nat.add j 2147483648))).map (fun E1 => (t, lv, st, E1)) ++ ih (Nat.succ j)) tg
noncomputable def ax_s1 (w : ax_W) (K : rx_K) (md : List (Nat × Nat)) (mL : Nat) (pc o i j na nb : Nat) (tg lv st : List Nat) (E : ax_E) : Option (List ax_A) :=
  bif Nat.ble o 3 then (match rx_nth lv i with
    | some v => bif (bif Nat.beq o 1 then ax_isK E 0 v else bif Nat.beq o 2 then ax_isR E v else ax_isK E 1 v) then some [(Nat.add pc j, lv, v :: st, E)] else none
    | none => none)
  else bif Nat.ble o 5 then (match st with
    | v :: st' => bif (bif Nat.beq o 4 then ax_isK E 0 v else ax_isR E v) && Nat.blt i mL then some [(Nat.add pc j, ax_put E lv i v, st', E)] else none
    | [] => none)
  else bif Nat.beq o 6 then (match st with
    | v :: st' => bif ax_isK E 1 v && Nat.blt (Nat.succ i) mL then some [(Nat.add pc j, rx_upd (ax_put E lv i v) (Nat.succ i) 2, st', E)] else none
    | [] => none)
  else bif Nat.beq o 7 then (bif Nat.beq i 0 then (bif Nat.blt na 4294967296 then some [(Nat.add pc j, lv, rx_int na :: st, E)] else none) else (bif rx_lok na then some [(Nat.add pc j, lv, na :: st, E)] else none))
  else bif Nat.beq o 8 then some [(Nat.add pc j, lv, rx_lng na :: st, E)]
  else bif Nat.beq o 9 then (match rx_nth lv i with
    | some v => bif Nat.blt i mL && Nat.blt na 4294967296 then (match ax_bin E 0 v (rx_int na) with
      | some (r, E1) => some [(Nat.add pc 3, ax_put E1 lv i r, st, E1)]
      | none => none) else none
    | none => none)
  else bif Nat.beq o 10 then (match st with
    | y :: x :: st' => ax_psh (Nat.add pc 1) lv st' (ax_bin E i x y)
    | _ => none)
  else none
/-- what a value was made of is kept -/
noncomputable def ax_kpt (o x y : Nat) (q : Nat × ax_E) : Nat × ax_E := (q.1, ax_addX q.2 (Nat.add 1000 o, [x, y, q.1]))
noncomputable def ax_kp5 (x : Nat) (q : Nat × ax_E) : Nat × ax_E := (q.1, ax_addX q.2 (1043, [x, 0, q.1, 0, 0]))
noncomputable def ax_kp6 (x : Nat) (q : Nat × ax_E) : Nat × ax_E := (q.1, ax_addX q.2 (1044, [x, 0, q.1, 0, 0]))
noncomputable def ax_s2 (pc o i na : Nat) (tg lv st : List Nat) (E : ax_E) : Option (List ax_A) :=
  bif Nat.beq o 11 then (match st with
    | x :: st' => bif ax_isK E 0 x then ax_psh (Nat.add pc 1) lv st' (some (bif Nat.beq i 0 then ax_kp6 x (ax_val E (0, ax_full)) else ax_kp5 x (ax_val E (0, 2147483520, 2147483775)))) else none
    | [] => none)
  else bif Nat.ble o 14 then (match st with
    | y :: x :: st' => bif ax_isK E 1 x && (bif Nat.beq o 13 then ax_isK E 0 y else ax_isK E 1 y) then (bif Nat.beq o 13 then ax_psh (Nat.add pc 1) lv st' (some (ax_kpt (Nat.add 104 i) x y (ax_val E (1, 0, 0)))) else ax_psh (Nat.add pc 1) lv st' (some (ax_kpt (Nat.add (Nat.mul 8 o) i) x y (ax_val E (bif Nat.beq o 14 then (0, 2147483647, 2147483649) else (1, 0, 0)))))) else none
    | _ => none)
  else bif Nat.beq o 15 then (match st with
    | v :: st' => bif ax_nJ E v then some [(Nat.add pc 1, lv, v :: v :: st', E)] else none
    | [] => none)
  else bif Nat.beq o 16 then (match st with
    | v :: st' => bif ax_nJ E v then some [(Nat.add pc 1, lv, st', E)] else none
    | [] => none)
  else bif Nat.beq o 17 then (match st with
    | v :: u :: st' => bif ax_nJ E v && ax_nJ E u then some [(Nat.add pc 1, lv, v :: u :: v :: u :: st', E)] else none
    | _ => none)
  else bif Nat.beq o 18 then some [(na, lv, st, E)]
  else bif Nat.beq o 19 then (match st with
    | x :: st' => ax_brs pc na lv st' E i x 0
    | [] => none)
  else bif Nat.beq o 20 then (match st with
    | y :: x :: st' => ax_brs pc na lv st' E i x y
    | _ => none)
  else bif Nat.beq o 21 then (match st with
    | x :: st' => bif ax_isK E 0 x then some ((bif Nat.beq i 0 then (ax_lst (ax_refine E x 0 2147483647)) else ax_lst (ax_refine E x 0 (Nat.add i 2147483647))).map (fun E1 => (na, lv, st', E1)) ++ ax_tsw na lv st' E x tg i) else none
    | [] => none)
  else none
noncomputable def ax_step (w : ax_W) (K : rx_K) (md : List (Nat × Nat)) (mL : Nat) (pc o i j na nb : Nat) (tg lv st : List Nat) (E : ax_E) : Option (List ax_A) :=
  bif Nat.ble o 10 then ax_s1 w K md mL pc o i j na nb tg lv st E
  else bif Nat.ble o 21 then ax_s2 pc o i na tg lv st E
  else bif Nat.beq o 22 then ax_h_gf w pc na nb lv st E
  else bif Nat.beq o 23 then ax_h_pf w K md pc na nb lv st E
  else bif Nat.beq o 24 then (bif Nat.beq i 0 then ax_h_alen w pc lv st E else ax_h_ald w i pc lv st E)
  else bif Nat.beq o 25 then ax_h_ast w md i pc lv st E
  else none
