/-! An interpreter of bytecode over a picture of the heap, for the kernel to run: all is numbers. A value is 4 n + k: k = 0 the int n (modulo 2^32), 1 the long n, 2 a reference (0: null, 1: the script, q + 2: place q, 1000 + i: the i-th String), 3 the n-th number that is not known: it lies in an interval. -/
/-- a cell: its kind (0 .. 11 a class, 12 byte[], 13 int[], 14 long[], 15 boolean[], 16 State[]), its length, what it holds -/
abbrev rx_C : Type := Nat × Nat × List Nat
/-- the picture of a heap: how many cells, and a tree of 256 places -/
noncomputable def rx_T : Nat → Type := fun n => Nat.rec (Option rx_C) (fun _ t => t × t) n
abbrev rx_H : Type := Nat × rx_T 8
noncomputable def rx_tg (n : Nat) : rx_T n → Nat → Option rx_C := Nat.rec (motive := fun n => rx_T n → Nat → Option rx_C) (fun t _ => t) (fun n ih (t : rx_T n × rx_T n) k => bif Nat.beq (Nat.mod k 2) 0 then ih t.1 (Nat.div k 2) else ih t.2 (Nat.div k 2)) n
noncomputable def rx_ts (n : Nat) : rx_T n → Nat → rx_C → rx_T n := Nat.rec (motive := fun n => rx_T n → Nat → rx_C → rx_T n) (fun _ _ c => some c) (fun n ih (t : rx_T n × rx_T n) k c => bif Nat.beq (Nat.mod k 2) 0 then ((ih t.1 (Nat.div k 2) c, t.2) : rx_T n × rx_T n) else ((t.1, ih t.2 (Nat.div k 2) c) : rx_T n × rx_T n)) n
noncomputable def rx_t0 (n : Nat) : rx_T n := Nat.rec (motive := fun n => rx_T n) (none : Option rx_C) (fun n t => ((t, t) : rx_T n × rx_T n)) n
noncomputable def rx_h0 : rx_H := (0, rx_t0 8)
noncomputable def rx_hg (h : rx_H) (q : Nat) : Option rx_C := bif Nat.blt q h.1 then rx_tg 8 h.2 q else none
noncomputable def rx_hs (h : rx_H) (q : Nat) (c : rx_C) : rx_H := (h.1, rx_ts 8 h.2 q c)
noncomputable def rx_hp (h : rx_H) (c : rx_C) : rx_H := (Nat.succ h.1, rx_ts 8 h.2 h.1 c)
/-- intervals of the numbers that are not known, each number 2^31 more -/
abbrev rx_I : Type := List (Nat × Nat)
abbrev rx_L : Type := List Nat
/-- pc, locals (2: none), stack, heap, intervals, cells and slots made -/
abbrev rx_S : Type := Nat × rx_L × List Nat × rx_H × rx_I × Nat × Nat
/-- what comes back: an answer (2: none), heap, intervals -/
abbrev rx_O : Type := Nat × rx_H × rx_I
/-- what every step knows: default contents, kinds of fields -/
abbrev rx_K : Type := List (List Nat) × List (List Nat)
/-- a method's numbers: locals, room (frames, locals, cells, slots), parameters, what it answers (0 nothing, 1 int, 2 boolean, 3 long), the script's length and 1 (0: there is none) -/
abbrev rx_N : Type := Nat × Nat × Nat × Nat × Nat × Nat × Nat × Nat × (Nat → Nat)
noncomputable def rx_mL (r : rx_N) : Nat := r.1
noncomputable def rx_rf (r : rx_N) : Nat := r.2.1
noncomputable def rx_rl (r : rx_N) : Nat := r.2.2.1
noncomputable def rx_rc (r : rx_N) : Nat := r.2.2.2.1
noncomputable def rx_rs (r : rx_N) : Nat := r.2.2.2.2.1
noncomputable def rx_np (r : rx_N) : Nat := r.2.2.2.2.2.1
noncomputable def rx_rk (r : rx_N) : Nat := r.2.2.2.2.2.2.1
noncomputable def rx_sl (r : rx_N) : Nat := r.2.2.2.2.2.2.2.1
/-- the script's ints -/
noncomputable def rx_sx (r : rx_N) : Nat → Nat := r.2.2.2.2.2.2.2.2
noncomputable def rx_nil : Nat → Nat := fun _ => 0
/-- what an instruction does that isn't a call or a return: pc, two notes, locals, stack .. -/
abbrev rx_Hd : Type := rx_K → rx_N → Nat → Nat → Nat → rx_L → List Nat → rx_H → rx_I → Nat → Nat → Option (List rx_S)
/-- an instruction: place, kind (0 a step, 1 ireturn, 2 lreturn, 3 return, 4 a call, 5 a static call), what it does, itself, length, two notes, where its word stands -/
abbrev rx_E : Type := Nat × Nat × rx_Hd × Instr × Nat × Nat × Nat × Nat × Nat
/-- a method: its numbers; code; name, bytes, return type; where its words stand (code, instance or static, selects, initialized) -/
abbrev rx_M : Type := rx_N × List (List rx_E) × (MethodName × ByteArray × Option FieldType) × ((Nat × Nat) × (Nat × Nat) × (Nat × Nat) × (Nat × Nat))
noncomputable def rx_n (r : rx_M) : rx_N := r.1
noncomputable def rx_cd (r : rx_M) : List (List rx_E) := r.2.1
noncomputable def rx_y (r : rx_M) : MethodName := r.2.2.1.1
noncomputable def rx_b (r : rx_M) : ByteArray := r.2.2.1.2.1
noncomputable def rx_rt (r : rx_M) : Option FieldType := r.2.2.1.2.2
/-- lists by places -/
noncomputable def rx_nth {α : Type} (l : List α) : Nat → Option α := List.rec (motive := fun _ => Nat → Option α) (fun _ => none) (fun x _ ih i => Nat.casesOn i (some x) (fun j => ih j)) l
noncomputable def rx_upd {α : Type} (l : List α) : Nat → α → List α := List.rec (motive := fun _ => Nat → α → List α) (fun _ _ => []) (fun x t ih i v => Nat.casesOn i (v :: t) (fun j => x :: ih j v)) l
noncomputable def rx_len {α : Type} (l : List α) : Nat := List.rec (motive := fun _ => Nat) 0 (fun _ _ n => Nat.succ n) l
noncomputable def rx_tk (v : Nat) : Nat := Nat.mod v 4
noncomputable def rx_pl (v : Nat) : Nat := Nat.div v 4
noncomputable def rx_isI (v : Nat) : Bool := Nat.beq (rx_tk v) 0 || Nat.beq (rx_tk v) 3
noncomputable def rx_isR (v : Nat) : Bool := Nat.beq (rx_tk v) 2 && Nat.blt 0 (rx_pl v)
noncomputable def rx_isA (v : Nat) : Bool := Nat.beq (rx_tk v) 2
noncomputable def rx_isJ (v : Nat) : Bool := Nat.beq (rx_tk v) 1
noncomputable def rx_int (n : Nat) : Nat := Nat.mul 4 n
noncomputable def rx_lng (n : Nat) : Nat := Nat.succ (Nat.mul 4 n)
noncomputable def rx_ref (q : Nat) : Nat := Nat.add (Nat.mul 4 (Nat.add q 2)) 2
noncomputable def rx_sym (t : Nat) : Nat := Nat.add (Nat.mul 4 t) 3
/-- an int's place among all, the least being 0 -/
noncomputable def rx_bi (n : Nat) : Nat := Nat.mod (Nat.add n 2147483648) 4294967296
/-- a number of which the interval is one number -/
noncomputable def rx_kn (iv : rx_I) (v : Nat) : Nat := bif Nat.beq (rx_tk v) 3 then (match rx_nth iv (rx_pl v) with
    | some (a, b) => bif Nat.beq a b then rx_int (rx_bi a) else v
    | none => v) else v
noncomputable def rx_io (iv : rx_I) (v : Nat) : Option (Nat × Nat) := bif Nat.beq (rx_tk v) 0 then some (rx_bi (rx_pl v), rx_bi (rx_pl v)) else bif Nat.beq (rx_tk v) 3 then rx_nth iv (rx_pl v) else none
/-- an interval cut in two: (a .. m), (m + 1 .. b) -/
noncomputable def rx_cut (iv : rx_I) (v m : Nat) : Option (rx_I × rx_I) := bif Nat.beq (rx_tk v) 3 then (match rx_nth iv (rx_pl v) with
    | some (a, b) => bif Nat.ble a m && Nat.blt m b then some (rx_upd iv (rx_pl v) (a, m), rx_upd iv (rx_pl v) (Nat.succ m, b)) else none
    | none => none) else none
noncomputable def rx_two (pc : Nat) (lv : rx_L) (st : List Nat) (hp : rx_H) (q : Option (rx_I × rx_I)) (c s : Nat) : Option (List rx_S) := match q with
  | some (i1, i2) => some [(pc, lv, st, hp, i1, c, s), (pc, lv, st, hp, i2, c, s)]
  | none => none
/-- cut in the middle -/
noncomputable def rx_half (pc : Nat) (lv : rx_L) (st : List Nat) (hp : rx_H) (iv : rx_I) (c s : Nat) (v : Nat) : Option (List rx_S) := match rx_io iv v with
  | some (a, b) => rx_two pc lv st hp (rx_cut iv v (Nat.div (Nat.add a b) 2)) c s
  | none => none
noncomputable def rx_sml (iv : rx_I) (v : Nat) : Bool := bif Nat.beq (rx_tk v) 3 then (match rx_nth iv (rx_pl v) with
    | some (a, b) => Nat.ble b (Nat.add a 15)
    | none => false) else false
/-- what stood ahead of a local that is written goes, if it was a long -/
noncomputable def rx_low (lv : rx_L) (i : Nat) : rx_L := Nat.casesOn i lv (fun j => match rx_nth lv j with
  | some v => bif rx_isJ v then rx_upd lv j 2 else lv
  | none => lv)
noncomputable def rx_put (lv : rx_L) (i v : Nat) : rx_L := rx_upd (rx_low lv i) i v
noncomputable def rx_putJ (lv : rx_L) (i v : Nat) : rx_L := rx_upd (rx_upd (rx_low lv i) i v) (Nat.succ i) 2
/-- the locals of a method that begins: the arguments, then none -/
noncomputable def rx_args (as : List Nat) : Nat → rx_L := List.rec (motive := fun _ => Nat → rx_L) (fun n => List.replicate n 2) (fun v _ ih n => bif rx_isJ v then v :: 2 :: ih (n - 2) else v :: ih (n - 1)) as
noncomputable def rx_tri (k : ClassFile.Cond) (x y : Nat × Nat) : Option Bool := match k with
  | .lt => bif Nat.blt x.2 y.1 then some true else bif Nat.ble y.2 x.1 then some false else none
  | .ge => bif Nat.blt x.2 y.1 then some false else bif Nat.ble y.2 x.1 then some true else none
  | .gt => bif Nat.blt y.2 x.1 then some true else bif Nat.ble x.2 y.1 then some false else none
  | .le => bif Nat.blt y.2 x.1 then some false else bif Nat.ble x.2 y.1 then some true else none
  | .eq => bif Nat.blt x.2 y.1 || Nat.blt y.2 x.1 then some false else bif Nat.beq x.1 x.2 && (Nat.beq y.1 y.2 && Nat.beq x.1 y.1) then some true else none
  | .ne => bif Nat.blt x.2 y.1 || Nat.blt y.2 x.1 then some true else bif Nat.beq x.1 x.2 && (Nat.beq y.1 y.2 && Nat.beq x.1 y.1) then some false else none
/-- a jump to t, or on -/
noncomputable def rx_br (k : ClassFile.Cond) (t pc : Nat) (x y : Nat) (st r : List Nat) (lv : rx_L) (hp : rx_H) (iv : rx_I) (c s : Nat) : Option (List rx_S) := match rx_io iv x, rx_io iv y with
  | some a, some b => (match rx_tri k a b with
    | some true => some [(t, lv, r, hp, iv, c, s)]
    | some false => some [(Nat.add pc 3, lv, r, hp, iv, c, s)]
    | none => bif Nat.beq b.1 b.2 then rx_two pc lv st hp (rx_cut iv x (bif Nat.blt a.1 b.1 then Nat.pred b.1 else b.1)) c s else rx_two pc lv st hp (rx_cut iv y (bif Nat.blt b.1 a.1 then Nat.pred a.1 else a.1)) c s)
  | _, _ => none
noncomputable def rx_within (iv : rx_I) (v a b : Nat) : Bool := match rx_io iv v with
  | some (x, y) => Nat.ble a x && Nat.ble y b
  | none => false
noncomputable def rx_bit (v : Nat) : Bool := Nat.beq v 0 || Nat.beq v 4
noncomputable def rx_obj (hp : rx_H) (k v : Nat) : Bool := Nat.beq (rx_tk v) 2 && (Nat.ble 2 (rx_pl v) && (match rx_hg hp (Nat.sub (rx_pl v) 2) with
    | some (t, _, _) => Nat.beq t k
    | none => false))
noncomputable def rx_nk (t : ArrayType) : Option (Nat × Nat) := match t with
  | .byte => some (12, 0) | .int => some (13, 0) | .long => some (14, 1) | .boolean => some (15, 0) | _ => none
/-- a field is written: kind 0 int, 1 boolean, 2 a reference -/
noncomputable def rx_fok (k v : Nat) : Bool := bif Nat.beq k 0 then rx_isI v else bif Nat.beq k 1 then rx_bit v else bif Nat.beq k 2 then rx_isA v else false
