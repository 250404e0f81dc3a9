/-! Runs of the interpreter: more time does no harm; locals that are not there are not needed -/
theorem rm_fold {α β : Type} {f g : α → Option (List β)} {φ : α → α} : ∀ {l : List α} {b : List β}, (∀ x ∈ l, ∀ c, f x = some c → g (φ x) = some c) → l.foldr (fun x acc => match f x with
    | some a => (match acc with
      | some b => some (a ++ b)
      | none => none)
    | none => none) (some []) = some b → (l.map φ).foldr (fun x acc => match g x with
    | some a => (match acc with
      | some b => some (a ++ b)
      | none => none)
    | none => none) (some []) = some b
  | [], b, _, e => e
  | z :: l, b, h, e => by
    rw [List.foldr_cons] at e
    rw [List.map_cons, List.foldr_cons]
    cases hz : f z with
    | none => rw [hz] at e; cases e
    | some a =>
      rw [hz] at e
      dsimp only at e
      rw [h z List.mem_cons_self a hz]
      dsimp only
      cases hb : l.foldr (fun x acc => match f x with
        | some a => (match acc with
          | some b => some (a ++ b)
          | none => none)
        | none => none) (some []) with
      | none => rw [hb] at e; cases e
      | some c =>
        rw [hb] at e
        rw [rm_fold (fun x hx => h x (List.mem_cons_of_mem _ hx)) hb]
        exact e
theorem rm_all {α β : Type} {f g : α → Option (List β)} {φ : α → α} {l : List α} {b : List β} (h : ∀ x ∈ l, ∀ c, f x = some c → g (φ x) = some c) (e : rx_all f l = some b) : rx_all g (l.map φ) = some b := by
  match l, h, e with
  | [], h, e => exact e
  | [x], h, e => exact h x List.mem_cons_self b e
  | x :: y :: l, h, e => exact rm_fold (l := x :: y :: l) h e
theorem rm_id {α : Type} (l : List α) : l.map (fun x => x) = l := by
  induction l with
  | nil => rfl
  | cons x l ih => rw [List.map_cons, ih]
theorem rm_all1 {α β : Type} {f g : α → Option (List β)} {l : List α} {b : List β} (h : ∀ x ∈ l, ∀ c, f x = some c → g x = some c) (e : rx_all f l = some b) : rx_all g l = some b := by
  have := rm_all (φ := fun x => x) h e
  rw [rm_id] at this
  exact this
/-- less is known of the locals -/
noncomputable def rm_le (a b : List Nat) : Prop := a.length = b.length ∧ ∀ i v : Nat, a[i]? = some v → v ≠ 2 → b[i]? = some v
noncomputable def rm_lv (lv : List Nat) (σ : rx_S) : rx_S := (σ.1, lv, σ.2.2)
/-- what an instruction does has nothing to do with locals -/
noncomputable def rm_in (h : rx_Hd) : Prop := ∀ K r pc a b lv lv' st hp iv c s, h K r pc a b lv st hp iv c s = (h K r pc a b lv' st hp iv c s).map (List.map (rm_lv lv))
theorem rm_cond {c : Bool} {A B : Option (List rx_S)} {A' B' : Option (List rx_S)} {lv : List Nat} (h1 : A = A'.map (List.map (rm_lv lv))) (h2 : B = B'.map (List.map (rm_lv lv))) : (bif c then A else B) = (bif c then A' else B').map (List.map (rm_lv lv)) := by
  cases c
  · exact h2
  · exact h1
theorem rm_two {pc : Nat} {lv lv' : rx_L} {st : List Nat} {hp : rx_H} {q : Option (rx_I × rx_I)} {c s : Nat} : rx_two pc lv st hp q c s = (rx_two pc lv' st hp q c s).map (List.map (rm_lv lv)) := by
  cases q with
  | none => rfl
  | some z => rfl
theorem rm_half {pc : Nat} {lv lv' : rx_L} {st : List Nat} {hp : rx_H} {iv : rx_I} {c s v : Nat} : rx_half pc lv st hp iv c s v = (rx_half pc lv' st hp iv c s v).map (List.map (rm_lv lv)) := by
  unfold rx_half
  cases rx_io iv v with
  | none => rfl
  | some z => exact rm_two
theorem rm_br {k : ClassFile.Cond} {t pc x y : Nat} {st r : List Nat} {lv lv' : rx_L} {hp : rx_H} {iv : rx_I} {c s : Nat} : rx_br k t pc x y st r lv hp iv c s = (rx_br k t pc x y st r lv' hp iv c s).map (List.map (rm_lv lv)) := by
  unfold rx_br
  cases rx_io iv x with
  | none => rfl
  | some a =>
    cases rx_io iv y with
    | none => rfl
    | some b =>
      dsimp only
      cases rx_tri k a b with
      | none => exact rm_cond rm_two rm_two
      | some z => cases z <;> rfl
theorem rm_ald (ok : Nat → Bool) : rm_in (rx_h_ald ok) := by
  intro K r pc a b lv lv' st hp iv c s
  unfold rx_h_ald
  match st with
  | [] => rfl
  | [_] => rfl
  | ix :: v :: st' =>
    dsimp only
    refine rm_cond (rm_cond rfl rfl) (rm_cond ?_ rfl)
    cases rx_hg hp (Nat.sub (rx_pl v) 2) with
    | none => rfl
    | some z =>
      dsimp only
      refine rm_cond (rm_cond ?_ rfl) rm_half
      cases rx_nth z.2.2 (rx_pl (rx_kn iv ix)) <;> rfl
theorem rm_ast {ok : Nat → Nat → Bool} {pc : Nat} {lv lv' : rx_L} {st : List Nat} {hp : rx_H} {iv : rx_I} {c s : Nat} : rx_ast ok pc lv st hp iv c s = (rx_ast ok pc lv' st hp iv c s).map (List.map (rm_lv lv)) := by
  unfold rx_ast
  match st with
  | [] => rfl
  | [_] => rfl
  | [_, _] => rfl
  | x :: ix :: v :: st' =>
    dsimp only
    refine rm_cond ?_ rfl
    cases rx_hg hp (Nat.sub (rx_pl v) 2) with
    | none => rfl
    | some z =>
      dsimp only
      exact rm_cond (rm_cond rfl rfl) rm_half
theorem rm_new {r : rx_N} {pc : Nat} {lv lv' : rx_L} {st : List Nat} {hp : rx_H} {iv : rx_I} {c s : Nat} {x : rx_C} : rx_new r pc lv st hp iv c s x = (rx_new r pc lv' st hp iv c s x).map (List.map (rm_lv lv)) := by
  unfold rx_new
  exact rm_cond rfl rfl
theorem rm_ar (f : Nat → Nat → Option Nat) (g : Nat → Nat × Nat) : rm_in (rx_h_ar f g) := by
  intro K r pc a b lv lv' st hp iv c s
  unfold rx_h_ar
  match st with
  | [] => rfl
  | [_] => rfl
  | y0 :: x0 :: st' =>
    dsimp only
    refine rm_cond ?_ (rm_cond rm_half (rm_cond rm_half (rm_cond rfl rfl)))
    cases f (rx_pl (rx_kn iv x0)) (rx_pl (rx_kn iv y0)) <;> rfl
theorem rm_sem0 (ins : Instr) : (∃ ok i n, rx_sem ins = rx_h_ld ok i n ∧ ok 2 = false) ∨ (∃ ok i n, rx_sem ins = rx_h_sto ok i n) ∨ (∃ i n, rx_sem ins = rx_h_stJ i n) ∨ (∃ i, rx_sem ins = rx_h_inc i) ∨ rm_in (rx_sem ins) := by
  have one : ∀ h : rx_Hd, (∀ K r pc a b lv lv' st hp iv c s, h K r pc a b lv st hp iv c s = (h K r pc a b lv' st hp iv c s).map (List.map (rm_lv lv))) → rm_in h := fun h x => x
  cases ins <;> first
    | exact Or.inl ⟨_, _, _, rfl, rfl⟩
    | exact Or.inr (Or.inl ⟨_, _, _, rfl⟩)
    | exact Or.inr (Or.inr (Or.inl ⟨_, _, rfl⟩))
    | exact Or.inr (Or.inr (Or.inr (Or.inl ⟨_, rfl⟩)))
    | exact Or.inr (Or.inr (Or.inr (Or.inr (fun _ _ _ _ _ _ _ _ _ _ _ _ => rm_ast))))
    | exact Or.inr (Or.inr (Or.inr (Or.inr (fun _ _ _ _ _ _ _ _ _ _ _ _ => rfl))))
    | skip
  all_goals refine Or.inr (Or.inr (Or.inr (Or.inr ?_)))
  all_goals intro K r pc a b lv lv' st hp iv c s
  case iaload => exact rm_ald (fun t => Nat.beq t 13) K r pc a b lv lv' st hp iv c s
  case baload => exact rm_ald (fun t => Nat.beq t 12 || Nat.beq t 15) K r pc a b lv lv' st hp iv c s
  case aaload => exact rm_ald (fun t => Nat.beq t 16) K r pc a b lv lv' st hp iv c s
  case laload => exact rm_ald (fun t => Nat.beq t 14) K r pc a b lv lv' st hp iv c s
  case iadd => exact rm_ar rx_f_add rx_g32 K r pc a b lv lv' st hp iv c s
  case isub => exact rm_ar rx_f_sub rx_g32 K r pc a b lv lv' st hp iv c s
  case imul => exact rm_ar rx_f_mul rx_g32 K r pc a b lv lv' st hp iv c s
  case iand => exact rm_ar rx_f_and rx_gand K r pc a b lv lv' st hp iv c s
  case ishl => exact rm_ar rx_f_shl rx_g32 K r pc a b lv lv' st hp iv c s
  case iushr => exact rm_ar rx_f_ushr rx_g32 K r pc a b lv lv' st hp iv c s
  case ifCond k o => match st with
    | [] => rfl
    | x :: st' => exact rm_br
  case if_icmp k o => match st with
    | [] => rfl
    | [_] => rfl
    | y :: x :: st' => exact rm_br
  case getfield i =>
    show rx_h_gf K r pc a b lv st hp iv c s = (rx_h_gf K r pc a b lv' st hp iv c s).map (List.map (rm_lv lv))
    unfold rx_h_gf
    match st with
    | [] => rfl
    | v :: st' =>
      dsimp only
      refine rm_cond ?_ rfl
      cases rx_hg hp (Nat.sub (rx_pl v) 2) with
      | none => rfl
      | some z =>
        dsimp only
        refine rm_cond ?_ rfl
        cases rx_nth z.2.2 b <;> rfl
  case putfield i =>
    show rx_h_pf K r pc a b lv st hp iv c s = (rx_h_pf K r pc a b lv' st hp iv c s).map (List.map (rm_lv lv))
    unfold rx_h_pf
    match st with
    | [] => rfl
    | [_] => rfl
    | x :: v :: st' =>
      dsimp only
      refine rm_cond ?_ rfl
      cases rx_hg hp (Nat.sub (rx_pl v) 2) with
      | none => rfl
      | some z =>
        dsimp only
        cases rx_nth K.2 a with
        | none => rfl
        | some ks =>
          dsimp only
          cases rx_nth ks b with
          | none => rfl
          | some k => exact rm_cond rfl rfl
  case tableswitch d lo hi offs =>
    show rx_h_tsw lo hi offs K r pc a b lv st hp iv c s = (rx_h_tsw lo hi offs K r pc a b lv' st hp iv c s).map (List.map (rm_lv lv))
    unfold rx_h_tsw
    match st with
    | [] => rfl
    | v :: st' =>
      dsimp only
      unfold rx_tsw2
      cases rx_io iv v with
      | none => rfl
      | some q =>
        cases lo with
        | negSucc _ => rfl
        | ofNat l0 =>
          cases hi with
          | negSucc _ => rfl
          | ofNat h0 =>
            dsimp only
            unfold rx_tsw1
            refine rm_cond rfl (rm_cond ?_ rm_two)
            cases offs[Nat.sub q.1 (Nat.add l0 2147483648)]? with
            | none => rfl
            | some o =>
              dsimp only
              cases (pc : Int) + o <;> rfl
  case new i =>
    show rx_h_new K r pc a b lv st hp iv c s = (rx_h_new K r pc a b lv' st hp iv c s).map (List.map (rm_lv lv))
    unfold rx_h_new
    cases rx_nth K.1 a with
    | none => rfl
    | some l => exact rm_new
  case newarray t =>
    show rx_h_newa t K r pc a b lv st hp iv c s = (rx_h_newa t K r pc a b lv' st hp iv c s).map (List.map (rm_lv lv))
    unfold rx_h_newa
    match st with
    | [] => rfl
    | v :: st' =>
      dsimp only
      cases rx_nk t with
      | none => rfl
      | some z => exact rm_cond rm_new rfl
  case anewarray t =>
    show rx_h_anew K r pc a b lv st hp iv c s = (rx_h_anew K r pc a b lv' st hp iv c s).map (List.map (rm_lv lv))
    unfold rx_h_anew
    match st with
    | [] => rfl
    | v :: st' => exact rm_cond rm_new rfl
  case arraylength =>
    show rx_h_alen K r pc a b lv st hp iv c s = (rx_h_alen K r pc a b lv' st hp iv c s).map (List.map (rm_lv lv))
    unfold rx_h_alen
    match st with
    | [] => rfl
    | v :: st' =>
      dsimp only
      refine rm_cond (rm_cond rfl rfl) (rm_cond ?_ rfl)
      cases rx_hg hp (Nat.sub (rx_pl v) 2) with
      | none => rfl
      | some z => exact rm_cond rfl rfl
  all_goals match st with
    | [] => first | rfl | exact rm_cond rfl rfl
    | [_] => first | rfl | exact rm_cond rfl rfl
    | y :: x :: st' => first
      | rfl
      | exact rm_cond rfl rfl
      | (refine rm_cond (A := match (_ : Option Nat) with | some n => _ | none => _) ?_ rfl; split <;> rfl)
      | (show (bif _ then _ else _) = Option.map _ (bif _ then _ else _); refine rm_cond ?_ rfl; split <;> rfl)
-- PART TWO
theorem rm_le.rf {a : List Nat} : rm_le a a := ⟨rfl, fun _ _ h _ => h⟩
theorem rm_le.set {a b : List Nat} (h : rm_le a b) (i v : Nat) : rm_le (a.set i v) (b.set i v) := by
  refine ⟨by rw [List.length_set, List.length_set]; exact h.1, fun j u hj hu => ?_⟩
  rw [List.getElem?_set] at hj ⊢
  by_cases hij : i = j
  · rw [if_pos hij] at hj ⊢
    rw [← h.1]
    exact hj
  · rw [if_neg hij] at hj ⊢
    exact h.2 j u hj hu
theorem rm_le.two {a b : List Nat} (h : rm_le a b) (i : Nat) (ha : a[i]? = some 2) : rm_le a (b.set i 2) := by
  refine ⟨by rw [List.length_set]; exact h.1, fun j u hj hu => ?_⟩
  rw [List.getElem?_set]
  by_cases hij : i = j
  · rw [← hij, ha] at hj
    exact absurd (Option.some.inj hj).symm hu
  · rw [if_neg hij]
    exact h.2 j u hj hu
theorem rm_le.low {a b : List Nat} (h : rm_le a b) (i : Nat) : rm_le (rx_low a i) (rx_low b i) := by
  unfold rx_low
  cases i with
  | zero => exact h
  | succ j =>
    show rm_le (match rx_nth a j with | some v => bif rx_isJ v then rx_upd a j 2 else a | none => a) (match rx_nth b j with | some v => bif rx_isJ v then rx_upd b j 2 else b | none => b)
    rw [rx_nth_eq, rx_nth_eq, rx_upd_eq, rx_upd_eq]
    cases ha : a[j]? with
    | none =>
      have hb : b[j]? = none := by rw [List.getElem?_eq_none_iff] at ha ⊢; rw [← h.1]; exact ha
      rw [hb]
      exact h
    | some v =>
      have hl : j < b.length := by
        rw [← h.1]
        rcases Nat.lt_or_ge j a.length with q | q
        · exact q
        · rw [List.getElem?_eq_none_iff.mpr q] at ha; cases ha
      by_cases hv : v = 2
      · subst hv
        show rm_le a _
        cases hb : b[j]? with
        | none => exact h
        | some u =>
          dsimp only
          cases rx_isJ u with
          | false => exact h
          | true => exact h.two j ha
      · rw [h.2 j v ha hv]
        dsimp only
        cases rx_isJ v with
        | false => exact h
        | true => exact h.set j 2
theorem rm_le.put {a b : List Nat} (h : rm_le a b) (i v : Nat) : rm_le (rx_put a i v) (rx_put b i v) := by
  unfold rx_put
  rw [rx_upd_eq, rx_upd_eq]
  exact (h.low i).set i v
theorem rm_le.putJ {a b : List Nat} (h : rm_le a b) (i v : Nat) : rm_le (rx_putJ a i v) (rx_putJ b i v) := by
  unfold rx_putJ
  rw [rx_upd_eq, rx_upd_eq, rx_upd_eq, rx_upd_eq]
  exact ((h.low i).set i v).set (Nat.succ i) 2
section RM
variable {P : List rx_M} {K : rx_K} {r : rx_M} {g f f' : rx_M → rx_S → Option (List rx_O)} {pc a b c s : Nat} {lv lv' : List Nat} {st : List Nat} {hp : rx_H} {iv : rx_I} {l : List rx_O}
noncomputable def rm_ok (r : rx_M) (f f' : rx_M → rx_S → Option (List rx_O)) : Prop := ∀ (pc : Nat) (a b : List Nat) (rest : List Nat × rx_H × rx_I × Nat × Nat) (l : List rx_O), rm_le a b → f r (pc, a, rest) = some l → f' r (pc, b, rest) = some l
theorem rm_nxt (H : rm_ok r f f') (hle : rm_le lv' lv) (ins : Instr) (h : rx_nxt f r (rx_sem ins K (rx_n r) pc a b lv' st hp iv c s) = some l) : rx_nxt f' r (rx_sem ins K (rx_n r) pc a b lv st hp iv c s) = some l := by
  rcases rm_sem0 ins with ⟨ok, i, n, e, e2⟩ | ⟨ok, i, n, e⟩ | ⟨i, n, e⟩ | ⟨i, e⟩ | e
  · rw [e] at h ⊢
    unfold rx_h_ld at h ⊢
    rw [rx_nth_eq] at h ⊢
    cases hv : lv'[i]? with
    | none => rw [hv] at h; cases h
    | some v =>
      rw [hv] at h
      dsimp only at h
      cases ho : ok v with
      | false => rw [ho] at h; cases h
      | true =>
        have h2 : v ≠ 2 := fun z => by rw [z, e2] at ho; cases ho
        rw [hle.2 i v hv h2]
        dsimp only
        rw [ho] at h ⊢
        exact H _ _ _ _ _ hle h
  · rw [e] at h ⊢
    unfold rx_h_sto at h ⊢
    match st, h with
    | [], h => cases h
    | v :: st', h =>
      dsimp only at h ⊢
      cases hb : ok v && Nat.blt i (rx_mL (rx_n r)) with
      | false => rw [hb] at h; cases h
      | true => rw [hb] at h; exact H _ _ _ _ _ (hle.put i v) h
  · rw [e] at h ⊢
    unfold rx_h_stJ at h ⊢
    match st, h with
    | [], h => cases h
    | v :: st', h =>
      dsimp only at h ⊢
      cases hb : rx_isJ v && Nat.blt (Nat.succ i) (rx_mL (rx_n r)) with
      | false => rw [hb] at h; cases h
      | true => rw [hb] at h; exact H _ _ _ _ _ (hle.putJ i v) h
  · rw [e] at h ⊢
    unfold rx_h_inc at h ⊢
    rw [rx_nth_eq] at h ⊢
    cases hv : lv'[i]? with
    | none => rw [hv] at h; cases h
    | some v =>
      rw [hv] at h
      dsimp only at h
      cases ho : Nat.beq (rx_tk v) 0 && Nat.blt i (rx_mL (rx_n r)) with
      | false => rw [ho] at h; cases h
      | true =>
        have h2 : v ≠ 2 := fun z => by rw [z] at ho; cases ho
        rw [hle.2 i v hv h2]
        dsimp only
        rw [ho] at h ⊢
        exact H _ _ _ _ _ (hle.put i _) h
  · have e1 := e K (rx_n r) pc a b lv' lv' st hp iv c s
    rw [e K (rx_n r) pc a b lv lv' st hp iv c s]
    cases hz : rx_sem ins K (rx_n r) pc a b lv' st hp iv c s with
    | none => rw [hz] at h; cases h
    | some l0 =>
      rw [hz] at h e1
      replace h : rx_all (f r) l0 = some l := h
      show rx_all (f' r) (l0.map (rm_lv lv)) = some l
      refine rm_all (fun x hx o ho => ?_) h
      have e2 : l0 = l0.map (rm_lv lv') := Option.some.inj e1
      rw [e2] at hx
      obtain ⟨y, -, hy⟩ := List.mem_map.mp hx
      obtain ⟨p, q, rest⟩ := x
      have : q = lv' := by have := congrArg (fun z : rx_S => z.2.1) hy; exact this.symm
      subst this
      exact H p q lv rest o hle ho
theorem rm_call {g' : rx_M → rx_S → Option (List rx_O)} {stat : Bool} (hg : ∀ q ∈ P, ∀ σ l, g q σ = some l → g' q σ = some l) (H : rm_ok r f f') (hle : rm_le lv' lv) (h : rx_call stat P g f r pc a b lv' st hp iv c s = some l) : rx_call stat P g' f' r pc a b lv st hp iv c s = some l := by
  unfold rx_call at h ⊢
  rcases ax_condY h with ⟨e, h⟩ | ⟨e, h⟩ <;> rw [e] <;> dsimp only [cond_true, cond_false]
  · unfold rx_inv1 at h ⊢
    match st, h with
    | [], h => cases h
    | v :: st', h =>
      dsimp only at h ⊢
      obtain ⟨hb, h⟩ := rx_cond h
      rw [hb]
      exact H _ _ _ _ _ hle h
  rcases ax_condY h with ⟨e, h⟩ | ⟨e, h⟩ <;> rw [e] <;> dsimp only [cond_true, cond_false]
  · unfold rx_inv2 at h ⊢
    cases hz : rx_cpy pc lv' st hp iv c s with
    | none => rw [hz] at h; cases h
    | some σ =>
      rw [hz] at h
      dsimp only at h
      obtain ⟨hb, hh⟩ := rx_cond h
      have : rx_cpy pc lv st hp iv c s = some (rm_lv lv σ) ∧ σ.2.1 = lv' := by
        unfold rx_cpy at hz ⊢
        split at hz
        · obtain ⟨h1, h2⟩ := rx_cond hz
          rw [h1]
          dsimp only [cond_true]
          split at h2
          · obtain ⟨h3, h4⟩ := rx_cond h2
            rw [h3]
            cases h4
            exact ⟨rfl, rfl⟩
          · cases h2
        · cases hz
      obtain ⟨t1, t2⟩ := this
      rw [t1]
      dsimp only
      rw [hb]
      obtain ⟨p, q, rest⟩ := σ
      replace t2 : q = lv' := t2
      subst t2
      exact H p q lv rest l hle hh
  rcases ax_condY h with ⟨e, h⟩ | ⟨e, h⟩ <;> rw [e] <;> dsimp only [cond_true, cond_false]
  · rcases ax_condY h with ⟨e, h⟩ | ⟨e, h⟩ <;> rw [e] <;> dsimp only [cond_true, cond_false]
    · unfold rx_invP at h ⊢
      cases hz : rx_prim (Nat.div b 4) st with
      | none => rw [hz] at h; cases h
      | some st' =>
        rw [hz] at h
        dsimp only at h ⊢
        obtain ⟨hb, h⟩ := rx_cond h
        rw [hb]
        exact H _ _ _ _ _ hle h
    · unfold rx_invS at h ⊢
      cases hz : rx_primS (Nat.div b 4) st with
      | none => rw [hz] at h; cases h
      | some st' =>
        rw [hz] at h
        dsimp only at h ⊢
        obtain ⟨hb, h⟩ := rx_cond h
        rw [hb]
        exact H _ _ _ _ _ hle h
  · unfold rx_inv at h ⊢
    cases hq : rx_nth P a with
    | none => rw [hq] at h; cases h
    | some q =>
      have hqP : q ∈ P := by rw [rx_nth_eq] at hq; exact List.mem_of_getElem? hq
      rw [hq] at h
      dsimp only at h ⊢
      cases hs : rx_spl (bif stat then rx_np (rx_n q) else Nat.succ (rx_np (rx_n q))) st [] with
      | none => rw [hs] at h; cases h
      | some w =>
        rw [hs] at h
        dsimp only at h ⊢
        obtain ⟨hb, h⟩ := rx_cond h
        rw [hb]
        show rx_inv3 g' f' r q pc lv hp iv c s w.1 w.2 = some l
        replace h : rx_inv3 g f r q pc lv' hp iv c s w.1 w.2 = some l := h
        unfold rx_inv3 at h ⊢
        cases ho : g q (0, rx_args w.1 (rx_mL (rx_n q)), [], hp, iv, 0, 0) with
        | none => rw [ho] at h; cases h
        | some outs =>
          rw [ho] at h
          rw [hg q hqP _ _ ho]
          dsimp only at h ⊢
          exact rm_all1 (fun x _ o hx => H _ _ _ _ _ hle hx) h
end RM
/-- more time, more known locals: the same -/
theorem rm_run {P : List rx_M} {K : rx_K} (hP : ∀ q ∈ P, rx_QW q ∧ rx_ST P K q) : ∀ (n m : Nat), n ≤ m → ∀ r ∈ P, ∀ (pc : Nat) (a b : List Nat) (rest : List Nat × rx_H × rx_I × Nat × Nat) (l : List rx_O), rm_le a b → rx_run P K n r (pc, a, rest) = some l → rx_run P K m r (pc, b, rest) = some l
  | 0, m, _, r, _, pc, a, b, rest, l, _, h => by cases h
  | n + 1, 0, hnm, r, _, pc, a, b, rest, l, _, h => by omega
  | n + 1, m + 1, hnm, r, hr, pc, a, b, rest, l, hle, h => by
    have ih := rm_run hP n m (by omega)
    have H : rm_ok r (rx_run P K n) (rx_run P K m) := fun pc a b rest l hle h => ih r hr pc a b rest l hle h
    have hg : ∀ q ∈ P, ∀ σ l, rx_run P K n q σ = some l → rx_run P K m q σ = some l := fun q hq σ l h => by
      obtain ⟨p, a, rest⟩ := σ
      exact ih q hq p a a rest l rm_le.rf h
    replace h : rx_go P K (rx_run P K n) (rx_run P K n) (fun o => some [o]) r (pc, a, rest) = some l := h
    show rx_go P K (rx_run P K m) (rx_run P K m) (fun o => some [o]) r (pc, b, rest) = some l
    unfold rx_go at h ⊢
    dsimp only at h ⊢
    cases hl : rx_look (rx_cd r) pc with
    | none => rw [hl] at h; cases h
    | some x =>
      rw [hl] at h
      dsimp only at h ⊢
      obtain ⟨⟨ch, hc1, hc2⟩, hpc⟩ := rx_look_ok hl
      obtain ⟨o1, o2, o3, o4, o5⟩ := (hP r hr).2 ch hc1 x hc2
      unfold rx_do at h ⊢
      rcases ax_condY h with ⟨e, h⟩ | ⟨e, h⟩ <;> rw [e] <;> dsimp only [cond_true, cond_false]
      · rw [o3 (rx_beq.mp e)] at h ⊢
        exact rm_nxt H hle _ h
      rcases ax_condY h with ⟨e, h⟩ | ⟨e, h⟩ <;> rw [e] <;> dsimp only [cond_true, cond_false]
      · exact rm_call hg H hle h
      rcases ax_condY h with ⟨e, h⟩ | ⟨e, h⟩ <;> rw [e] <;> dsimp only [cond_true, cond_false]
      · exact h
      rcases ax_condY h with ⟨e, h⟩ | ⟨e, h⟩ <;> rw [e] <;> dsimp only [cond_true, cond_false]
      · exact rm_call hg H hle h
      exact h
