/-! What an accepted text tells (names of other parts: pz_st py_82 ay_stp pz_be) -/
/-- what holds of the automaton's data -/
def py_iv (c : pz_C) : Prop := pz_md c = 21 ∨ (pz_no c ≤ 10 ∧ (pz_ls c).length ≤ 20 ∧ (∀ x ∈ pz_ls c, x.1 < pz_no c ∧ x.2 < pz_no c ∧ x.1 ≠ x.2) ∧ (pz_ro c < pz_no c ∨ (pz_no c = 0 ∧ pz_ro c = 0)) ∧ pz_rm c ≤ 3 ∧ (pz_md c = 5 → pz_o c < pz_no c) ∧ (pz_md c ≤ 1 → pz_ls c = [] ∧ pz_ro c = 0 ∧ pz_no c = 0) ∧ (pz_md c = 4 ∨ pz_md c = 5 → (pz_ls c).length ≤ 19))
theorem py_iv_mk {md p no : Nat} {ls : List (Nat × Nat)} {f : Bool × Bool × Bool} {un s o ro rm : Nat} (h : no ≤ 10 ∧ ls.length ≤ 20 ∧ (∀ x ∈ ls, x.1 < no ∧ x.2 < no ∧ x.1 ≠ x.2) ∧ (ro < no ∨ (no = 0 ∧ ro = 0)) ∧ rm ≤ 3) (h5 : md = 5 → o < no) (h1 : 2 ≤ md) (h4 : md = 4 ∨ md = 5 → ls.length ≤ 19) : py_iv (md, p, no, ls, f, un, s, o, ro, rm) :=
  Or.inr ⟨h.1, h.2.1, h.2.2.1, h.2.2.2.1, h.2.2.2.2, h5, fun z => by replace z : md ≤ 1 := z; omega, h4⟩
theorem py_iv_st {t N : Nat} {c : pz_C} (h : py_iv c) : py_iv (pz_st t N c) := by
  obtain ⟨md, p, no, ls, ⟨r, m, k⟩, un, s, o, ro, rm⟩ := c
  have fl : ∀ a b, py_iv (pz_fl a b) := fun a b => Or.inl rfl
  rcases h with h | ⟨h1, h2, h3, h4, h5, h6, h7, h8⟩
  · replace h : md = 21 := h
    subst h
    exact Or.inl rfl
  replace h1 : no ≤ 10 := h1
  replace h2 : ls.length ≤ 20 := h2
  replace h3 : ∀ x ∈ ls, x.1 < no ∧ x.2 < no ∧ x.1 ≠ x.2 := h3
  replace h4 : ro < no ∨ (no = 0 ∧ ro = 0) := h4
  replace h5 : rm ≤ 3 := h5
  replace h6 : md = 5 → o < no := h6
  replace h7 : md ≤ 1 → ls = [] ∧ ro = 0 ∧ no = 0 := h7
  replace h8 : md = 4 ∨ md = 5 → ls.length ≤ 19 := h8
  have b := And.intro h1 (And.intro h2 (And.intro h3 (And.intro h4 h5)))
  have n5 : ∀ {j : Nat}, j ≠ 5 → (j = 5 → o < no) := fun a z => absurd z a
  have n4 : ∀ {j : Nat}, j ≠ 4 → j ≠ 5 → (j = 4 ∨ j = 5 → ls.length ≤ 19) := fun a a2 z => by omega
  unfold pz_st
  dsimp only
  refine pz_ite (fun e => ?_) (fun _ => ?_)
  · refine pz_ite (fun _ => py_iv_mk b (n5 (by decide)) (by decide) (n4 (by decide) (by decide))) (fun _ => pz_ite (fun _ => ?_) (fun _ => fl _ _))
    exact Or.inr ⟨h1, h2, h3, h4, h5, fun z => (by cases z), fun _ => h7 (by omega), fun z => (by rcases z with z | z <;> cases z)⟩
  refine pz_ite (fun e => ?_) (fun _ => ?_)
  · refine pz_ite (fun _ => fl _ _) (fun _ => pz_ite (fun _ => fl _ _) (fun hv => ?_))
    obtain ⟨e1, e2, e3⟩ := h7 (by omega)
    exact py_iv_mk ⟨by omega, h2, by rw [e1]; exact fun x hx => (by cases hx), Or.inl (by omega), h5⟩ (fun z => by cases z) (by decide) (fun z => by rcases z with z | z <;> cases z)
  refine pz_ite (fun e => ?_) (fun _ => ?_)
  · exact pz_ite (fun _ => fl _ _) (fun _ => py_iv_mk b (n5 (by decide)) (by decide) (n4 (by decide) (by decide)))
  refine pz_ite (fun e => ?_) (fun _ => ?_)
  · refine pz_ite (fun _ => py_iv_mk b (n5 (by decide)) (by decide) (n4 (by decide) (by decide))) (fun _ => pz_ite (fun _ => pz_ite (fun _ => fl _ _) (fun hl => py_iv_mk b (n5 (by decide)) (by decide) (fun _ => by omega))) (fun _ => ?_))
    refine pz_ite (fun _ => py_iv_mk b (n5 (by decide)) (by decide) (n4 (by decide) (by decide))) (fun _ => ?_)
    refine pz_ite (fun _ => py_iv_mk b (n5 (by decide)) (by decide) (n4 (by decide) (by decide))) (fun _ => ?_)
    exact pz_ite (fun _ => py_iv_mk b (n5 (by decide)) (by decide) (n4 (by decide) (by decide))) (fun _ => fl _ _)
  refine pz_ite (fun e => ?_) (fun _ => ?_)
  · exact pz_ite (fun _ => fl _ _) (fun _ => pz_ite (fun _ => fl _ _) (fun hv => py_iv_mk b (fun _ => by omega) (by decide) (fun _ => h8 (Or.inl e))))
  refine pz_ite (fun e => ?_) (fun _ => ?_)
  · refine pz_ite (fun _ => fl _ _) (fun _ => pz_ite (fun _ => fl _ _) (fun hv => pz_ite (fun _ => fl _ _) (fun _ => ?_)))
    have ho := h6 e
    have hl := h8 (Or.inr e)
    refine py_iv_mk ⟨h1, by rw [List.length_append]; show ls.length + 1 ≤ 20; omega, fun x hx => ?_, h4, h5⟩ (fun z => by cases z) (by decide) (fun z => by rcases z with z | z <;> cases z)
    rcases List.mem_append.mp hx with hx | hx
    · exact h3 x hx
    · cases List.mem_singleton.mp hx
      exact ⟨ho, by omega, by omega⟩
  refine pz_ite (fun e => ?_) (fun _ => ?_)
  · exact pz_ite (fun _ => fl _ _) (fun _ => pz_ite (fun _ => fl _ _) (fun hv => py_iv_mk ⟨h1, h2, h3, Or.inl (by omega), h5⟩ (fun z => by cases z) (by decide) (fun z => by rcases z with z | z <;> cases z)))
  refine pz_ite (fun e => ?_) (fun _ => ?_)
  · exact pz_ite (fun _ => fl _ _) (fun _ => pz_ite (fun _ => fl _ _) (fun hv => py_iv_mk ⟨h1, h2, h3, h4, by omega⟩ (fun z => by cases z) (by decide) (fun z => by rcases z with z | z <;> cases z)))
  refine pz_ite (fun e => ?_) (fun _ => ?_)
  · refine pz_ite (fun _ => fl _ _) (fun _ => pz_ite (fun _ => fl _ _) (fun _ => pz_ite (fun _ => fl _ _) (fun _ => ?_)))
    refine pz_ite (fun _ => py_iv_mk b (fun z => by cases z) (by decide) (fun z => by rcases z with z | z <;> cases z)) (fun _ => ?_)
    exact pz_ite (fun _ => py_iv_mk b (fun z => by cases z) (by decide) (fun z => by rcases z with z | z <;> cases z)) (fun _ => py_iv_mk b (fun z => by cases z) (by decide) (fun z => by rcases z with z | z <;> cases z))
  refine pz_ite (fun e => ?_) (fun hn => ?_)
  · refine pz_ite (fun _ => py_iv_mk b (fun z => by cases z) (by decide) (fun z => by rcases z with z | z <;> cases z)) (fun _ => ?_)
    refine pz_ite (fun _ => py_iv_mk b (fun z => by cases z) (by decide) (fun z => by rcases z with z | z <;> cases z)) (fun _ => ?_)
    exact pz_ite (fun _ => fl _ _) (fun _ => pz_ite (fun _ => fl _ _) (fun _ => py_iv_mk b (fun z => by cases z) (by decide) (fun z => by rcases z with z | z <;> cases z)))
  · exact Or.inr ⟨h1, h2, h3, h4, h5, h6, h7, h8⟩
theorem py_iv_cf {t N : Nat} : ∀ n, py_iv (pz_cf t N n)
  | 0 => Or.inr ⟨Nat.zero_le _, Nat.zero_le _, fun x hx => (by cases hx), Or.inr ⟨rfl, rfl⟩, (show (1 : Nat) ≤ 3 from by decide), fun z => (by cases z), fun _ => ⟨rfl, rfl, rfl⟩, fun z => (by rcases z with z | z <;> cases z)⟩
  | n + 1 => py_iv_st (py_iv_cf n)
/-- the ends of channels -/
def py_E (ls : List (Nat × Nat)) (j : Nat) : Nat := if j % 2 = 0 then (ls[j / 2]?.getD (0, 0)).1 else (ls[j / 2]?.getD (0, 0)).2
def py_Cd (l : List Nat) (k : Nat) : Nat := l.reverse[k]?.getD 0
theorem py_E_at {ls : List (Nat × Nat)} {l : Nat} (h : l < ls.length) : ls[l]? = some (py_E ls (2 * l), py_E ls (2 * l + 1)) := by
  unfold py_E
  rw [if_pos (show 2 * l % 2 = 0 by omega), if_neg (show ¬ (2 * l + 1) % 2 = 0 by omega), show 2 * l / 2 = l by omega, show (2 * l + 1) / 2 = l by omega]
  obtain ⟨x, hx⟩ : ∃ x, ls[l]? = some x := ⟨_, List.getElem?_eq_getElem h⟩
  rw [hx]; rfl
theorem py_nt {t N n : Nat} (h : pz_md (pz_cf t N n) = 20) : nt_ok (pz_no (pz_cf t N n)) (pz_ls (pz_cf t N n)).length (py_E (pz_ls (pz_cf t N n))) ∧ (pz_ro (pz_cf t N n) < pz_no (pz_cf t N n) ∨ pz_no (pz_cf t N n) = 0) ∧ pz_ro (pz_cf t N n) < 10 ∧ pz_rm (pz_cf t N n) ≤ 3 := by
  rcases py_iv_cf (t := t) (N := N) n with z | ⟨h1, h2, h3, h4, h5, -⟩
  · rw [h] at z; cases z
  refine ⟨⟨h1, h2, fun j hj => ?_⟩, h4.elim Or.inl (fun z => Or.inr z.1), by omega, h5⟩
  have e := py_E_at (ls := pz_ls (pz_cf t N n)) (l := j / 2) (by omega)
  obtain ⟨x1, x2, x3⟩ := h3 _ (List.mem_of_getElem? e)
  unfold nf
  by_cases hj2 : j % 2 = 0
  · rw [if_pos hj2]
    rw [show 2 * (j / 2) = j by omega] at x1 x2 x3
    exact ⟨x1, x3⟩
  · rw [if_neg hj2]
    rw [show 2 * (j / 2) = j - 1 by omega, show j - 1 + 1 = j by omega] at x1 x2 x3
    exact ⟨x2, fun z => x3 z.symm⟩
theorem py_lkE {ls : List (Nat × Nat)} {be fi : Nat → Option Nat} (h : pz_lk ls be fi) {c : Nat} (hc : c < 2 * ls.length) : be c = some (4 * py_E ls c) ∧ fi c = some (4 * py_E ls (nf c)) := by
  have e := py_E_at (ls := ls) (l := c / 2) (by omega)
  obtain ⟨a1, a2, a3, a4⟩ := h _ _ _ e
  unfold nf
  by_cases hj2 : c % 2 = 0
  · rw [if_pos hj2]
    rw [show 2 * (c / 2) = c by omega] at a1 a2
    exact ⟨a1, a2⟩
  · rw [if_neg hj2]
    rw [show 2 * (c / 2) + 1 = c by omega] at a3 a4
    rw [show 2 * (c / 2) = c - 1 by omega] at a4
    exact ⟨a3, a4⟩
/-- the codes are told by one list -/
theorem py_cx_fin {t N n : Nat} (h : pz_md (pz_cf t N n) = 20) : ∀ k, py_cx t N (n + k) = py_cx t N n
  | 0 => rfl
  | k + 1 => by
    show py_st t N (pz_cf t N (n + k)) (py_cx t N (n + k)) = _
    rw [py_cx_fin h k, pz_fin (Or.inl h) k]
    unfold py_st
    rw [if_neg (by rw [h]; decide), if_neg (by rw [h]; decide)]
theorem py_82_one {g l l' : Nat} (h : py_82 g l) (h' : py_82 g l') : py_L (l / 4) = py_L (l' / 4) := by
  obtain ⟨n, a1, a2, -⟩ := h
  obtain ⟨m, b1, b2, -⟩ := h'
  have key : ∀ {n m : Nat}, n ≤ m → pz_md (pz_cf (pz_gt g) (pz_gN g) n) = 20 → py_cx (pz_gt g) (pz_gN g) m = py_cx (pz_gt g) (pz_gN g) n := fun {n m} hnm h => by
    obtain ⟨k, rfl⟩ := Nat.le.dest hnm
    exact py_cx_fin h k
  rcases Nat.le_total n m with z | z
  · have := key z a1
    rw [a2, b2] at this
    exact (congrArg Prod.snd this).symm
  · have := key z b1
    rw [a2, b2] at this
    exact congrArg Prod.snd this
theorem py_cf_one {t N n m : Nat} (h : pz_md (pz_cf t N n) = 20) (h' : pz_md (pz_cf t N m) = 20) : pz_cf t N n = pz_cf t N m := pz_one (Or.inl h) (Or.inl h')
theorem py_Cd_at {l : List Nat} {k c : Nat} (h : l.reverse[k]? = some c) : py_Cd l k = c := by unfold py_Cd; rw [h]; rfl
theorem py_Cd_ex {l : List Nat} {k : Nat} (h : k < l.length) : l.reverse[k]? = some (py_Cd l k) := by
  unfold py_Cd
  rw [List.getElem?_eq_getElem (by rw [List.length_reverse]; exact h)]; rfl
/-- a good rule is a good code -/
theorem py_cdok {b l : Nat} {rd : Option Nat} {ru : Nat → Option Nat} (h1 : py_y241 b l rd ru) (h2 : ay_M26 b ru rd) (h80 : (py_L (l / 4)).length ≤ 80) : cd_ok (py_Cd (py_L (l / 4))) (py_L (l / 4)).length := by
  obtain ⟨-, e1, e2⟩ := h1
  have hh : ∀ k, k ≤ (py_L (l / 4)).length → ay_ht ru (100 * b) k = some (hgt (py_Cd (py_L (l / 4))) k) ∧ (k < (py_L (l / 4)).length → py_Cd (py_L (l / 4)) k ≤ 1008 ∧ (py_Cd (py_L (l / 4)) k = 1008 → 1 ≤ hgt (py_Cd (py_L (l / 4))) k) ∧ (1003 ≤ py_Cd (py_L (l / 4)) k → py_Cd (py_L (l / 4)) k ≠ 1008 → 2 ≤ hgt (py_Cd (py_L (l / 4))) k) ∧ (py_Cd (py_L (l / 4)) k < 1003 → py_Cd (py_L (l / 4)) k ≤ 1002)) := by
    have stp : ∀ k, k < (py_L (l / 4)).length → ay_ht ru (100 * b) k = some (hgt (py_Cd (py_L (l / 4))) k) → ay_ht ru (100 * b) (k + 1) = some (hgt (py_Cd (py_L (l / 4))) (k + 1)) ∧ py_Cd (py_L (l / 4)) k ≤ 1008 ∧ (py_Cd (py_L (l / 4)) k = 1008 → 1 ≤ hgt (py_Cd (py_L (l / 4))) k) ∧ (1003 ≤ py_Cd (py_L (l / 4)) k → py_Cd (py_L (l / 4)) k ≠ 1008 → 2 ≤ hgt (py_Cd (py_L (l / 4))) k) ∧ (py_Cd (py_L (l / 4)) k < 1003 → py_Cd (py_L (l / 4)) k ≤ 1002) := by
      intro k hk hk2
      have hne := h2 (k + 1) (by rw [e1]; exact hk)
      have hs := ay_ht_s hk2 (e2 k _ (py_Cd_ex hk))
      rw [hs] at hne ⊢
      have hg : hgt (py_Cd (py_L (l / 4))) (k + 1) = if py_Cd (py_L (l / 4)) k = 1008 then hgt (py_Cd (py_L (l / 4))) k else if 1003 ≤ py_Cd (py_L (l / 4)) k then hgt (py_Cd (py_L (l / 4))) k - 1 else hgt (py_Cd (py_L (l / 4))) k + 1 := rfl
      rw [hg]
      generalize py_Cd (py_L (l / 4)) k = c at hne ⊢
      generalize hgt (py_Cd (py_L (l / 4))) k = h at hne ⊢
      unfold ay_stp at hne ⊢
      rw [show 4 * c / 4 = c by omega] at hne ⊢
      by_cases c1 : c ≤ 1002
      · rw [if_pos c1, if_neg (by omega), if_neg (by omega)]
        exact ⟨rfl, by omega, by omega, by omega, by omega⟩
      rw [if_neg c1] at hne ⊢
      by_cases c2 : c = 1008
      · rw [if_pos c2] at hne ⊢
        by_cases c3 : 1 ≤ h
        · rw [if_pos c3, if_pos c2]
          exact ⟨rfl, by omega, by omega, by omega, by omega⟩
        · rw [if_neg c3] at hne; exact absurd rfl hne
      rw [if_neg c2] at hne ⊢
      by_cases c4 : c ≤ 1007
      · rw [if_pos c4] at hne ⊢
        by_cases c3 : 2 ≤ h
        · rw [if_pos c3, if_neg c2, if_pos (by omega)]
          exact ⟨rfl, by omega, by omega, by omega, by omega⟩
        · rw [if_neg c3] at hne; exact absurd rfl hne
      · rw [if_neg c4] at hne; exact absurd rfl hne
    intro k
    induction k with
    | zero => exact fun _ => ⟨rfl, fun hk => (stp 0 hk rfl).2⟩
    | succ k ih => exact fun hk => ⟨(stp k hk (ih (by omega)).1).1, fun hk2 => (stp (k + 1) hk2 (stp k hk (ih (by omega)).1).1).2⟩
  exact ⟨h80, fun k hk => (hh k (by omega)).2 hk⟩
theorem hgt_pos {C : Nat → Nat} {N : Nat} (h : cd_ok C N) : ∀ k, k < N → 1 ≤ hgt C (k + 1)
  | 0, hk => by
    obtain ⟨-, a2, a3, -⟩ := h.2 0 hk
    have h0 : hgt C 0 = 0 := rfl
    have hg : hgt C (0 + 1) = if C 0 = 1008 then hgt C 0 else if 1003 ≤ C 0 then hgt C 0 - 1 else hgt C 0 + 1 := rfl
    rw [hg]
    by_cases c2 : C 0 = 1008
    · have := a2 c2; omega
    · rw [if_neg c2]
      by_cases c3 : 1003 ≤ C 0
      · have := a3 c3 c2; omega
      · rw [if_neg c3]; omega
  | k + 1, hk => by
    have ih := hgt_pos h k (by omega)
    obtain ⟨-, a2, a3, -⟩ := h.2 (k + 1) hk
    have hg : hgt C (k + 1 + 1) = if C (k + 1) = 1008 then hgt C (k + 1) else if 1003 ≤ C (k + 1) then hgt C (k + 1) - 1 else hgt C (k + 1) + 1 := rfl
    rw [hg]
    by_cases c2 : C (k + 1) = 1008
    · rw [if_pos c2]; exact ih
    · rw [if_neg c2]
      by_cases c3 : 1003 ≤ C (k + 1)
      · have := a3 c3 c2; rw [if_pos c3]; omega
      · rw [if_neg c3]; omega
theorem hgt_N {C : Nat → Nat} {N : Nat} (h : cd_ok C N) (h0 : N ≠ 0) : 0 < hgt C N := by
  obtain ⟨k, rfl⟩ := Nat.exists_eq_succ_of_ne_zero h0
  exact hgt_pos h k (Nat.lt_succ_self k)
/-- the class's way to tell a code -/
theorem py_cop {o v c : Nat} (h : py_ok o v c) (hc : c ≤ 1008 ∧ (c < 1003 → c ≤ 1002)) : o = cop c ∧ (c < 1000 → v = c) := by
  unfold cop
  rcases h with ⟨h1, h2, h3⟩ | ⟨h1, h2⟩ | ⟨h1, h2⟩ | ⟨h1, h2⟩ | ⟨h1, h2⟩ | ⟨h1, h2⟩ | ⟨h1, h2⟩ | ⟨h1, h2⟩ | ⟨h1, h2⟩ | ⟨h1, h2⟩
  · rw [if_neg (by omega), if_neg (by omega), if_neg (by omega), if_neg (by omega), if_neg (by omega), if_neg (by omega), if_neg (by omega), if_neg (by omega), if_neg (by omega)]
    exact ⟨h1, fun _ => h2⟩
  all_goals (subst h2; exact ⟨h1, fun z => absurd z (by decide)⟩)
