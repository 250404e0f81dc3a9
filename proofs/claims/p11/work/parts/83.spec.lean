/-! feed, end, net: what becomes of the sizes -/
noncomputable def lw_c (cs : List ax_C) (k : Nat) : ax_C := cs.getD k (([], (0, [], [], [], [])), [], [])
theorem lw_szT {hp : rx_H} {s : Nat} (hT : ax_HT ax_wC hp) (h : ay_at hp 8 1 = some s) : ∃ n, s = 4 * n ∧ n ≤ 800 := by
  obtain ⟨k, n, tl, f, b1, b2, b3, b4⟩ := hT.2 8 2 rfl
  rw [ay_eq b2] at h
  obtain ⟨t, t1, t2⟩ := b4 1 s h
  have e : (ax_wC.2.1[2]?).map (fun z => ax_at z.2.2 1) = some (some (0, 2147483648, 2147484448)) := rfl
  rw [b1] at e
  have e := Option.some.inj e
  dsimp only at e
  rw [t1] at e
  cases e
  rcases t2 with ⟨-, q1, q2, q3, q4⟩ | ⟨q, -⟩ | ⟨q, -⟩ | ⟨q, -⟩
  · replace q3 : 2147483648 ≤ rx_bi (s / 4) := q3
    replace q4 : rx_bi (s / 4) ≤ 2147484448 := q4
    obtain ⟨z1, z2⟩ := ax_bi_pos q2 q3
    exact ⟨s / 4, by omega, by omega⟩
  · cases q
  · cases q
  · cases q
theorem lw_EOf {w : ax_W} {X : ax_X} {hp : rx_H} {vals : List Nat} {ty : List ax_Y} {t : ax_Y} {x a i q j : Nat} {need : List ax_N} (hl : ty.length = vals.length) (hty : ∀ (k : Nat) (u : ax_Y), ty[k]? = some u → ax_ok w u (rx_int (vals.getD k 0))) (ht : ax_ok w t x) (ea : a = 4 * (q + 2) + 2) (ei : i = 4 * j) (hc : ay_at hp q j = some x)
    (hN : ∀ y ∈ need, ax_NO X (vals.length + 1) (lw_ro (vals.map rx_int ++ [x])) hp y) : ax_EO w X (lw_ro (vals.map rx_int ++ [x])) (vals.length + 1, t :: ty.reverse, [(a, i, 4 * vals.length + 3)], [], need) hp := by
  have en : lw_ro (vals.map rx_int ++ [x]) vals.length = x := by
    show (vals.map rx_int ++ [x]).getD vals.length 0 = x
    rw [List.getD_eq_getElem?_getD, List.getElem?_append_right (by simp)]
    simp
  refine ⟨by simp [hl], fun k u hk hu => ?_, fun f hf => ?_, (fun d hd => by cases hd), hN⟩
  · replace hk : k < vals.length + 1 := hk
    replace hu : (t :: ty.reverse)[vals.length + 1 - 1 - k]? = some u := hu
    rcases Nat.lt_or_ge k vals.length with h1 | h1
    · rw [show vals.length + 1 - 1 - k = (vals.length - 1 - k) + 1 by omega, List.getElem?_cons_succ, List.getElem?_reverse (by omega), hl, show vals.length - 1 - (vals.length - 1 - k) = k by omega] at hu
      have e : lw_ro (vals.map rx_int ++ [x]) k = rx_int (vals.getD k 0) := by
        show (vals.map rx_int ++ [x]).getD k 0 = _
        rw [List.getD_eq_getElem?_getD, List.getElem?_append_left (by simpa using h1), List.getElem?_map, List.getD_eq_getElem?_getD, List.getElem?_eq_getElem h1]
        rfl
      rw [e]
      exact hty k u hu
    · have hk0 : k = vals.length := by omega
      subst hk0
      rw [show vals.length + 1 - 1 - vals.length = 0 by omega] at hu
      cases hu
      rw [en]
      exact ht
  · cases List.mem_singleton.mp hf
    cases e : rx_hg hp q with
    | none =>
      unfold ay_at at hc
      rw [e] at hc
      cases hc
    | some cl =>
      obtain ⟨kk, m, f⟩ := cl
      rw [ay_eq e] at hc
      refine ⟨a, i, x, kk, m, f, (show ax_ev _ _ a = some a from ax_ev_c (by omega)), (show ax_ev _ _ i = some i from ax_ev_c (by omega)), ?_, by omega, by omega, by omega, by rw [show a / 4 - 2 = q by omega]; exact e, by rw [show i / 4 = j by omega]; exact hc⟩
      show ax_ev (vals.length + 1) (lw_ro (vals.map rx_int ++ [x])) (4 * vals.length + 3) = some x
      unfold ax_ev
      rw [if_pos (by omega), if_pos (by omega), show (4 * vals.length + 3) / 4 = vals.length by omega, en]
/-- the content of a cell that is told -/
theorem lw_FO {w : ax_W} {X : ax_X} {ρ : Nat → Nat} {E : ax_E} {hp : rx_H} {a i v q j : Nat} (hE : ax_EO w X ρ E hp) (h : (a, i, v) ∈ E.2.2.1) (ea : a = 4 * (q + 2) + 2) (ei : i = 4 * j) : ay_at hp q j = some (ax_vl ρ v) := by
  obtain ⟨a', i', v', k, m, f, e1, e2, e3, e4, e5, e6, e7, e8⟩ := hE.2.2.1 _ h
  rw [ax_ev_c (show a % 4 ≠ 3 by omega)] at e1
  rw [ax_ev_c (show i % 4 ≠ 3 by omega)] at e2
  have e1 := Option.some.inj e1
  have e2 := Option.some.inj e2
  subst e1
  subst e2
  rw [show a / 4 - 2 = q by omega] at e7
  rw [show i / 4 = j by omega] at e8
  rw [ay_eq e7, e8]
  have e3' : ax_ev E.1 ρ v = some v' := e3
  unfold ax_ev at e3'
  unfold ax_vl
  by_cases h3 : v % 4 = 3
  · rw [if_pos h3] at e3' ⊢
    by_cases hl : v / 4 < E.1
    · rw [if_pos hl] at e3'
      exact e3'.symm
    · rw [if_neg hl] at e3'; cases e3'
  · rw [if_neg h3] at e3' ⊢
    exact e3'.symm
theorem lw_ev_vl {n : Nat} {ρ : Nat → Nat} {v x : Nat} (h : ax_ev n ρ v = some x) : x = ax_vl ρ v := by
  unfold ax_ev at h
  unfold ax_vl
  by_cases h3 : v % 4 = 3
  · rw [if_pos h3] at h ⊢
    by_cases hl : v / 4 < n
    · rw [if_pos hl] at h
      exact (Option.some.inj h).symm
    · rw [if_neg hl] at h; cases h
  · rw [if_neg h3] at h ⊢
    exact (Option.some.inj h).symm
theorem lw_sum {w : ax_W} {X : ax_X} {ρ : Nat → Nat} {E : ax_E} {hp : rx_H} {p q r a m : Nat} (hE : ax_EO w X ρ E hp) (h : (1015, [p, q, r, 0]) ∈ E.2.2.2.2) (hq : q = 4 * m) (ha : ax_vl ρ p = 4 * a) (hm : a + m < 2147483648) : ax_vl ρ r = 4 * (a + m) := by
  obtain ⟨x, y, z, e1, e2, e3, l1, l2, l3, hs⟩ := ax_gs hE p q r h
  rw [ax_vl_c (show q % 4 ≠ 3 by omega)] at e2
  replace hs : (x + 2147483648) % 4294967296 + (y + 2147483648) % 4294967296 = (z + 2147483648) % 4294967296 + 2147483648 := hs
  rw [e3]
  omega
noncomputable def lw_fs (n : Nat) : Nat := if n ≤ 780 then n + 20 else n
noncomputable def lw_fa (n : Nat) : Nat := if n ≤ 780 then 4 * (n + 20) else 17179869180
noncomputable def lw_es (n a : Nat) : Nat := if a < 2147483648 ∧ a ≤ n then a else n
noncomputable def lw_ea (n a : Nat) : Nat := if a < 2147483648 ∧ a ≤ n then 4 * a else 17179869180
theorem lw_bi {n : Nat} (h : n < 2147483648) : rx_bi n = n + 2147483648 := by
  show (n + 2147483648) % 4294967296 = _
  omega
theorem lw_biN {n : Nat} (h : 2147483648 ≤ n) (h2 : n < 4294967296) : rx_bi n = n - 2147483648 := by
  show (n + 2147483648) % 4294967296 = _
  omega
theorem lw_ok4 {w : ax_W} {n lo hi : Nat} (h : n < 2147483648) (h1 : lo ≤ n + 2147483648) (h2 : n + 2147483648 ≤ hi) : ax_ok w (0, lo, hi) (4 * n) := by
  refine Or.inl ⟨rfl, by omega, by omega, ?_, ?_⟩
  · show lo ≤ rx_bi (4 * n / 4)
    rw [show 4 * n / 4 = n by omega, lw_bi h]
    exact h1
  · show rx_bi (4 * n / 4) ≤ hi
    rw [show 4 * n / 4 = n by omega, lw_bi h]
    exact h2
theorem lw_vl3 {ρ : Nat → Nat} {k : Nat} : ax_vl ρ (4 * k + 3) = ρ k := by
  unfold ax_vl
  rw [if_pos (by omega), show (4 * k + 3) / 4 = k by omega]
/-- symbols by a list -/
theorem lw_EOl {w : ax_W} {X : ax_X} {hp : rx_H} {vs : List Nat} {ts : List ax_Y} {fs : List (Nat × Nat × Nat)} {xf : List ax_N} (hl : ts.length = vs.length) (hty : ∀ (k : Nat) (u : ax_Y), ts[k]? = some u → ax_ok w u (vs.getD k 0)) (hf : ∀ f ∈ fs, ax_FO vs.length (lw_ro vs) hp f) (hN : ∀ y ∈ xf, ax_NO X vs.length (lw_ro vs) hp y) : ax_EO w X (lw_ro vs) (vs.length, ts.reverse, fs, [], xf) hp := by
  refine ⟨by simp [hl], fun k u hk hu => ?_, hf, (fun d hd => by cases hd), hN⟩
  replace hk : k < vs.length := hk
  replace hu : ts.reverse[vs.length - 1 - k]? = some u := hu
  rw [List.getElem?_reverse (by omega), hl, show vs.length - 1 - (vs.length - 1 - k) = k by omega] at hu
  exact hty k u hu
theorem lw_FOc {n a i q j m x : Nat} {hp : rx_H} {ρ : Nat → Nat} (ea : a = 4 * (q + 2) + 2) (ei : i = 4 * j) (hc : ay_at hp q j = some x) (hm : m < n) (hx : ρ m = x) : ax_FO n ρ hp (a, i, 4 * m + 3) := by
  cases e : rx_hg hp q with
  | none =>
    unfold ay_at at hc
    rw [e] at hc
    cases hc
  | some cl =>
    obtain ⟨kk, mm, f⟩ := cl
    rw [ay_eq e] at hc
    refine ⟨a, i, x, kk, mm, f, (show ax_ev _ _ a = some a from ax_ev_c (by omega)), (show ax_ev _ _ i = some i from ax_ev_c (by omega)), ?_, by omega, by omega, by omega, by rw [show a / 4 - 2 = q by omega]; exact e, by rw [show i / 4 = j by omega]; exact hc⟩
    show ax_ev n ρ (4 * m + 3) = some x
    unfold ax_ev
    rw [if_pos (by omega), if_pos (by omega), show (4 * m + 3) / 4 = m by omega, hx]
noncomputable def lw_fg (g a1 a2 a3 a4 a5 : Nat) : Nat := if pz_gN g ≤ 780 then pz_a20 a1 a2 a3 a4 a5 g 20 else g
noncomputable def lw_eg (g a : Nat) : Nat := if a < 2147483648 ∧ a ≤ pz_gN g then pz_cut g a else g
theorem lw_fg1 {g a1 a2 a3 a4 a5 : Nat} (h : g % 4 = 1) : lw_fg g a1 a2 a3 a4 a5 % 4 = 1 := by
  unfold lw_fg
  by_cases hn : pz_gN g ≤ 780
  · rw [if_pos hn]
    show pz_ap _ _ % 4 = 1
    rw [← pz_ap_4]
    omega
  · rw [if_neg hn]; exact h
theorem lw_eg1 {g a : Nat} (h : g % 4 = 1) : lw_eg g a % 4 = 1 := by
  unfold lw_eg
  by_cases hn : a < 2147483648 ∧ a ≤ pz_gN g
  · rw [if_pos hn, ← pz_cut_4]; omega
  · rw [if_neg hn]; exact h
/-- an int's cell -/
theorem lw_int {w : ax_W} {hp : rx_H} {q g j lo hi : Nat} (hT : ax_HT w hp) (hw : w.1[q]? = some g) (hn : ∃ n, (w.2.1[g]?).map (fun z => z.2.1) = some n ∧ j < n) (ht : (w.2.1[g]?).bind (fun z => ax_at z.2.2 j) = some (0, lo, hi)) : ∃ x, ay_at hp q j = some x ∧ x % 4 = 0 ∧ x / 4 < 4294967296 ∧ lo ≤ rx_bi (x / 4) ∧ rx_bi (x / 4) ≤ hi := by
  obtain ⟨n, h1, h2⟩ := hn
  obtain ⟨x, hx⟩ := ay_some hT hw h1 h2
  rcases ay_typ hT hw ht hx with ⟨-, h⟩ | ⟨h, -⟩ | ⟨h, -⟩ | ⟨h, -⟩
  · exact ⟨x, hx, h⟩
  · cases h
  · cases h
  · cases h
theorem lw_i4 (a : Nat) : rx_int a / 4 = a := by
  show 4 * a / 4 = a
  omega
theorem lw_3 {n : Nat} {ρ : Nat → Nat} (h : 0 < n) : ([3] : List Nat).map (ax_ev n ρ) = ([ρ 0] : List Nat).map some := by
  show [ax_ev n ρ 3] = [some (ρ 0)]
  unfold ax_ev
  rw [if_pos (by decide), if_pos h]
/-- two numbers are one -/
theorem lw_same {x y : Option Nat} {u v : Nat} (hx : x = some u) (hy : y = some v) (hu : u % 4 = 0) (hv : v % 4 = 0) (h : ay_ln x = ay_ln y) : x = y := by
  subst hx hy
  replace h : u / 4 = v / 4 := h
  exact congrArg some (by omega)
theorem lw_f63 {t N fa fp fa' fp' : Nat} (h : pz63 t N fa fp) (h' : pz63 t N fa' fp') : fa = fa' ∧ fp = fp' := by
  obtain ⟨n, h⟩ := h
  obtain ⟨m, h'⟩ := h'
  have e := pz_one (t := t) (N := N) (n := n) (m := m) (Or.inr (by rw [h]; rfl)) (Or.inr (by rw [h']; rfl))
  rw [h, h'] at e
  have e1 : pz_un (pz_fl fa fp) = pz_un (pz_fl fa' fp') := congrArg _ e
  have e2 : pz_no (pz_fl fa fp) = pz_no (pz_fl fa' fp') := congrArg _ e
  exact ⟨e1, e2⟩
theorem lw_f63no {g v fa fp : Nat} (h : pz63 (pz_gt g) (pz_gN g) fa fp) (h' : pz_x126 g v) : False := by
  obtain ⟨n, h⟩ := h
  obtain ⟨m, h', -⟩ := h'
  have e := pz_one (t := pz_gt g) (N := pz_gN g) (n := n) (m := m) (Or.inr (by rw [h]; rfl)) (Or.inl h')
  rw [h] at e
  have e1 : pz_md (pz_fl fa fp) = 20 := (congrArg pz_md e).trans h'
  cases e1
theorem lw_f126 {g v v' : Nat} (h : pz_x126 g v) (h' : pz_x126 g v') : v / 4 = v' / 4 := by
  obtain ⟨n, h1, h2⟩ := h
  obtain ⟨m, h1', h2'⟩ := h'
  have e := pz_one (t := pz_gt g) (N := pz_gN g) (n := n) (m := m) (Or.inl h1) (Or.inl h1')
  rw [e] at h2
  omega
section LWS
variable {l : Launch} {cy : Nat → ClassId} {D : va_G} {hp : rx_H} {b : Nat} {wM : ax_W}
/-- the net's answer: of the class, of the reference -/
noncomputable def lw_nC (g v : Nat) (hp : rx_H) : Prop := (v = 17179869180 ∧ pz63 (pz_gt g) (pz_gN g) (ay_ln (ay_at hp 8 3)) (ay_ln (ay_at hp 8 4))) ∨ (pz_x126 g v ∧ ay_ln (ay_at hp 8 3) = 0 ∧ ay_ln (ay_at hp 8 4) = 4294967295)
noncomputable def lw_nM (g v : Nat) (hp : rx_H) : Prop := (v = 17179869180 ∧ pz63 (pz_gt g) (pz_gN g) (ay_ln (ay_at hp 173 20)) (ay_ln (ay_at hp 173 21))) ∨ (pz_x126 g v ∧ ay_ln (ay_at hp 173 20) = 0 ∧ ay_ln (ay_at hp 173 21) = 4294967295)
theorem lw_net2 {g v v' : Nat} {hp : rx_H} (hT : ax_HT ax_wC hp) (h : lw_nC g v hp) (h' : lw_nM g v' hp) (hv : v % 4 = 0) (hv' : v' % 4 = 0) : v = v' ∧ lw_F hp := by
  obtain ⟨a, ha, ha1, -⟩ := lw_int hT (q := 8) (g := 2) (j := 3) rfl ⟨_, rfl, by decide⟩ rfl
  obtain ⟨c, hc, hc1, -⟩ := lw_int hT (q := 8) (g := 2) (j := 4) rfl ⟨_, rfl, by decide⟩ rfl
  obtain ⟨d, hd, hd1, -⟩ := lw_int hT (q := 173) (g := 11) (j := 20) rfl ⟨_, rfl, by decide⟩ rfl
  obtain ⟨e, he, he1, -⟩ := lw_int hT (q := 173) (g := 11) (j := 21) rfl ⟨_, rfl, by decide⟩ rfl
  rcases h with ⟨h1, h2⟩ | ⟨h1, h2, h3⟩
  · rcases h' with ⟨k1, k2⟩ | ⟨k1, k2, k3⟩
    · obtain ⟨z1, z2⟩ := lw_f63 h2 k2
      exact ⟨h1.trans k1.symm, lw_same ha hd ha1 hd1 z1, lw_same hc he hc1 he1 z2⟩
    · exact absurd (lw_f63no h2 k1) id
  · rcases h' with ⟨k1, k2⟩ | ⟨k1, k2, k3⟩
    · exact absurd (lw_f63no k2 h1) id
    · exact ⟨by have := lw_f126 h1 k1; omega, lw_same ha hd ha1 hd1 (h2.trans k2.symm), lw_same hc he hc1 he1 (h3.trans k3.symm)⟩
/-- a call of the class that leaves the fault and the draft's rows -/
theorem lw_clsS {hp' : rx_H} {md : List (Nat × Nat)} {g : Nat} (w : lw_W b wM) (hB : lw_B b wM hp) (h31 : lw_31 hp) (hF : lw_F hp) (hM : lw_x30M g hp) (h1 : ax_HT ax_wC hp') (h2 : ax_XC 0 [80] hp') (h3 : ax_HR ax_wC md hp hp') (m1 : md.all (fun x => lw_isC x.1) = true) (k2 : lw_nm md 2 3 = true) (k3 : lw_nm md 2 4 = true) (k4 : lw_nm md 1 6 = true) (k5 : lw_nm md 1 7 = true) (k6 : lw_nm md 1 10 = true) (k7 : lw_nm md 1 11 = true) : lw_B b wM hp' ∧ lw_31 hp' ∧ lw_F hp' ∧ lw_x30M g hp' ∧ lw_fC hp hp' := by
  have hT := hB.1
  obtain ⟨s1, s2⟩ := lw_sameM hT h3 m1
  have c := fun i h => lw_ayE (i := i) (q := 8) (g := 2) h3 (ax_cellT hT (g := 2) rfl) rfl (lw_nm_ok h)
  have d := fun i h => lw_ayE (i := i) (q := 10) (g := 1) h3 (ax_cellT hT (g := 1) rfl) rfl (lw_nm_ok h)
  refine ⟨lw_cls w hB h1 h2 h3 m1, ?_, ?_, ?_, _, m1, h3⟩
  · unfold lw_31 at *
    rw [d _ k4, d _ k5, d _ k6, d _ k7]
    exact h31
  · unfold lw_F at *
    rw [c _ k2, c _ k3, s1, s1]
    exact hF
  · unfold lw_x30M at *
    rw [s1, s2]
    exact hM
theorem lw_szC {g : Nat} (hT : ax_HT ax_wC hp) (hC : lw_x30C g hp) : ∃ n, n ≤ 800 ∧ n = pz_gN g ∧ ay_at hp 8 1 = some (4 * n) := by
  obtain ⟨x, hx, h1, h2, h3, h4⟩ := lw_int hT (q := 8) (g := 2) (j := 1) rfl ⟨_, rfl, by decide⟩ rfl
  have e := hC.1
  rw [hx] at e
  replace e : x / 4 = pz_gN g := e
  have hl := hC.2.1
  exact ⟨x / 4, by omega, e, by rw [hx]; exact congrArg some (by omega)⟩
theorem lw_xC {g : Nat} (hT : ax_HT ax_wC hp) (hC : lw_x30C g hp) : ax_XC 30 [g] hp := ⟨ax_cellT hT (g := 2) rfl, ax_cellT hT (g := 20) rfl, hC⟩
set_option maxHeartbeats 1000000 in
theorem lw_feedC (hA : ∀ B, ax_Low ax_wC ax_XC rx_P ax_APC rx_P (rx_DF, rx_FK) B) (w : lw_W b wM) (hB : lw_B b wM hp) (h31 : lw_31 hp) (hF : lw_F hp) {g a1 a2 a3 a4 a5 : Nat} (hg : g % 4 = 1) (hC : lw_x30C g hp) (hM : lw_x30M g hp) (hv : ∀ v ∈ [a1, a2, a3, a4, a5], v < 4294967296) :
    ax_Wp rx_P (rx_DF, rx_FK) rxm_109 (0, rx_args (10 :: [a1, a2, a3, a4, a5].map rx_int) (rx_mL (rx_n rxm_109)), [], hp, [], 0, 0) (fun o => o.2.2 = [] ∧ o.1 % 4 = 0 ∧ (lw_B b wM o.2.1 ∧ lw_31 o.2.1 ∧ lw_F o.2.1 ∧ lw_x30M g o.2.1 ∧ lw_fC hp o.2.1) ∧ lw_x30C (lw_fg g a1 a2 a3 a4 a5) o.2.1) := by
  have hL := (hA (rx_rf (rx_n rxm_109) + 1) 109 rxm_109 (axm_109, axc_109) rfl rfl).2 (Nat.lt_succ_self _)
  obtain ⟨n, n800, hn, hs⟩ := lw_szC hB.1 hC
  have hN : ∀ y ∈ ([(0, [80]), (30, [3])] : List ax_N), ax_NO ax_XC 7 (lw_ro [g, rx_int a1, rx_int a2, rx_int a3, rx_int a4, rx_int a5, 4 * n]) hp y := fun y hy => by
    rcases List.mem_cons.mp hy with e | hy
    · subst e; exact lw_NO (by decide) lw_80e hB.2.1
    · cases List.mem_singleton.mp hy
      exact ⟨[g], lw_3 (Nat.succ_pos _), (ax_XF_lt (x := 30) (by decide)).mpr (lw_xC hB.1 hC)⟩
  have ok : ∀ k, k < 5 → ax_ok ax_wC lw_any ([rx_int a1, rx_int a2, rx_int a3, rx_int a4, rx_int a5].getD k 0) := fun k hk => by
    match k, hk with
    | 0, _ => exact lw_int_ok (hv _ (by simp))
    | 1, _ => exact lw_int_ok (hv _ (by simp))
    | 2, _ => exact lw_int_ok (hv _ (by simp))
    | 3, _ => exact lw_int_ok (hv _ (by simp))
    | 4, _ => exact lw_int_ok (hv _ (by simp))
    | k + 5, h => omega
  have hE : ∀ t, ax_ok ax_wC t (4 * n) → ax_EO ax_wC ax_XC (lw_ro [g, rx_int a1, rx_int a2, rx_int a3, rx_int a4, rx_int a5, 4 * n]) (7, [t, lw_any, lw_any, lw_any, lw_any, lw_any, (1, 0, 0)], [(42, 4, 27)], [], [(0, [80]), (30, [3])]) hp := fun t ht =>
    lw_EOl (vs := [g, rx_int a1, rx_int a2, rx_int a3, rx_int a4, rx_int a5, 4 * n]) (ts := [(1, 0, 0), lw_any, lw_any, lw_any, lw_any, lw_any, t]) rfl (fun k u hu => by
      match k, hu with
      | 0, hu => cases hu; exact Or.inr (Or.inl ⟨rfl, hg⟩)
      | 1, hu => cases hu; exact ok 0 (by decide)
      | 2, hu => cases hu; exact ok 1 (by decide)
      | 3, hu => cases hu; exact ok 2 (by decide)
      | 4, hu => cases hu; exact ok 3 (by decide)
      | 5, hu => cases hu; exact ok 4 (by decide)
      | 6, hu => cases hu; exact ht
      | k + 7, hu => cases hu) (fun f hf => by
      cases List.mem_singleton.mp hf
      exact lw_FOc (m := 6) (q := 8) (j := 1) rfl rfl hs (show 6 < 7 by decide) rfl) hN
  by_cases hn' : n ≤ 780
  · refine ax_wp_mono (hL (lw_c axc_109 1) (List.mem_cons_of_mem _ List.mem_cons_self) _ hp _ rfl (hE (0, 2147483648, 2147484428) (lw_ok4 (n := n) (by omega) (by omega) (by omega))) hB.1) (fun o ho => ?_)
    obtain ⟨po, hpo, ρ', r, p1, p2, p3, p4, p5, p6, p7⟩ := ho
    replace hpo : po ∈ [_] := hpo
    have e := List.mem_singleton.mp hpo
    subst e
    cases p2
    have x0 : ax_XC 0 [80] o.2.1 := lw_gx p4 (by decide) lw_80 List.mem_cons_self
    have x30 : ax_XC 30 [ρ' 7] o.2.1 := (ax_XF_lt (by decide)).mp (ax_gx p4 (30, [31]) (List.mem_cons_of_mem _ List.mem_cons_self))
    have x37 : ρ' 7 = pz_a20 (ρ' 1 / 4) (ρ' 2 / 4) (ρ' 3 / 4) (ρ' 4 / 4) (ρ' 5 / 4) (ρ' 0) 20 := (ax_XF_lt (by decide)).mp (ax_gx p4 (37, [3, 7, 11, 15, 19, 23, 31]) (List.mem_cons_of_mem _ (List.mem_cons_of_mem _ List.mem_cons_self)))
    rw [p1 0 (by decide), p1 1 (by decide), p1 2 (by decide), p1 3 (by decide), p1 4 (by decide), p1 5 (by decide)] at x37
    replace x37 : ρ' 7 = pz_a20 (rx_int a1 / 4) (rx_int a2 / 4) (rx_int a3 / 4) (rx_int a4 / 4) (rx_int a5 / 4) g 20 := x37
    rw [lw_i4, lw_i4, lw_i4, lw_i4, lw_i4] at x37
    refine ⟨p7, (ax_isK0 p4 (v := 35) (by decide +kernel) p3).1, lw_clsS w hB h31 hF hM p5 x0 p6 (by decide +kernel) (by decide +kernel) (by decide +kernel) (by decide +kernel) (by decide +kernel) (by decide +kernel) (by decide +kernel), ?_⟩
    unfold lw_fg
    rw [if_pos (by omega), ← x37]
    exact x30.2.2
  · refine ax_wp_mono (hL (lw_c axc_109 0) List.mem_cons_self _ hp _ rfl (hE (0, 2147484429, 2147484448) (lw_ok4 (n := n) (by omega) (by omega) (by omega))) hB.1) (fun o ho => ?_)
    obtain ⟨po, hpo, ρ', r, p1, p2, p3, p4, p5, p6, p7⟩ := ho
    replace hpo : po ∈ [_] := hpo
    have e := List.mem_singleton.mp hpo
    subst e
    cases p2
    have x0 : ax_XC 0 [80] o.2.1 := lw_gx p4 (by decide) lw_80 List.mem_cons_self
    have x30 : ax_XC 30 [ρ' 0] o.2.1 := (ax_XF_lt (by decide)).mp (ax_gx p4 (30, [3]) (List.mem_cons_of_mem _ List.mem_cons_self))
    rw [p1 0 (by decide)] at x30
    refine ⟨p7, by rw [lw_ev_vl p3, ax_vl_c (by decide)], lw_clsS w hB h31 hF hM p5 x0 p6 (by decide +kernel) (by decide +kernel) (by decide +kernel) (by decide +kernel) (by decide +kernel) (by decide +kernel) (by decide +kernel), ?_⟩
    unfold lw_fg
    rw [if_neg (by omega)]
    exact x30.2.2
set_option maxHeartbeats 1000000 in
theorem lw_endC (hA : ∀ B, ax_Low ax_wC ax_XC rx_P ax_APC rx_P (rx_DF, rx_FK) B) (w : lw_W b wM) (hB : lw_B b wM hp) (h31 : lw_31 hp) (hF : lw_F hp) {g a : Nat} (hg : g % 4 = 1) (hC : lw_x30C g hp) (hM : lw_x30M g hp) (hv : a < 4294967296) :
    ax_Wp rx_P (rx_DF, rx_FK) rxm_39 (0, rx_args (10 :: [a].map rx_int) (rx_mL (rx_n rxm_39)), [], hp, [], 0, 0) (fun o => o.2.2 = [] ∧ o.1 % 4 = 0 ∧ (lw_B b wM o.2.1 ∧ lw_31 o.2.1 ∧ lw_F o.2.1 ∧ lw_x30M g o.2.1 ∧ lw_fC hp o.2.1) ∧ lw_x30C (lw_eg g a) o.2.1) := by
  have hL := (hA (rx_rf (rx_n rxm_39) + 1) 39 rxm_39 (axm_39, axc_39) rfl rfl).2 (Nat.lt_succ_self _)
  obtain ⟨n, n800, hn, hs⟩ := lw_szC hB.1 hC
  have hN : ∀ y ∈ ([(0, [80]), (30, [3])] : List ax_N), ax_NO ax_XC 3 (lw_ro [g, rx_int a, 4 * n]) hp y := fun y hy => by
    rcases List.mem_cons.mp hy with e | hy
    · subst e; exact lw_NO (by decide) lw_80e hB.2.1
    · cases List.mem_singleton.mp hy
      exact ⟨[g], lw_3 (Nat.succ_pos _), (ax_XF_lt (x := 30) (by decide)).mpr (lw_xC hB.1 hC)⟩
  have hE : ∀ t, ax_ok ax_wC t (rx_int a) → ax_EO ax_wC ax_XC (lw_ro [g, rx_int a, 4 * n]) (3, [(0, 2147483648, 2147484448), t, (1, 0, 0)], [(42, 4, 11)], [], [(0, [80]), (30, [3])]) hp := fun t ht =>
    lw_EOl (vs := [g, rx_int a, 4 * n]) (ts := [(1, 0, 0), t, (0, 2147483648, 2147484448)]) rfl (fun k u hu => by
      match k, hu with
      | 0, hu => cases hu; exact Or.inr (Or.inl ⟨rfl, hg⟩)
      | 1, hu => cases hu; exact ht
      | 2, hu => cases hu; exact lw_ok4 (n := n) (by omega) (by omega) (by omega)
      | k + 3, hu => cases hu) (fun f hf => by
      cases List.mem_singleton.mp hf
      exact lw_FOc (m := 2) (q := 8) (j := 1) rfl rfl hs (show 2 < 3 by decide) rfl) hN
  by_cases hn' : a < 2147483648
  · refine ax_wp_mono (hL (lw_c axc_39 1) (List.mem_cons_of_mem _ List.mem_cons_self) _ hp _ rfl (hE (0, 2147483648, 4294967295) (lw_ok4 (n := a) hn' (by omega) (by omega))) hB.1) (fun o ho => ?_)
    obtain ⟨po, hpo, ρ', r, p1, p2, p3, p4, p5, p6, p7⟩ := ho
    have c0 : ρ' 0 = g := p1 0 (by decide)
    have c1 : ρ' 1 = rx_int a := p1 1 (by decide)
    have c2 : ρ' 2 = 4 * n := p1 2 (by decide)
    replace hpo : po ∈ [_, _] := hpo
    rcases List.mem_cons.mp hpo with e | hpo
    · subst e
      cases p2
      have x0 : ax_XC 0 [80] o.2.1 := lw_gx p4 (by decide) lw_80 List.mem_cons_self
      have x30 : ax_XC 30 [ρ' 0] o.2.1 := (ax_XF_lt (by decide)).mp (ax_gx p4 (30, [3]) (List.mem_cons_of_mem _ List.mem_cons_self))
      have g0 : rx_bi (ρ' 2 / 4) < rx_bi (ρ' 1 / 4) := ax_gc p4 4 7 11 (by decide) (List.mem_cons_of_mem _ (List.mem_cons_of_mem _ List.mem_cons_self))
      rw [c1, c2, lw_i4, show 4 * n / 4 = n by omega, lw_bi hn', lw_bi (by omega)] at g0
      rw [c0] at x30
      refine ⟨p7, by rw [lw_ev_vl p3, ax_vl_c (by decide)], lw_clsS w hB h31 hF hM p5 x0 p6 (by decide +kernel) (by decide +kernel) (by decide +kernel) (by decide +kernel) (by decide +kernel) (by decide +kernel) (by decide +kernel), ?_⟩
      unfold lw_eg
      rw [if_neg (by omega)]
      exact x30.2.2
    · have e := List.mem_singleton.mp hpo
      subst e
      cases p2
      have x0 : ax_XC 0 [80] o.2.1 := lw_gx p4 (by decide) lw_80 List.mem_cons_self
      have x30 : ax_XC 30 [ρ' 3] o.2.1 := (ax_XF_lt (by decide)).mp (ax_gx p4 (30, [15]) (List.mem_cons_of_mem _ List.mem_cons_self))
      have x38 : ρ' 3 = pz_cut (ρ' 0) (ρ' 1 / 4) := (ax_XF_lt (by decide)).mp (ax_gx p4 (38, [3, 7, 15]) (List.mem_cons_of_mem _ (List.mem_cons_of_mem _ List.mem_cons_self)))
      have g0 : rx_bi (ρ' 1 / 4) ≤ rx_bi (ρ' 2 / 4) := ax_gc p4 5 7 11 (by decide) (List.mem_cons_of_mem _ (List.mem_cons_of_mem _ (List.mem_cons_of_mem _ List.mem_cons_self)))
      rw [c1, c2, lw_i4, show 4 * n / 4 = n by omega, lw_bi hn', lw_bi (by omega)] at g0
      rw [c0, c1, lw_i4] at x38
      refine ⟨p7, (ax_isK0 p4 (v := 7) (by decide +kernel) p3).1, lw_clsS w hB h31 hF hM p5 x0 p6 (by decide +kernel) (by decide +kernel) (by decide +kernel) (by decide +kernel) (by decide +kernel) (by decide +kernel) (by decide +kernel), ?_⟩
      unfold lw_eg
      rw [if_pos (by omega), ← x38]
      exact x30.2.2
  · refine ax_wp_mono (hL (lw_c axc_39 0) List.mem_cons_self _ hp _ rfl (hE (0, 0, 2147483647) (by
      refine Or.inl ⟨rfl, lw_int4 a, by show rx_pl (rx_int a) < _; rw [lw_pl]; exact hv, Nat.zero_le _, ?_⟩
      show rx_bi (rx_pl (rx_int a)) ≤ _
      rw [lw_pl, lw_biN (by omega) hv]
      show a - 2147483648 ≤ 2147483647
      omega)) hB.1) (fun o ho => ?_)
    obtain ⟨po, hpo, ρ', r, p1, p2, p3, p4, p5, p6, p7⟩ := ho
    replace hpo : po ∈ [_] := hpo
    have e := List.mem_singleton.mp hpo
    subst e
    cases p2
    have c0 : ρ' 0 = g := p1 0 (by decide)
    have x0 : ax_XC 0 [80] o.2.1 := lw_gx p4 (by decide) lw_80 List.mem_cons_self
    have x30 : ax_XC 30 [ρ' 0] o.2.1 := (ax_XF_lt (by decide)).mp (ax_gx p4 (30, [3]) (List.mem_cons_of_mem _ List.mem_cons_self))
    rw [c0] at x30
    refine ⟨p7, by rw [lw_ev_vl p3, ax_vl_c (by decide)], lw_clsS w hB h31 hF hM p5 x0 p6 (by decide +kernel) (by decide +kernel) (by decide +kernel) (by decide +kernel) (by decide +kernel) (by decide +kernel) (by decide +kernel), ?_⟩
    unfold lw_eg
    rw [if_neg (by omega)]
    exact x30.2.2
theorem lw_netC (hA : ∀ B, ax_Low ax_wC ax_XC rx_P ax_APC rx_P (rx_DF, rx_FK) B) (w : lw_W b wM) (hB : lw_B b wM hp) (h31 : lw_31 hp) {g : Nat} (hg : g % 4 = 1) (hC : lw_x30C g hp) (hM : lw_x30M g hp) :
    ax_Wp rx_P (rx_DF, rx_FK) rxm_331 (0, rx_args (10 :: ([] : List Nat).map rx_int) (rx_mL (rx_n rxm_331)), [], hp, [], 0, 0) (fun o => o.2.2 = [] ∧ o.1 % 4 = 0 ∧ lw_B b wM o.2.1 ∧ lw_31 o.2.1 ∧ lw_x30M g o.2.1 ∧ ay_at o.2.1 8 1 = some 0 ∧ lw_nC g o.1 o.2.1 ∧ lw_fC hp o.2.1) := by
  have hL := (hA (rx_rf (rx_n rxm_331) + 1) 331 rxm_331 (axm_331, axc_331) rfl rfl).2 (Nat.lt_succ_self _)
  have hE : ax_EO ax_wC ax_XC (lw_ro [g]) (1, [(1, 0, 0)], [], [], [(0, [80]), (31, []), (30, [3])]) hp := lw_EOl (vs := [g]) (ts := [(1, 0, 0)]) rfl (fun k u hu => by
      match k, hu with
      | 0, hu => cases hu; exact Or.inr (Or.inl ⟨rfl, hg⟩)
      | k + 1, hu => cases hu) (fun f hf => by cases hf) (fun y hy => by
    rcases List.mem_cons.mp hy with e | hy
    · subst e; exact lw_NO (by decide) lw_80e hB.2.1
    rcases List.mem_cons.mp hy with e | hy
    · subst e; exact lw_NO (by decide) rfl ⟨ax_cellT hB.1 (g := 1) rfl, h31⟩
    · cases List.mem_singleton.mp hy
      exact ⟨[g], lw_3 (Nat.succ_pos _), (ax_XF_lt (x := 30) (by decide)).mpr (lw_xC hB.1 hC)⟩)
  have m1 : (lw_c axc_331 0).2.1.all (fun x => lw_isC x.1) = true := by decide +kernel
  refine ax_wp_mono (hL (lw_c axc_331 0) List.mem_cons_self (lw_ro [g]) hp _ rfl hE hB.1) (fun o ho => ?_)
  obtain ⟨po, hpo, ρ', r, p1, p2, p3, p4, p5, p6, p7⟩ := ho
  have c0 : ρ' 0 = g := p1 0 (by decide)
  obtain ⟨s1, s2⟩ := lw_sameM hB.1 p6 m1
  have hM' : lw_x30M g o.2.1 := by
    unfold lw_x30M at *
    rw [s1, s2]
    exact hM
  replace hpo : po ∈ [_, _] := hpo
  rcases List.mem_cons.mp hpo with e | hpo
  · subst e
    cases p2
    have f0 := lw_FO (a := 42) (i := 4) (v := 0) (q := 8) (j := 1) p4 List.mem_cons_self rfl rfl
    rw [ax_vl_c (by decide)] at f0
    have v0 := lw_ev_vl p3
    rw [ax_vl_c (by decide)] at v0
    have x0 : ax_XC 0 [80] o.2.1 := lw_gx p4 (by decide) lw_80 List.mem_cons_self
    have x31 : ax_XC 31 [] o.2.1 := lw_gx p4 (by decide) rfl (List.mem_cons_of_mem _ List.mem_cons_self)
    have x63 : ax_XC 63 [ρ' 0] o.2.1 := (ax_XF_lt (by decide)).mp (ax_gx p4 (63, [3]) (List.mem_cons_of_mem _ (List.mem_cons_of_mem _ List.mem_cons_self)))
    rw [c0] at x63
    exact ⟨p7, by rw [v0], lw_cls w hB p5 x0 p6 m1, x31.2, hM', f0, Or.inl ⟨v0, x63.2⟩, _, m1, p6⟩
  · have e := List.mem_singleton.mp hpo
    subst e
    cases p2
    have f0 := lw_FO (a := 42) (i := 4) (v := 0) (q := 8) (j := 1) p4 List.mem_cons_self rfl rfl
    rw [ax_vl_c (by decide)] at f0
    have v0 : o.1 = ρ' 1 := lw_ev_vl p3
    have x0 : ax_XC 0 [80] o.2.1 := lw_gx p4 (by decide) lw_80 List.mem_cons_self
    have x31 : ax_XC 31 [] o.2.1 := lw_gx p4 (by decide) rfl (List.mem_cons_of_mem _ List.mem_cons_self)
    have x126 : pz_x126 (ρ' 0) (ρ' 1) := (ax_XF_lt (x := 126) (by decide)).mp (ax_gx p4 (126, [3, 7]) (List.mem_cons_of_mem _ (List.mem_cons_of_mem _ List.mem_cons_self)))
    have x127 : ax_XC 127 [] o.2.1 := lw_gx p4 (by decide) rfl (List.mem_cons_of_mem _ (List.mem_cons_of_mem _ (List.mem_cons_of_mem _ List.mem_cons_self)))
    rw [c0, ← v0] at x126
    exact ⟨p7, (ax_isK0 p4 (v := 7) (by decide +kernel) p3).1, lw_cls w hB p5 x0 p6 m1, x31.2, hM', f0, Or.inr ⟨x126, x127.2⟩, _, m1, p6⟩
theorem lw_modS0 {hp' : rx_H} {md : List (Nat × Nat)} {g : Nat} (hB : lw_B 0 ax_wM0 hp) (h31 : lw_31 hp) (hF : lw_F hp) (hC : lw_x30C g hp) (h1 : ax_HT ax_wM0 hp') (h2 : lw_XM5 0 hp') (h3 : ax_HR ax_wC md hp hp') (m1 : md.all (fun x => !(lw_isC x.1)) = true) (k2 : lw_nm md 11 20 = true) (k3 : lw_nm md 11 21 = true) : lw_B 0 ax_wM0 hp' ∧ lw_31 hp' ∧ lw_F hp' ∧ lw_x30C g hp' ∧ lw_fM hp hp' := by
  have hT := hB.1
  obtain ⟨s1, s2, s3⟩ := lw_sameC hT h3 m1
  have c := fun i h => lw_ayE (i := i) (q := 173) (g := 11) h3 (ax_cellT hT (g := 11) rfl) rfl (lw_nm_ok h)
  refine ⟨lw_mod lw_W0 hB h1 h2 h3 m1, ?_, ?_, ?_, _, m1, h3⟩
  · unfold lw_31 at *
    rw [s3, s3, s3, s3]
    exact h31
  · unfold lw_F at *
    rw [c _ k2, c _ k3, s1, s1]
    exact hF
  · unfold lw_x30C at *
    rw [s1, s2]
    exact hC
theorem lw_szM0 {g : Nat} (hT : ax_HT ax_wM0 hp) (hM : lw_x30M g hp) : ∃ n, n ≤ 800 ∧ n = pz_gN g ∧ ay_at hp 173 11 = some (4 * n) := by
  obtain ⟨x, hx, h1, h2, h3, h4⟩ := lw_int hT (q := 173) (g := 11) (j := 11) rfl ⟨_, rfl, by decide⟩ rfl
  have e := hM.1
  rw [hx] at e
  replace e : x / 4 = pz_gN g := e
  have hl := hM.2.1
  exact ⟨x / 4, by omega, e, by rw [hx]; exact congrArg some (by omega)⟩
theorem lw_xM0 {g : Nat} (hT : ax_HT ax_wM0 hp) (hM : lw_x30M g hp) : ax_XM 0 130 [g] hp := ⟨ax_cellT hT (g := 11) rfl, ax_cellT hT (g := 53) rfl, hM⟩
theorem lw_NG0 {g n : Nat} {ρ : Nat → Nat} (hB : lw_B 0 ax_wM0 hp) (hM : lw_x30M g hp) (h0 : ρ 0 = g) (hn : 0 < n) : ∀ y ∈ lw_GL ++ [(130, [3])], ax_NO (ax_XM 0) n ρ hp y := fun y hy => by
  rcases List.mem_append.mp hy with h | h
  · exact lw_NO5 hB.2.2.2 y h
  · cases List.mem_singleton.mp h
    exact ⟨[ρ 0], lw_3 hn, (ax_XF_lt (x := 130) (by decide)).mpr (by show ax_XM 0 130 [ρ 0] hp; rw [h0]; exact lw_xM0 hB.2.2.1 hM)⟩
set_option maxHeartbeats 1000000 in
theorem lw_feedM0 (hA : ∀ B, ax_Low ax_wM0 (ax_XM 0) rx_P ax_APM0 rx_P (rx_DF, rx_FK) B) (hB : lw_B 0 ax_wM0 hp) (h31 : lw_31 hp) (hF : lw_F hp) {g k a1 a2 a3 a4 a5 : Nat} (hg : g % 4 = 1) (hM : lw_x30M g hp) (hC : lw_x30C k hp) (hv : ∀ v ∈ [a1, a2, a3, a4, a5], v < 4294967296) :
    ax_Wp rx_P (rx_DF, rx_FK) rxm_51 (0, rx_args (702 :: [a1, a2, a3, a4, a5].map rx_int) (rx_mL (rx_n rxm_51)), [], hp, [], 0, 0) (fun o => o.2.2 = [] ∧ o.1 % 4 = 0 ∧ (lw_B 0 ax_wM0 o.2.1 ∧ lw_31 o.2.1 ∧ lw_F o.2.1 ∧ lw_x30C k o.2.1 ∧ lw_fM hp o.2.1) ∧ lw_x30M (lw_fg g a1 a2 a3 a4 a5) o.2.1) := by
  have hL := (hA (rx_rf (rx_n rxm_51) + 1) 51 rxm_51 (axm_51, axc0_51) rfl rfl).2 (Nat.lt_succ_self _)
  obtain ⟨n, n800, hn, hs⟩ := lw_szM0 hB.2.2.1 hM
  have ok : ∀ k, k < 5 → ax_ok ax_wM0 lw_any ([rx_int a1, rx_int a2, rx_int a3, rx_int a4, rx_int a5].getD k 0) := fun k hk => by
    match k, hk with
    | 0, _ => exact lw_int_ok (hv _ (by simp))
    | 1, _ => exact lw_int_ok (hv _ (by simp))
    | 2, _ => exact lw_int_ok (hv _ (by simp))
    | 3, _ => exact lw_int_ok (hv _ (by simp))
    | 4, _ => exact lw_int_ok (hv _ (by simp))
    | k + 5, h => omega
  have hE : ∀ t, ax_ok ax_wM0 t (4 * n) → ax_EO ax_wM0 (ax_XM 0) (lw_ro [g, rx_int a1, rx_int a2, rx_int a3, rx_int a4, rx_int a5, 4 * n]) (7, [t, lw_any, lw_any, lw_any, lw_any, lw_any, (1, 0, 0)], [(702, 44, 27)], [], lw_GL ++ [(130, [3])]) hp := fun t ht =>
    lw_EOl (vs := [g, rx_int a1, rx_int a2, rx_int a3, rx_int a4, rx_int a5, 4 * n]) (ts := [(1, 0, 0), lw_any, lw_any, lw_any, lw_any, lw_any, t]) rfl (fun k u hu => by
      match k, hu with
      | 0, hu => cases hu; exact Or.inr (Or.inl ⟨rfl, hg⟩)
      | 1, hu => cases hu; exact ok 0 (by decide)
      | 2, hu => cases hu; exact ok 1 (by decide)
      | 3, hu => cases hu; exact ok 2 (by decide)
      | 4, hu => cases hu; exact ok 3 (by decide)
      | 5, hu => cases hu; exact ok 4 (by decide)
      | 6, hu => cases hu; exact ht
      | k + 7, hu => cases hu) (fun f hf => by
      cases List.mem_singleton.mp hf
      exact lw_FOc (m := 6) (q := 173) (j := 11) rfl rfl hs (show 6 < 7 by decide) rfl) (lw_NG0 hB hM rfl (Nat.succ_pos _))
  by_cases hn' : n ≤ 780
  · refine ax_wp_mono (hL (lw_c axc0_51 1) (List.mem_cons_of_mem _ List.mem_cons_self) _ hp _ rfl (hE (0, 2147483648, 2147484428) (lw_ok4 (n := n) (by omega) (by omega) (by omega))) hB.2.2.1) (fun o ho => ?_)
    obtain ⟨po, hpo, ρ', r, p1, p2, p3, p4, p5, p6, p7⟩ := ho
    replace hpo : po ∈ [_] := hpo
    have e := List.mem_singleton.mp hpo
    subst e
    cases p2
    have p6' : ax_HR ax_wC (lw_c axc0_51 1).2.1 hp o.2.1 := ay_HRw lw_w0.symm p6
    have x30 : ax_XM 0 130 [ρ' 7] o.2.1 := (ax_XF_lt (by decide)).mp (ax_gx p4 (130, [31]) (List.mem_append_right lw_GL List.mem_cons_self))
    have x37 : ρ' 7 = pz_a20 (ρ' 1 / 4) (ρ' 2 / 4) (ρ' 3 / 4) (ρ' 4 / 4) (ρ' 5 / 4) (ρ' 0) 20 := (ax_XF_lt (by decide)).mp (ax_gx p4 (137, [3, 7, 11, 15, 19, 23, 31]) (List.mem_append_right lw_GL (List.mem_cons_of_mem _ List.mem_cons_self)))
    rw [p1 0 (by decide), p1 1 (by decide), p1 2 (by decide), p1 3 (by decide), p1 4 (by decide), p1 5 (by decide)] at x37
    replace x37 : ρ' 7 = pz_a20 (rx_int a1 / 4) (rx_int a2 / 4) (rx_int a3 / 4) (rx_int a4 / 4) (rx_int a5 / 4) g 20 := x37
    rw [lw_i4, lw_i4, lw_i4, lw_i4, lw_i4] at x37
    refine ⟨p7, (ax_isK0 p4 (v := 35) (by decide +kernel) p3).1, lw_modS0 hB h31 hF hC p5 (lw_gx5 p4 (fun x hx => List.mem_append_left _ (show x ∈ lw_GL from hx))) p6' (by decide +kernel) (by decide +kernel) (by decide +kernel), ?_⟩
    unfold lw_fg
    rw [if_pos (by omega), ← x37]
    exact x30.2.2
  · refine ax_wp_mono (hL (lw_c axc0_51 0) List.mem_cons_self _ hp _ rfl (hE (0, 2147484429, 2147484448) (lw_ok4 (n := n) (by omega) (by omega) (by omega))) hB.2.2.1) (fun o ho => ?_)
    obtain ⟨po, hpo, ρ', r, p1, p2, p3, p4, p5, p6, p7⟩ := ho
    replace hpo : po ∈ [_] := hpo
    have e := List.mem_singleton.mp hpo
    subst e
    cases p2
    have p6' : ax_HR ax_wC (lw_c axc0_51 0).2.1 hp o.2.1 := ay_HRw lw_w0.symm p6
    have x30 : ax_XM 0 130 [ρ' 0] o.2.1 := (ax_XF_lt (by decide)).mp (ax_gx p4 (130, [3]) (List.mem_append_right lw_GL List.mem_cons_self))
    rw [p1 0 (by decide)] at x30
    refine ⟨p7, by rw [lw_ev_vl p3, ax_vl_c (by decide)], lw_modS0 hB h31 hF hC p5 (lw_gx5 p4 (fun x hx => List.mem_append_left _ (show x ∈ lw_GL from hx))) p6' (by decide +kernel) (by decide +kernel) (by decide +kernel), ?_⟩
    unfold lw_fg
    rw [if_neg (by omega)]
    exact x30.2.2
set_option maxHeartbeats 1000000 in
theorem lw_endM0 (hA : ∀ B, ax_Low ax_wM0 (ax_XM 0) rx_P ax_APM0 rx_P (rx_DF, rx_FK) B) (hB : lw_B 0 ax_wM0 hp) (h31 : lw_31 hp) (hF : lw_F hp) {g k a : Nat} (hg : g % 4 = 1) (hM : lw_x30M g hp) (hC : lw_x30C k hp) (hv : a < 4294967296) :
    ax_Wp rx_P (rx_DF, rx_FK) rxm_47 (0, rx_args (702 :: [a].map rx_int) (rx_mL (rx_n rxm_47)), [], hp, [], 0, 0) (fun o => o.2.2 = [] ∧ o.1 % 4 = 0 ∧ (lw_B 0 ax_wM0 o.2.1 ∧ lw_31 o.2.1 ∧ lw_F o.2.1 ∧ lw_x30C k o.2.1 ∧ lw_fM hp o.2.1) ∧ lw_x30M (lw_eg g a) o.2.1) := by
  have hL := (hA (rx_rf (rx_n rxm_47) + 1) 47 rxm_47 (axm_47, axc0_47) rfl rfl).2 (Nat.lt_succ_self _)
  obtain ⟨n, n800, hn, hs⟩ := lw_szM0 hB.2.2.1 hM
  have hE : ∀ t, ax_ok ax_wM0 t (rx_int a) → ax_EO ax_wM0 (ax_XM 0) (lw_ro [g, rx_int a, 4 * n]) (3, [(0, 2147483648, 2147484448), t, (1, 0, 0)], [(702, 44, 11)], [], lw_GL ++ [(130, [3])]) hp := fun t ht =>
    lw_EOl (vs := [g, rx_int a, 4 * n]) (ts := [(1, 0, 0), t, (0, 2147483648, 2147484448)]) rfl (fun k u hu => by
      match k, hu with
      | 0, hu => cases hu; exact Or.inr (Or.inl ⟨rfl, hg⟩)
      | 1, hu => cases hu; exact ht
      | 2, hu => cases hu; exact lw_ok4 (n := n) (by omega) (by omega) (by omega)
      | k + 3, hu => cases hu) (fun f hf => by
      cases List.mem_singleton.mp hf
      exact lw_FOc (m := 2) (q := 173) (j := 11) rfl rfl hs (show 2 < 3 by decide) rfl) (lw_NG0 hB hM rfl (Nat.succ_pos _))
  by_cases hn' : a < 2147483648
  · refine ax_wp_mono (hL (lw_c axc0_47 1) (List.mem_cons_of_mem _ List.mem_cons_self) _ hp _ rfl (hE (0, 2147483648, 4294967295) (lw_ok4 (n := a) hn' (by omega) (by omega))) hB.2.2.1) (fun o ho => ?_)
    obtain ⟨po, hpo, ρ', r, p1, p2, p3, p4, p5, p6, p7⟩ := ho
    have c0 : ρ' 0 = g := p1 0 (by decide)
    have c1 : ρ' 1 = rx_int a := p1 1 (by decide)
    have c2 : ρ' 2 = 4 * n := p1 2 (by decide)
    have p6' : ax_HR ax_wC (lw_c axc0_47 1).2.1 hp o.2.1 := ay_HRw lw_w0.symm p6
    replace hpo : po ∈ [_, _] := hpo
    rcases List.mem_cons.mp hpo with e | hpo
    · subst e
      cases p2
      have x30 : ax_XM 0 130 [ρ' 0] o.2.1 := (ax_XF_lt (by decide)).mp (ax_gx p4 (130, [3]) (List.mem_append_right lw_GL List.mem_cons_self))
      have g0 : rx_bi (ρ' 2 / 4) < rx_bi (ρ' 1 / 4) := ax_gc p4 4 7 11 (by decide) (List.mem_append_right lw_GL (List.mem_cons_of_mem _ List.mem_cons_self))
      rw [c1, c2, lw_i4, show 4 * n / 4 = n by omega, lw_bi hn', lw_bi (by omega)] at g0
      rw [c0] at x30
      refine ⟨p7, by rw [lw_ev_vl p3, ax_vl_c (by decide)], lw_modS0 hB h31 hF hC p5 (lw_gx5 p4 (fun x hx => List.mem_append_left _ (show x ∈ lw_GL from hx))) p6' (by decide +kernel) (by decide +kernel) (by decide +kernel), ?_⟩
      unfold lw_eg
      rw [if_neg (by omega)]
      exact x30.2.2
    · have e := List.mem_singleton.mp hpo
      subst e
      cases p2
      have x30 : ax_XM 0 130 [ρ' 3] o.2.1 := (ax_XF_lt (by decide)).mp (ax_gx p4 (130, [15]) (List.mem_append_right lw_GL List.mem_cons_self))
      have x38 : ρ' 3 = pz_cut (ρ' 0) (ρ' 1 / 4) := (ax_XF_lt (by decide)).mp (ax_gx p4 (138, [3, 7, 15]) (List.mem_append_right lw_GL (List.mem_cons_of_mem _ List.mem_cons_self)))
      have g0 : rx_bi (ρ' 1 / 4) ≤ rx_bi (ρ' 2 / 4) := ax_gc p4 5 7 11 (by decide) (List.mem_append_right lw_GL (List.mem_cons_of_mem _ (List.mem_cons_of_mem _ List.mem_cons_self)))
      rw [c1, c2, lw_i4, show 4 * n / 4 = n by omega, lw_bi hn', lw_bi (by omega)] at g0
      rw [c0, c1, lw_i4] at x38
      refine ⟨p7, (ax_isK0 p4 (v := 7) (by decide +kernel) p3).1, lw_modS0 hB h31 hF hC p5 (lw_gx5 p4 (fun x hx => List.mem_append_left _ (show x ∈ lw_GL from hx))) p6' (by decide +kernel) (by decide +kernel) (by decide +kernel), ?_⟩
      unfold lw_eg
      rw [if_pos (by omega), ← x38]
      exact x30.2.2
  · refine ax_wp_mono (hL (lw_c axc0_47 0) List.mem_cons_self _ hp _ rfl (hE (0, 0, 2147483647) (by
      refine Or.inl ⟨rfl, lw_int4 a, by show rx_pl (rx_int a) < _; rw [lw_pl]; exact hv, Nat.zero_le _, ?_⟩
      show rx_bi (rx_pl (rx_int a)) ≤ _
      rw [lw_pl, lw_biN (by omega) hv]
      show a - 2147483648 ≤ 2147483647
      omega)) hB.2.2.1) (fun o ho => ?_)
    obtain ⟨po, hpo, ρ', r, p1, p2, p3, p4, p5, p6, p7⟩ := ho
    replace hpo : po ∈ [_] := hpo
    have e := List.mem_singleton.mp hpo
    subst e
    cases p2
    have c0 : ρ' 0 = g := p1 0 (by decide)
    have p6' : ax_HR ax_wC (lw_c axc0_47 0).2.1 hp o.2.1 := ay_HRw lw_w0.symm p6
    have x30 : ax_XM 0 130 [ρ' 0] o.2.1 := (ax_XF_lt (by decide)).mp (ax_gx p4 (130, [3]) (List.mem_append_right lw_GL List.mem_cons_self))
    rw [c0] at x30
    refine ⟨p7, by rw [lw_ev_vl p3, ax_vl_c (by decide)], lw_modS0 hB h31 hF hC p5 (lw_gx5 p4 (fun x hx => List.mem_append_left _ (show x ∈ lw_GL from hx))) p6' (by decide +kernel) (by decide +kernel) (by decide +kernel), ?_⟩
    unfold lw_eg
    rw [if_neg (by omega)]
    exact x30.2.2
/-- what the reference's net leaves: refused, accepted -/
noncomputable def lw_mN0 (g : Nat) (hp : rx_H) (o : rx_O) : Prop := ((∃ fa fp, pz63 (pz_gt g) (pz_gN g) fa fp) ∧ o.1 = 17179869180 ∧ ax_HR ax_wC ay_nM10 hp o.2.1 ∧ ay_TE 0 (fun j => ay_at hp 181 (40 * 0 + j)) o.2.1 ∧ ay_TR 0 (fun k => ay_at hp 182 (100 * 0 + k)) o.2.1) ∨ (pz_x126 g o.1 ∧ ay_NTh1 g o.2.1 ∧ ax_HT ax_wM1 o.2.1)
theorem lw_netM0 (hA2 : ∀ B, ax_Low ax_wM1 (ax_XM 1) rx_P ax_APM1 rx_P (rx_DF, rx_FK) B) (hB : lw_B 0 ax_wM0 hp) (h31 : lw_31 hp) {g v : Nat} (hg : g % 4 = 1) (hM : lw_x30M g hp) (hs : ay_at hp 8 1 = some 0) (hn : lw_nC g v hp) (hv : v % 4 = 0) :
    ax_Wp rx_P (rx_DF, rx_FK) rxm_272 (0, rx_args (702 :: ([] : List Nat).map rx_int) (rx_mL (rx_n rxm_272)), [], hp, [], 0, 0) (fun o => o.2.2 = [] ∧ o.1 = v ∧ lw_J o.2.1 ∧ lw_fM hp o.2.1 ∧ lw_mN0 g hp o) := by
  have hA : ∀ B, ax_Low ax_wM0 (ax_XT (ay_TE 0 (fun j => ay_at hp 181 (40 * 0 + j))) (ay_TR 0 (fun k => ay_at hp 182 (100 * 0 + k))) (ax_XM 0)) rx_P ax_APM0 rx_P (rx_DF, rx_FK) B := axLT_M0 _ _ rxP_ok
  have h5 : ∀ y ∈ lw_GL ++ [((130, [3]) : ax_N)], y.1 < 500 := by decide +kernel
  have hE : ax_EO ax_wM0 (ax_XT (ay_TE 0 (fun j => ay_at hp 181 (40 * 0 + j))) (ay_TR 0 (fun k => ay_at hp 182 (100 * 0 + k))) (ax_XM 0)) (lw_ro [g]) (1, [(1, 0, 0)], [], [], [(0, [80]), (1, []), (2, []), (25, []), (26, []), (130, [3])]) hp := lw_EOl (vs := [g]) (ts := [(1, 0, 0)]) rfl (fun k u hu => by
      match k, hu with
      | 0, hu => cases hu; exact Or.inr (Or.inl ⟨rfl, hg⟩)
      | k + 1, hu => cases hu) (fun f hf => by cases hf) (fun y hy => ax_XT_in (h5 y hy) (fun _ _ => rfl) (fun _ _ => rfl) (lw_NG0 hB hM rfl (Nat.succ_pos _) y hy))
  have hr : rxm_272 ∈ rx_P := ax_nth_mem (j := 272) rfl
  have m : ay_nMD0.all (fun x => !(lw_isC x.1)) = true := by decide +kernel
  have mR : ay_nM10.all (fun x => !(lw_isC x.1)) = true := by decide +kernel
  refine ax_wp_mono (ay_net0 rxP_ok hA hA2 hr (ax_tabB_ok axt_272) hE hB.2.2.1) (fun o ho => ?_)
  have fin : ∀ {b' : Nat} {wM' : ax_W}, lw_W b' wM' → ax_HT wM' o.2.1 → lw_XM5 b' o.2.1 → (∃ md : List (Nat × Nat), md.all (fun x => !(lw_isC x.1)) = true ∧ ax_HR ax_wC md hp o.2.1) → ay_at o.2.1 173 11 = some 0 → lw_nM g o.1 o.2.1 → o.1 % 4 = 0 → o.1 = v ∧ lw_K b' wM' o.2.1 := by
    intro b' wM' w' t1 t2 ⟨md, m, t3⟩ t4 t5 t6
    obtain ⟨s1, s2, s3⟩ := lw_sameC hB.1 t3 m
    have hB' := lw_mod w' hB t1 t2 t3 m
    have hn' : lw_nC g v o.2.1 := by
      unfold lw_nC at *
      rw [s1, s1]
      exact hn
    obtain ⟨r1, r2⟩ := lw_net2 hB'.1 hn' t5 hv t6
    refine ⟨r1.symm, hB', ⟨1, rfl, ?_, ?_⟩, ?_, r2⟩
    · unfold lw_x30C
      rw [s1, hs]
      exact ⟨rfl, by decide, fun j hj => absurd (show j < 0 from hj) (by omega)⟩
    · unfold lw_x30M
      rw [t4]
      exact ⟨rfl, by decide, fun j hj => absurd (show j < 0 from hj) (by omega)⟩
    · unfold lw_31 at *
      rw [s3, s3, s3, s3]
      exact h31
  rcases ho with ho | ⟨ho, hNT⟩
  · obtain ⟨po, hpo, ρ', r, p1, p2, p3, p4, p5, p6, p7⟩ := ho
    have e := List.mem_singleton.mp (show po ∈ [_] from hpo)
    subst e
    cases p2
    have c0 : ρ' 0 = g := p1 0 (by decide)
    have f0 := lw_FO (a := 702) (i := 44) (v := 0) (q := 173) (j := 11) p4 List.mem_cons_self rfl rfl
    rw [ax_vl_c (by decide)] at f0
    have v0 := lw_ev_vl p3
    rw [ax_vl_c (by decide)] at v0
    have p6' : ax_HR ax_wC ay_nM10 hp o.2.1 := ay_HRw lw_w0.symm p6
    have x : ax_XM 0 228 [ρ' 0] o.2.1 := ((ax_XF_lt (by decide)).mp (ax_gx p4 (228, [3]) (List.mem_append_right lw_GL List.mem_cons_self))).1
    have xe : ay_TE 0 (fun j => ay_at hp 181 (40 * 0 + j)) o.2.1 := ((ax_XF_lt (by decide)).mp (ax_gx p4 (25, []) (List.mem_append_left _ (show ((25, []) : ax_N) ∈ lw_GL by simp [lw_GL])))).2.1 rfl rfl
    have xr : ay_TR 0 (fun k => ay_at hp 182 (100 * 0 + k)) o.2.1 := ((ax_XF_lt (by decide)).mp (ax_gx p4 (26, []) (List.mem_append_left _ (show ((26, []) : ax_N) ∈ lw_GL by simp [lw_GL])))).2.2 rfl rfl
    rw [c0] at x
    obtain ⟨r1, r2⟩ := fin lw_W0 p5 (lw_gx5 (ax_XT_EO p4) (fun x hx => List.mem_append_left _ (show x ∈ lw_GL from hx))) ⟨_, mR, p6'⟩ f0 (Or.inl ⟨v0, x.2.2⟩) (by rw [v0])
    exact ⟨p7, r1, Or.inl r2, ⟨_, mR, p6'⟩, Or.inl ⟨⟨_, _, x.2.2⟩, v0, p6', xe, xr⟩⟩
  · obtain ⟨po, hpo, ρ', r, p1, p2, p3, p4, p5, p6, p7⟩ := ho
    have e := List.mem_singleton.mp (show po ∈ [_] from hpo)
    subst e
    cases p2
    have c0 : ρ' 0 = g := p1 0 (by decide)
    have f0 := lw_FO (a := 702) (i := 44) (v := 0) (q := 173) (j := 11) p4 List.mem_cons_self rfl rfl
    rw [ax_vl_c (by decide)] at f0
    have v0 : o.1 = ρ' 1 := lw_ev_vl p3
    have p6' : ax_HR ax_wC ay_nMD0 hp o.2.1 := ay_HRw lw_w1.symm p6
    have x : pz_x126 (ρ' 0) (ρ' 1) := (ax_XF_lt (x := 226) (by decide)).mp (ax_gx p4 (226, [3, 7]) (List.mem_append_right lw_GL List.mem_cons_self))
    have y : ax_XM 1 227 [] o.2.1 := lw_gx p4 (by decide) rfl (List.mem_append_right lw_GL (List.mem_cons_of_mem _ List.mem_cons_self))
    rw [c0, ← v0] at x
    obtain ⟨r1, r2⟩ := fin lw_W1 p5 (lw_gx5 p4 (fun x hx => List.mem_append_left _ (show x ∈ lw_GL from hx))) ⟨_, m, p6'⟩ f0 (Or.inr ⟨x, y.2.2⟩) (ax_isK0 p4 (v := 7) (by decide +kernel) p3).1
    exact ⟨p7, r1, Or.inr r2, ⟨_, m, p6'⟩, Or.inr ⟨x, hNT, p5⟩⟩
theorem lw_modS1 {hp' : rx_H} {md : List (Nat × Nat)} {g : Nat} (hB : lw_B 1 ax_wM1 hp) (h31 : lw_31 hp) (hF : lw_F hp) (hC : lw_x30C g hp) (h1 : ax_HT ax_wM1 hp') (h2 : lw_XM5 1 hp') (h3 : ax_HR ax_wC md hp hp') (m1 : md.all (fun x => !(lw_isC x.1)) = true) (k2 : lw_nm md 11 20 = true) (k3 : lw_nm md 11 21 = true) : lw_B 1 ax_wM1 hp' ∧ lw_31 hp' ∧ lw_F hp' ∧ lw_x30C g hp' ∧ lw_fM hp hp' := by
  have hT := hB.1
  obtain ⟨s1, s2, s3⟩ := lw_sameC hT h3 m1
  have c := fun i h => lw_ayE (i := i) (q := 173) (g := 11) h3 (ax_cellT hT (g := 11) rfl) rfl (lw_nm_ok h)
  refine ⟨lw_mod lw_W1 hB h1 h2 h3 m1, ?_, ?_, ?_, _, m1, h3⟩
  · unfold lw_31 at *
    rw [s3, s3, s3, s3]
    exact h31
  · unfold lw_F at *
    rw [c _ k2, c _ k3, s1, s1]
    exact hF
  · unfold lw_x30C at *
    rw [s1, s2]
    exact hC
theorem lw_szM1 {g : Nat} (hT : ax_HT ax_wM1 hp) (hM : lw_x30M g hp) : ∃ n, n ≤ 800 ∧ n = pz_gN g ∧ ay_at hp 173 11 = some (4 * n) := by
  obtain ⟨x, hx, h1, h2, h3, h4⟩ := lw_int hT (q := 173) (g := 11) (j := 11) rfl ⟨_, rfl, by decide⟩ rfl
  have e := hM.1
  rw [hx] at e
  replace e : x / 4 = pz_gN g := e
  have hl := hM.2.1
  exact ⟨x / 4, by omega, e, by rw [hx]; exact congrArg some (by omega)⟩
theorem lw_xM1 {g : Nat} (hT : ax_HT ax_wM1 hp) (hM : lw_x30M g hp) : ax_XM 1 130 [g] hp := ⟨ax_cellT hT (g := 11) rfl, ax_cellT hT (g := 53) rfl, hM⟩
theorem lw_NG1 {g n : Nat} {ρ : Nat → Nat} (hB : lw_B 1 ax_wM1 hp) (hM : lw_x30M g hp) (h0 : ρ 0 = g) (hn : 0 < n) : ∀ y ∈ lw_GL ++ [(130, [3])], ax_NO (ax_XM 1) n ρ hp y := fun y hy => by
  rcases List.mem_append.mp hy with h | h
  · exact lw_NO5 hB.2.2.2 y h
  · cases List.mem_singleton.mp h
    exact ⟨[ρ 0], lw_3 hn, (ax_XF_lt (x := 130) (by decide)).mpr (by show ax_XM 1 130 [ρ 0] hp; rw [h0]; exact lw_xM1 hB.2.2.1 hM)⟩
set_option maxHeartbeats 1000000 in
theorem lw_feedM1 (hA : ∀ B, ax_Low ax_wM1 (ax_XM 1) rx_P ax_APM1 rx_P (rx_DF, rx_FK) B) (hB : lw_B 1 ax_wM1 hp) (h31 : lw_31 hp) (hF : lw_F hp) {g k a1 a2 a3 a4 a5 : Nat} (hg : g % 4 = 1) (hM : lw_x30M g hp) (hC : lw_x30C k hp) (hv : ∀ v ∈ [a1, a2, a3, a4, a5], v < 4294967296) :
    ax_Wp rx_P (rx_DF, rx_FK) rxm_51 (0, rx_args (702 :: [a1, a2, a3, a4, a5].map rx_int) (rx_mL (rx_n rxm_51)), [], hp, [], 0, 0) (fun o => o.2.2 = [] ∧ o.1 % 4 = 0 ∧ (lw_B 1 ax_wM1 o.2.1 ∧ lw_31 o.2.1 ∧ lw_F o.2.1 ∧ lw_x30C k o.2.1 ∧ lw_fM hp o.2.1) ∧ lw_x30M (lw_fg g a1 a2 a3 a4 a5) o.2.1) := by
  have hL := (hA (rx_rf (rx_n rxm_51) + 1) 51 rxm_51 (axm_51, axc1_51) rfl rfl).2 (Nat.lt_succ_self _)
  obtain ⟨n, n800, hn, hs⟩ := lw_szM1 hB.2.2.1 hM
  have ok : ∀ k, k < 5 → ax_ok ax_wM1 lw_any ([rx_int a1, rx_int a2, rx_int a3, rx_int a4, rx_int a5].getD k 0) := fun k hk => by
    match k, hk with
    | 0, _ => exact lw_int_ok (hv _ (by simp))
    | 1, _ => exact lw_int_ok (hv _ (by simp))
    | 2, _ => exact lw_int_ok (hv _ (by simp))
    | 3, _ => exact lw_int_ok (hv _ (by simp))
    | 4, _ => exact lw_int_ok (hv _ (by simp))
    | k + 5, h => omega
  have hE : ∀ t, ax_ok ax_wM1 t (4 * n) → ax_EO ax_wM1 (ax_XM 1) (lw_ro [g, rx_int a1, rx_int a2, rx_int a3, rx_int a4, rx_int a5, 4 * n]) (7, [t, lw_any, lw_any, lw_any, lw_any, lw_any, (1, 0, 0)], [(702, 44, 27)], [], lw_GL ++ [(130, [3])]) hp := fun t ht =>
    lw_EOl (vs := [g, rx_int a1, rx_int a2, rx_int a3, rx_int a4, rx_int a5, 4 * n]) (ts := [(1, 0, 0), lw_any, lw_any, lw_any, lw_any, lw_any, t]) rfl (fun k u hu => by
      match k, hu with
      | 0, hu => cases hu; exact Or.inr (Or.inl ⟨rfl, hg⟩)
      | 1, hu => cases hu; exact ok 0 (by decide)
      | 2, hu => cases hu; exact ok 1 (by decide)
      | 3, hu => cases hu; exact ok 2 (by decide)
      | 4, hu => cases hu; exact ok 3 (by decide)
      | 5, hu => cases hu; exact ok 4 (by decide)
      | 6, hu => cases hu; exact ht
      | k + 7, hu => cases hu) (fun f hf => by
      cases List.mem_singleton.mp hf
      exact lw_FOc (m := 6) (q := 173) (j := 11) rfl rfl hs (show 6 < 7 by decide) rfl) (lw_NG1 hB hM rfl (Nat.succ_pos _))
  by_cases hn' : n ≤ 780
  · refine ax_wp_mono (hL (lw_c axc1_51 1) (List.mem_cons_of_mem _ List.mem_cons_self) _ hp _ rfl (hE (0, 2147483648, 2147484428) (lw_ok4 (n := n) (by omega) (by omega) (by omega))) hB.2.2.1) (fun o ho => ?_)
    obtain ⟨po, hpo, ρ', r, p1, p2, p3, p4, p5, p6, p7⟩ := ho
    replace hpo : po ∈ [_] := hpo
    have e := List.mem_singleton.mp hpo
    subst e
    cases p2
    have p6' : ax_HR ax_wC (lw_c axc1_51 1).2.1 hp o.2.1 := ay_HRw lw_w1.symm p6
    have x30 : ax_XM 1 130 [ρ' 7] o.2.1 := (ax_XF_lt (by decide)).mp (ax_gx p4 (130, [31]) (List.mem_append_right lw_GL List.mem_cons_self))
    have x37 : ρ' 7 = pz_a20 (ρ' 1 / 4) (ρ' 2 / 4) (ρ' 3 / 4) (ρ' 4 / 4) (ρ' 5 / 4) (ρ' 0) 20 := (ax_XF_lt (by decide)).mp (ax_gx p4 (137, [3, 7, 11, 15, 19, 23, 31]) (List.mem_append_right lw_GL (List.mem_cons_of_mem _ List.mem_cons_self)))
    rw [p1 0 (by decide), p1 1 (by decide), p1 2 (by decide), p1 3 (by decide), p1 4 (by decide), p1 5 (by decide)] at x37
    replace x37 : ρ' 7 = pz_a20 (rx_int a1 / 4) (rx_int a2 / 4) (rx_int a3 / 4) (rx_int a4 / 4) (rx_int a5 / 4) g 20 := x37
    rw [lw_i4, lw_i4, lw_i4, lw_i4, lw_i4] at x37
    refine ⟨p7, (ax_isK0 p4 (v := 35) (by decide +kernel) p3).1, lw_modS1 hB h31 hF hC p5 (lw_gx5 p4 (fun x hx => List.mem_append_left _ (show x ∈ lw_GL from hx))) p6' (by decide +kernel) (by decide +kernel) (by decide +kernel), ?_⟩
    unfold lw_fg
    rw [if_pos (by omega), ← x37]
    exact x30.2.2
  · refine ax_wp_mono (hL (lw_c axc1_51 0) List.mem_cons_self _ hp _ rfl (hE (0, 2147484429, 2147484448) (lw_ok4 (n := n) (by omega) (by omega) (by omega))) hB.2.2.1) (fun o ho => ?_)
    obtain ⟨po, hpo, ρ', r, p1, p2, p3, p4, p5, p6, p7⟩ := ho
    replace hpo : po ∈ [_] := hpo
    have e := List.mem_singleton.mp hpo
    subst e
    cases p2
    have p6' : ax_HR ax_wC (lw_c axc1_51 0).2.1 hp o.2.1 := ay_HRw lw_w1.symm p6
    have x30 : ax_XM 1 130 [ρ' 0] o.2.1 := (ax_XF_lt (by decide)).mp (ax_gx p4 (130, [3]) (List.mem_append_right lw_GL List.mem_cons_self))
    rw [p1 0 (by decide)] at x30
    refine ⟨p7, by rw [lw_ev_vl p3, ax_vl_c (by decide)], lw_modS1 hB h31 hF hC p5 (lw_gx5 p4 (fun x hx => List.mem_append_left _ (show x ∈ lw_GL from hx))) p6' (by decide +kernel) (by decide +kernel) (by decide +kernel), ?_⟩
    unfold lw_fg
    rw [if_neg (by omega)]
    exact x30.2.2
set_option maxHeartbeats 1000000 in
theorem lw_endM1 (hA : ∀ B, ax_Low ax_wM1 (ax_XM 1) rx_P ax_APM1 rx_P (rx_DF, rx_FK) B) (hB : lw_B 1 ax_wM1 hp) (h31 : lw_31 hp) (hF : lw_F hp) {g k a : Nat} (hg : g % 4 = 1) (hM : lw_x30M g hp) (hC : lw_x30C k hp) (hv : a < 4294967296) :
    ax_Wp rx_P (rx_DF, rx_FK) rxm_47 (0, rx_args (702 :: [a].map rx_int) (rx_mL (rx_n rxm_47)), [], hp, [], 0, 0) (fun o => o.2.2 = [] ∧ o.1 % 4 = 0 ∧ (lw_B 1 ax_wM1 o.2.1 ∧ lw_31 o.2.1 ∧ lw_F o.2.1 ∧ lw_x30C k o.2.1 ∧ lw_fM hp o.2.1) ∧ lw_x30M (lw_eg g a) o.2.1) := by
  have hL := (hA (rx_rf (rx_n rxm_47) + 1) 47 rxm_47 (axm_47, axc1_47) rfl rfl).2 (Nat.lt_succ_self _)
  obtain ⟨n, n800, hn, hs⟩ := lw_szM1 hB.2.2.1 hM
  have hE : ∀ t, ax_ok ax_wM1 t (rx_int a) → ax_EO ax_wM1 (ax_XM 1) (lw_ro [g, rx_int a, 4 * n]) (3, [(0, 2147483648, 2147484448), t, (1, 0, 0)], [(702, 44, 11)], [], lw_GL ++ [(130, [3])]) hp := fun t ht =>
    lw_EOl (vs := [g, rx_int a, 4 * n]) (ts := [(1, 0, 0), t, (0, 2147483648, 2147484448)]) rfl (fun k u hu => by
      match k, hu with
      | 0, hu => cases hu; exact Or.inr (Or.inl ⟨rfl, hg⟩)
      | 1, hu => cases hu; exact ht
      | 2, hu => cases hu; exact lw_ok4 (n := n) (by omega) (by omega) (by omega)
      | k + 3, hu => cases hu) (fun f hf => by
      cases List.mem_singleton.mp hf
      exact lw_FOc (m := 2) (q := 173) (j := 11) rfl rfl hs (show 2 < 3 by decide) rfl) (lw_NG1 hB hM rfl (Nat.succ_pos _))
  by_cases hn' : a < 2147483648
  · refine ax_wp_mono (hL (lw_c axc1_47 1) (List.mem_cons_of_mem _ List.mem_cons_self) _ hp _ rfl (hE (0, 2147483648, 4294967295) (lw_ok4 (n := a) hn' (by omega) (by omega))) hB.2.2.1) (fun o ho => ?_)
    obtain ⟨po, hpo, ρ', r, p1, p2, p3, p4, p5, p6, p7⟩ := ho
    have c0 : ρ' 0 = g := p1 0 (by decide)
    have c1 : ρ' 1 = rx_int a := p1 1 (by decide)
    have c2 : ρ' 2 = 4 * n := p1 2 (by decide)
    have p6' : ax_HR ax_wC (lw_c axc1_47 1).2.1 hp o.2.1 := ay_HRw lw_w1.symm p6
    replace hpo : po ∈ [_, _] := hpo
    rcases List.mem_cons.mp hpo with e | hpo
    · subst e
      cases p2
      have x30 : ax_XM 1 130 [ρ' 0] o.2.1 := (ax_XF_lt (by decide)).mp (ax_gx p4 (130, [3]) (List.mem_append_right lw_GL List.mem_cons_self))
      have g0 : rx_bi (ρ' 2 / 4) < rx_bi (ρ' 1 / 4) := ax_gc p4 4 7 11 (by decide) (List.mem_append_right lw_GL (List.mem_cons_of_mem _ List.mem_cons_self))
      rw [c1, c2, lw_i4, show 4 * n / 4 = n by omega, lw_bi hn', lw_bi (by omega)] at g0
      rw [c0] at x30
      refine ⟨p7, by rw [lw_ev_vl p3, ax_vl_c (by decide)], lw_modS1 hB h31 hF hC p5 (lw_gx5 p4 (fun x hx => List.mem_append_left _ (show x ∈ lw_GL from hx))) p6' (by decide +kernel) (by decide +kernel) (by decide +kernel), ?_⟩
      unfold lw_eg
      rw [if_neg (by omega)]
      exact x30.2.2
    · have e := List.mem_singleton.mp hpo
      subst e
      cases p2
      have x30 : ax_XM 1 130 [ρ' 3] o.2.1 := (ax_XF_lt (by decide)).mp (ax_gx p4 (130, [15]) (List.mem_append_right lw_GL List.mem_cons_self))
      have x38 : ρ' 3 = pz_cut (ρ' 0) (ρ' 1 / 4) := (ax_XF_lt (by decide)).mp (ax_gx p4 (138, [3, 7, 15]) (List.mem_append_right lw_GL (List.mem_cons_of_mem _ List.mem_cons_self)))
      have g0 : rx_bi (ρ' 1 / 4) ≤ rx_bi (ρ' 2 / 4) := ax_gc p4 5 7 11 (by decide) (List.mem_append_right lw_GL (List.mem_cons_of_mem _ (List.mem_cons_of_mem _ List.mem_cons_self)))
      rw [c1, c2, lw_i4, show 4 * n / 4 = n by omega, lw_bi hn', lw_bi (by omega)] at g0
      rw [c0, c1, lw_i4] at x38
      refine ⟨p7, (ax_isK0 p4 (v := 7) (by decide +kernel) p3).1, lw_modS1 hB h31 hF hC p5 (lw_gx5 p4 (fun x hx => List.mem_append_left _ (show x ∈ lw_GL from hx))) p6' (by decide +kernel) (by decide +kernel) (by decide +kernel), ?_⟩
      unfold lw_eg
      rw [if_pos (by omega), ← x38]
      exact x30.2.2
  · refine ax_wp_mono (hL (lw_c axc1_47 0) List.mem_cons_self _ hp _ rfl (hE (0, 0, 2147483647) (by
      refine Or.inl ⟨rfl, lw_int4 a, by show rx_pl (rx_int a) < _; rw [lw_pl]; exact hv, Nat.zero_le _, ?_⟩
      show rx_bi (rx_pl (rx_int a)) ≤ _
      rw [lw_pl, lw_biN (by omega) hv]
      show a - 2147483648 ≤ 2147483647
      omega)) hB.2.2.1) (fun o ho => ?_)
    obtain ⟨po, hpo, ρ', r, p1, p2, p3, p4, p5, p6, p7⟩ := ho
    replace hpo : po ∈ [_] := hpo
    have e := List.mem_singleton.mp hpo
    subst e
    cases p2
    have c0 : ρ' 0 = g := p1 0 (by decide)
    have p6' : ax_HR ax_wC (lw_c axc1_47 0).2.1 hp o.2.1 := ay_HRw lw_w1.symm p6
    have x30 : ax_XM 1 130 [ρ' 0] o.2.1 := (ax_XF_lt (by decide)).mp (ax_gx p4 (130, [3]) (List.mem_append_right lw_GL List.mem_cons_self))
    rw [c0] at x30
    refine ⟨p7, by rw [lw_ev_vl p3, ax_vl_c (by decide)], lw_modS1 hB h31 hF hC p5 (lw_gx5 p4 (fun x hx => List.mem_append_left _ (show x ∈ lw_GL from hx))) p6' (by decide +kernel) (by decide +kernel) (by decide +kernel), ?_⟩
    unfold lw_eg
    rw [if_neg (by omega)]
    exact x30.2.2
/-- what the reference's net leaves: refused, accepted -/
noncomputable def lw_mN1 (g : Nat) (hp : rx_H) (o : rx_O) : Prop := ((∃ fa fp, pz63 (pz_gt g) (pz_gN g) fa fp) ∧ o.1 = 17179869180 ∧ ax_HR ax_wC ay_nM11 hp o.2.1 ∧ ay_TE 1 (fun j => ay_at hp 181 (40 * 1 + j)) o.2.1 ∧ ay_TR 1 (fun k => ay_at hp 182 (100 * 1 + k)) o.2.1) ∨ (pz_x126 g o.1 ∧ ay_NTh0 g o.2.1 ∧ ax_HT ax_wM0 o.2.1)
theorem lw_netM1 (hA2 : ∀ B, ax_Low ax_wM0 (ax_XM 0) rx_P ax_APM0 rx_P (rx_DF, rx_FK) B) (hB : lw_B 1 ax_wM1 hp) (h31 : lw_31 hp) {g v : Nat} (hg : g % 4 = 1) (hM : lw_x30M g hp) (hs : ay_at hp 8 1 = some 0) (hn : lw_nC g v hp) (hv : v % 4 = 0) :
    ax_Wp rx_P (rx_DF, rx_FK) rxm_272 (0, rx_args (702 :: ([] : List Nat).map rx_int) (rx_mL (rx_n rxm_272)), [], hp, [], 0, 0) (fun o => o.2.2 = [] ∧ o.1 = v ∧ lw_J o.2.1 ∧ lw_fM hp o.2.1 ∧ lw_mN1 g hp o) := by
  have hA : ∀ B, ax_Low ax_wM1 (ax_XT (ay_TE 1 (fun j => ay_at hp 181 (40 * 1 + j))) (ay_TR 1 (fun k => ay_at hp 182 (100 * 1 + k))) (ax_XM 1)) rx_P ax_APM1 rx_P (rx_DF, rx_FK) B := axLT_M1 _ _ rxP_ok
  have h5 : ∀ y ∈ lw_GL ++ [((130, [3]) : ax_N)], y.1 < 500 := by decide +kernel
  have hE : ax_EO ax_wM1 (ax_XT (ay_TE 1 (fun j => ay_at hp 181 (40 * 1 + j))) (ay_TR 1 (fun k => ay_at hp 182 (100 * 1 + k))) (ax_XM 1)) (lw_ro [g]) (1, [(1, 0, 0)], [], [], [(0, [80]), (1, []), (2, []), (25, []), (26, []), (130, [3])]) hp := lw_EOl (vs := [g]) (ts := [(1, 0, 0)]) rfl (fun k u hu => by
      match k, hu with
      | 0, hu => cases hu; exact Or.inr (Or.inl ⟨rfl, hg⟩)
      | k + 1, hu => cases hu) (fun f hf => by cases hf) (fun y hy => ax_XT_in (h5 y hy) (fun _ _ => rfl) (fun _ _ => rfl) (lw_NG1 hB hM rfl (Nat.succ_pos _) y hy))
  have hr : rxm_272 ∈ rx_P := ax_nth_mem (j := 272) rfl
  have m : ay_nMD1.all (fun x => !(lw_isC x.1)) = true := by decide +kernel
  have mR : ay_nM11.all (fun x => !(lw_isC x.1)) = true := by decide +kernel
  refine ax_wp_mono (ay_net1 rxP_ok hA hA2 hr (ax_tabB_ok axt_272) hE hB.2.2.1) (fun o ho => ?_)
  have fin : ∀ {b' : Nat} {wM' : ax_W}, lw_W b' wM' → ax_HT wM' o.2.1 → lw_XM5 b' o.2.1 → (∃ md : List (Nat × Nat), md.all (fun x => !(lw_isC x.1)) = true ∧ ax_HR ax_wC md hp o.2.1) → ay_at o.2.1 173 11 = some 0 → lw_nM g o.1 o.2.1 → o.1 % 4 = 0 → o.1 = v ∧ lw_K b' wM' o.2.1 := by
    intro b' wM' w' t1 t2 ⟨md, m, t3⟩ t4 t5 t6
    obtain ⟨s1, s2, s3⟩ := lw_sameC hB.1 t3 m
    have hB' := lw_mod w' hB t1 t2 t3 m
    have hn' : lw_nC g v o.2.1 := by
      unfold lw_nC at *
      rw [s1, s1]
      exact hn
    obtain ⟨r1, r2⟩ := lw_net2 hB'.1 hn' t5 hv t6
    refine ⟨r1.symm, hB', ⟨1, rfl, ?_, ?_⟩, ?_, r2⟩
    · unfold lw_x30C
      rw [s1, hs]
      exact ⟨rfl, by decide, fun j hj => absurd (show j < 0 from hj) (by omega)⟩
    · unfold lw_x30M
      rw [t4]
      exact ⟨rfl, by decide, fun j hj => absurd (show j < 0 from hj) (by omega)⟩
    · unfold lw_31 at *
      rw [s3, s3, s3, s3]
      exact h31
  rcases ho with ho | ⟨ho, hNT⟩
  · obtain ⟨po, hpo, ρ', r, p1, p2, p3, p4, p5, p6, p7⟩ := ho
    have e := List.mem_singleton.mp (show po ∈ [_] from hpo)
    subst e
    cases p2
    have c0 : ρ' 0 = g := p1 0 (by decide)
    have f0 := lw_FO (a := 702) (i := 44) (v := 0) (q := 173) (j := 11) p4 List.mem_cons_self rfl rfl
    rw [ax_vl_c (by decide)] at f0
    have v0 := lw_ev_vl p3
    rw [ax_vl_c (by decide)] at v0
    have p6' : ax_HR ax_wC ay_nM11 hp o.2.1 := ay_HRw lw_w1.symm p6
    have x : ax_XM 1 228 [ρ' 0] o.2.1 := ((ax_XF_lt (by decide)).mp (ax_gx p4 (228, [3]) (List.mem_append_right lw_GL List.mem_cons_self))).1
    have xe : ay_TE 1 (fun j => ay_at hp 181 (40 * 1 + j)) o.2.1 := ((ax_XF_lt (by decide)).mp (ax_gx p4 (25, []) (List.mem_append_left _ (show ((25, []) : ax_N) ∈ lw_GL by simp [lw_GL])))).2.1 rfl rfl
    have xr : ay_TR 1 (fun k => ay_at hp 182 (100 * 1 + k)) o.2.1 := ((ax_XF_lt (by decide)).mp (ax_gx p4 (26, []) (List.mem_append_left _ (show ((26, []) : ax_N) ∈ lw_GL by simp [lw_GL])))).2.2 rfl rfl
    rw [c0] at x
    obtain ⟨r1, r2⟩ := fin lw_W1 p5 (lw_gx5 (ax_XT_EO p4) (fun x hx => List.mem_append_left _ (show x ∈ lw_GL from hx))) ⟨_, mR, p6'⟩ f0 (Or.inl ⟨v0, x.2.2⟩) (by rw [v0])
    exact ⟨p7, r1, Or.inr r2, ⟨_, mR, p6'⟩, Or.inl ⟨⟨_, _, x.2.2⟩, v0, p6', xe, xr⟩⟩
  · obtain ⟨po, hpo, ρ', r, p1, p2, p3, p4, p5, p6, p7⟩ := ho
    have e := List.mem_singleton.mp (show po ∈ [_] from hpo)
    subst e
    cases p2
    have c0 : ρ' 0 = g := p1 0 (by decide)
    have f0 := lw_FO (a := 702) (i := 44) (v := 0) (q := 173) (j := 11) p4 List.mem_cons_self rfl rfl
    rw [ax_vl_c (by decide)] at f0
    have v0 : o.1 = ρ' 1 := lw_ev_vl p3
    have p6' : ax_HR ax_wC ay_nMD1 hp o.2.1 := ay_HRw lw_w0.symm p6
    have x : pz_x126 (ρ' 0) (ρ' 1) := (ax_XF_lt (x := 226) (by decide)).mp (ax_gx p4 (226, [3, 7]) (List.mem_append_right lw_GL List.mem_cons_self))
    have y : ax_XM 0 227 [] o.2.1 := lw_gx p4 (by decide) rfl (List.mem_append_right lw_GL (List.mem_cons_of_mem _ List.mem_cons_self))
    rw [c0, ← v0] at x
    obtain ⟨r1, r2⟩ := fin lw_W0 p5 (lw_gx5 p4 (fun x hx => List.mem_append_left _ (show x ∈ lw_GL from hx))) ⟨_, m, p6'⟩ f0 (Or.inr ⟨x, y.2.2⟩) (ax_isK0 p4 (v := 7) (by decide +kernel) p3).1
    exact ⟨p7, r1, Or.inl r2, ⟨_, m, p6'⟩, Or.inr ⟨x, hNT, p5⟩⟩

end LWS
