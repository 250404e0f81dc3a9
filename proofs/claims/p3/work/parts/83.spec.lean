/-! feed, end, net: what becomes of the sizes -/
noncomputable def lw_c (cs : List ax_C) (k : Nat) : ax_C := cs.getD k (([], (0, [], [], [], [])), [], [])
theorem lw_szT {hp : rx_H} {s : Nat} (hT : ax_HT ax_wC hp) (h : ay_at hp 8 1 = some s) : ∃ n, s = 4 * n ∧ n ≤ 800 := by
  obtain ⟨k, n, tl, f, b1, b2, b3, b4⟩ := hT.2 8 2 rfl
  rw [ay_eq b2] at h
  obtain ⟨t, t1, t2⟩ := b4 1 s h
  have e : (ax_wC.2.1[2]?).map (fun z => ax_at z.2.2 1) = some (some (0, 2147483648, 2147484448)) := rfl
  rw [b1] at e
  have e := Option.some.inj e
  dsimp only at e
  rw [t1] at e
  cases e
  rcases t2 with ⟨-, q1, q2, q3, q4⟩ | ⟨q, -⟩ | ⟨q, -⟩ | ⟨q, -⟩
  · replace q3 : 2147483648 ≤ rx_bi (s / 4) := q3
    replace q4 : rx_bi (s / 4) ≤ 2147484448 := q4
    obtain ⟨z1, z2⟩ := ax_bi_pos q2 q3
    exact ⟨s / 4, by omega, by omega⟩
  · cases q
  · cases q
  · cases q
theorem lw_EOf {w : ax_W} {X : ax_X} {hp : rx_H} {vals : List Nat} {ty : List ax_Y} {t : ax_Y} {x a i q j : Nat} {need : List ax_N} (hl : ty.length = vals.length) (hty : ∀ (k : Nat) (u : ax_Y), ty[k]? = some u → ax_ok w u (rx_int (vals.getD k 0))) (ht : ax_ok w t x) (ea : a = 4 * (q + 2) + 2) (ei : i = 4 * j) (hc : ay_at hp q j = some x)
    (hN : ∀ y ∈ need, ax_NO X (vals.length + 1) (lw_ro (vals.map rx_int ++ [x])) hp y) : ax_EO w X (lw_ro (vals.map rx_int ++ [x])) (vals.length + 1, t :: ty.reverse, [(a, i, 4 * vals.length + 3)], [], need) hp := by
  have en : lw_ro (vals.map rx_int ++ [x]) vals.length = x := by
    show (vals.map rx_int ++ [x]).getD vals.length 0 = x
    rw [List.getD_eq_getElem?_getD, List.getElem?_append_right (by simp)]
    simp
  refine ⟨by simp [hl], fun k u hk hu => ?_, fun f hf => ?_, (fun d hd => by cases hd), hN⟩
  · replace hk : k < vals.length + 1 := hk
    replace hu : (t :: ty.reverse)[vals.length + 1 - 1 - k]? = some u := hu
    rcases Nat.lt_or_ge k vals.length with h1 | h1
    · rw [show vals.length + 1 - 1 - k = (vals.length - 1 - k) + 1 by omega, List.getElem?_cons_succ, List.getElem?_reverse (by omega), hl, show vals.length - 1 - (vals.length - 1 - k) = k by omega] at hu
      have e : lw_ro (vals.map rx_int ++ [x]) k = rx_int (vals.getD k 0) := by
        show (vals.map rx_int ++ [x]).getD k 0 = _
        rw [List.getD_eq_getElem?_getD, List.getElem?_append_left (by simpa using h1), List.getElem?_map, List.getD_eq_getElem?_getD, List.getElem?_eq_getElem h1]
        rfl
      rw [e]
      exact hty k u hu
    · have hk0 : k = vals.length := by omega
      subst hk0
      rw [show vals.length + 1 - 1 - vals.length = 0 by omega] at hu
      cases hu
      rw [en]
      exact ht
  · cases List.mem_singleton.mp hf
    cases e : rx_hg hp q with
    | none =>
      unfold ay_at at hc
      rw [e] at hc
      cases hc
    | some cl =>
      obtain ⟨kk, m, f⟩ := cl
      rw [ay_eq e] at hc
      refine ⟨a, i, x, kk, m, f, (show ax_ev _ _ a = some a from ax_ev_c (by omega)), (show ax_ev _ _ i = some i from ax_ev_c (by omega)), ?_, by omega, by omega, by omega, by rw [show a / 4 - 2 = q by omega]; exact e, by rw [show i / 4 = j by omega]; exact hc⟩
      show ax_ev (vals.length + 1) (lw_ro (vals.map rx_int ++ [x])) (4 * vals.length + 3) = some x
      unfold ax_ev
      rw [if_pos (by omega), if_pos (by omega), show (4 * vals.length + 3) / 4 = vals.length by omega, en]
/-- the content of a cell that is told -/
theorem lw_FO {w : ax_W} {X : ax_X} {ρ : Nat → Nat} {E : ax_E} {hp : rx_H} {a i v q j : Nat} (hE : ax_EO w X ρ E hp) (h : (a, i, v) ∈ E.2.2.1) (ea : a = 4 * (q + 2) + 2) (ei : i = 4 * j) : ay_at hp q j = some (ax_vl ρ v) := by
  obtain ⟨a', i', v', k, m, f, e1, e2, e3, e4, e5, e6, e7, e8⟩ := hE.2.2.1 _ h
  rw [ax_ev_c (show a % 4 ≠ 3 by omega)] at e1
  rw [ax_ev_c (show i % 4 ≠ 3 by omega)] at e2
  have e1 := Option.some.inj e1
  have e2 := Option.some.inj e2
  subst e1
  subst e2
  rw [show a / 4 - 2 = q by omega] at e7
  rw [show i / 4 = j by omega] at e8
  rw [ay_eq e7, e8]
  have e3' : ax_ev E.1 ρ v = some v' := e3
  unfold ax_ev at e3'
  unfold ax_vl
  by_cases h3 : v % 4 = 3
  · rw [if_pos h3] at e3' ⊢
    by_cases hl : v / 4 < E.1
    · rw [if_pos hl] at e3'
      exact e3'.symm
    · rw [if_neg hl] at e3'; cases e3'
  · rw [if_neg h3] at e3' ⊢
    exact e3'.symm
theorem lw_ev_vl {n : Nat} {ρ : Nat → Nat} {v x : Nat} (h : ax_ev n ρ v = some x) : x = ax_vl ρ v := by
  unfold ax_ev at h
  unfold ax_vl
  by_cases h3 : v % 4 = 3
  · rw [if_pos h3] at h ⊢
    by_cases hl : v / 4 < n
    · rw [if_pos hl] at h
      exact (Option.some.inj h).symm
    · rw [if_neg hl] at h; cases h
  · rw [if_neg h3] at h ⊢
    exact (Option.some.inj h).symm
theorem lw_sum {w : ax_W} {X : ax_X} {ρ : Nat → Nat} {E : ax_E} {hp : rx_H} {p q r a m : Nat} (hE : ax_EO w X ρ E hp) (h : (1015, [p, q, r, 0]) ∈ E.2.2.2.2) (hq : q = 4 * m) (ha : ax_vl ρ p = 4 * a) (hm : a + m < 2147483648) : ax_vl ρ r = 4 * (a + m) := by
  obtain ⟨x, y, z, e1, e2, e3, l1, l2, l3, hs⟩ := ax_gs hE p q r h
  rw [ax_vl_c (show q % 4 ≠ 3 by omega)] at e2
  replace hs : (x + 2147483648) % 4294967296 + (y + 2147483648) % 4294967296 = (z + 2147483648) % 4294967296 + 2147483648 := hs
  rw [e3]
  omega
noncomputable def lw_fs (n : Nat) : Nat := if n ≤ 780 then n + 20 else n
noncomputable def lw_fa (n : Nat) : Nat := if n ≤ 780 then 4 * (n + 20) else 17179869180
noncomputable def lw_es (n a : Nat) : Nat := if a < 2147483648 ∧ a ≤ n then a else n
noncomputable def lw_ea (n a : Nat) : Nat := if a < 2147483648 ∧ a ≤ n then 4 * a else 17179869180
theorem lw_bi {n : Nat} (h : n < 2147483648) : rx_bi n = n + 2147483648 := by
  show (n + 2147483648) % 4294967296 = _
  omega
theorem lw_biN {n : Nat} (h : 2147483648 ≤ n) (h2 : n < 4294967296) : rx_bi n = n - 2147483648 := by
  show (n + 2147483648) % 4294967296 = _
  omega
theorem lw_ok4 {w : ax_W} {n lo hi : Nat} (h : n < 2147483648) (h1 : lo ≤ n + 2147483648) (h2 : n + 2147483648 ≤ hi) : ax_ok w (0, lo, hi) (4 * n) := by
  refine Or.inl ⟨rfl, by omega, by omega, ?_, ?_⟩
  · show lo ≤ rx_bi (4 * n / 4)
    rw [show 4 * n / 4 = n by omega, lw_bi h]
    exact h1
  · show rx_bi (4 * n / 4) ≤ hi
    rw [show 4 * n / 4 = n by omega, lw_bi h]
    exact h2
theorem lw_vl3 {ρ : Nat → Nat} {k : Nat} : ax_vl ρ (4 * k + 3) = ρ k := by
  unfold ax_vl
  rw [if_pos (by omega), show (4 * k + 3) / 4 = k by omega]
section LWS
variable {l : Launch} {cy : Nat → ClassId} {D : va_G} {hp : rx_H} {b : Nat} {wM : ax_W}
theorem lw_any5 {w : ax_W} {vals : List Nat} (hv : ∀ v ∈ vals, v < 4294967296) (n : Nat) : ∀ (k : Nat) (u : ax_Y), (List.replicate n lw_any)[k]? = some u → ax_ok w u (rx_int (vals.getD k 0)) := by
  intro k u hu
  rw [List.getElem?_replicate] at hu
  by_cases hk : k < n
  · rw [if_pos hk] at hu
    cases hu
    refine lw_int_ok ?_
    rw [List.getD_eq_getElem?_getD]
    cases e : vals[k]? with
    | none => decide
    | some v => exact hv v (List.mem_of_getElem? e)
  · rw [if_neg hk] at hu; cases hu
set_option maxHeartbeats 1000000 in
theorem lw_feedC (hA : ∀ B, ax_Low ax_wC ax_XC rx_P ax_APC l cy D B) (w : lw_W b wM) (hB : lw_B b wM hp) {n t a1 a2 a3 a4 a5 : Nat} (hs : ay_at hp 8 1 = some (4 * n)) (hn : n ≤ 800) (ht : ay_at hp 173 11 = some t) (hv : ∀ v ∈ [a1, a2, a3, a4, a5], v < 4294967296) :
    ax_Wp l cy D rxm_109 (0, rx_args (10 :: [a1, a2, a3, a4, a5].map rx_int) (rx_mL (rx_n rxm_109)), [], hp, [], 0, 0) (fun o => o.2.2 = [] ∧ o.1 = lw_fa n ∧ lw_B b wM o.2.1 ∧ ay_at o.2.1 8 1 = some (4 * lw_fs n) ∧ ay_at o.2.1 173 11 = some t) := by
  have hL := (hA (rx_rf (rx_n rxm_109) + 1) 109 rxm_109 (axm_109, axc_109) rfl rfl).2 (Nat.lt_succ_self _)
  have hN : ∀ y ∈ ([(0, [80])] : List ax_N), ax_NO ax_XC 6 (lw_ro ([a1, a2, a3, a4, a5].map rx_int ++ [4 * n])) hp y := fun y hy => by
    cases List.mem_singleton.mp hy
    exact lw_NO (by decide) lw_80e hB.2.1
  by_cases hn' : n ≤ 780
  · have hE := lw_EOf (w := ax_wC) (X := ax_XC) (vals := [a1, a2, a3, a4, a5]) (ty := List.replicate 5 lw_any) (t := (0, 2147483648, 2147484428)) (a := 42) (i := 4) rfl (lw_any5 hv 5) (lw_ok4 (n := n) (by omega) (by omega) (by omega)) rfl rfl hs hN
    refine ax_wp_mono (hL (lw_c axc_109 1) (List.mem_cons_of_mem _ List.mem_cons_self) (lw_ro ([a1, a2, a3, a4, a5].map rx_int ++ [4 * n])) hp _ rfl hE hB.1) (fun o ho => ?_)
    obtain ⟨po, hpo, ρ', r, p1, p2, p3, p4, p5, p6, p7⟩ := ho
    replace hpo : po ∈ [_] := hpo
    have e := List.mem_singleton.mp hpo
    subst e
    cases p2
    have c0 : ax_vl ρ' 23 = 4 * n := by
      rw [show (23 : Nat) = 4 * 5 + 3 from rfl, lw_vl3, p1 5 (by decide)]
      rfl
    have c1 := lw_sum (p := 23) (q := 4) (r := 27) (m := 1) p4 (List.mem_cons_of_mem _ (List.mem_cons_of_mem _ (List.mem_cons_of_mem _ (List.mem_cons_of_mem _ (List.mem_cons_of_mem _ (List.mem_cons_of_mem _ (List.mem_cons_of_mem _ (List.mem_cons_of_mem _ (List.mem_cons_of_mem _ (List.mem_cons_of_mem _ (List.mem_cons_of_mem _ (List.mem_cons_of_mem _ (List.mem_cons_of_mem _ (List.mem_cons_of_mem _ (List.mem_cons_of_mem _ (List.mem_cons_of_mem _ (List.mem_cons_of_mem _ (List.mem_cons_of_mem _ (List.mem_cons_of_mem _ (List.mem_cons_of_mem _ (List.mem_cons_self))))))))))))))))))))) rfl c0 (by omega)
    have c2 := lw_sum (p := 27) (q := 4) (r := 31) (m := 1) p4 (List.mem_cons_of_mem _ (List.mem_cons_of_mem _ (List.mem_cons_of_mem _ (List.mem_cons_of_mem _ (List.mem_cons_of_mem _ (List.mem_cons_of_mem _ (List.mem_cons_of_mem _ (List.mem_cons_of_mem _ (List.mem_cons_of_mem _ (List.mem_cons_of_mem _ (List.mem_cons_of_mem _ (List.mem_cons_of_mem _ (List.mem_cons_of_mem _ (List.mem_cons_of_mem _ (List.mem_cons_of_mem _ (List.mem_cons_of_mem _ (List.mem_cons_of_mem _ (List.mem_cons_of_mem _ (List.mem_cons_of_mem _ (List.mem_cons_self)))))))))))))))))))) rfl c1 (by omega)
    rw [Nat.add_assoc] at c2
    have c3 := lw_sum (p := 31) (q := 4) (r := 35) (m := 1) p4 (List.mem_cons_of_mem _ (List.mem_cons_of_mem _ (List.mem_cons_of_mem _ (List.mem_cons_of_mem _ (List.mem_cons_of_mem _ (List.mem_cons_of_mem _ (List.mem_cons_of_mem _ (List.mem_cons_of_mem _ (List.mem_cons_of_mem _ (List.mem_cons_of_mem _ (List.mem_cons_of_mem _ (List.mem_cons_of_mem _ (List.mem_cons_of_mem _ (List.mem_cons_of_mem _ (List.mem_cons_of_mem _ (List.mem_cons_of_mem _ (List.mem_cons_of_mem _ (List.mem_cons_of_mem _ (List.mem_cons_self))))))))))))))))))) rfl c2 (by omega)
    rw [Nat.add_assoc] at c3
    have c4 := lw_sum (p := 35) (q := 4) (r := 39) (m := 1) p4 (List.mem_cons_of_mem _ (List.mem_cons_of_mem _ (List.mem_cons_of_mem _ (List.mem_cons_of_mem _ (List.mem_cons_of_mem _ (List.mem_cons_of_mem _ (List.mem_cons_of_mem _ (List.mem_cons_of_mem _ (List.mem_cons_of_mem _ (List.mem_cons_of_mem _ (List.mem_cons_of_mem _ (List.mem_cons_of_mem _ (List.mem_cons_of_mem _ (List.mem_cons_of_mem _ (List.mem_cons_of_mem _ (List.mem_cons_of_mem _ (List.mem_cons_of_mem _ (List.mem_cons_self)))))))))))))))))) rfl c3 (by omega)
    rw [Nat.add_assoc] at c4
    have c5 := lw_sum (p := 39) (q := 4) (r := 43) (m := 1) p4 (List.mem_cons_of_mem _ (List.mem_cons_of_mem _ (List.mem_cons_of_mem _ (List.mem_cons_of_mem _ (List.mem_cons_of_mem _ (List.mem_cons_of_mem _ (List.mem_cons_of_mem _ (List.mem_cons_of_mem _ (List.mem_cons_of_mem _ (List.mem_cons_of_mem _ (List.mem_cons_of_mem _ (List.mem_cons_of_mem _ (List.mem_cons_of_mem _ (List.mem_cons_of_mem _ (List.mem_cons_of_mem _ (List.mem_cons_of_mem _ (List.mem_cons_self))))))))))))))))) rfl c4 (by omega)
    rw [Nat.add_assoc] at c5
    have c6 := lw_sum (p := 43) (q := 4) (r := 47) (m := 1) p4 (List.mem_cons_of_mem _ (List.mem_cons_of_mem _ (List.mem_cons_of_mem _ (List.mem_cons_of_mem _ (List.mem_cons_of_mem _ (List.mem_cons_of_mem _ (List.mem_cons_of_mem _ (List.mem_cons_of_mem _ (List.mem_cons_of_mem _ (List.mem_cons_of_mem _ (List.mem_cons_of_mem _ (List.mem_cons_of_mem _ (List.mem_cons_of_mem _ (List.mem_cons_of_mem _ (List.mem_cons_of_mem _ (List.mem_cons_self)))))))))))))))) rfl c5 (by omega)
    rw [Nat.add_assoc] at c6
    have c7 := lw_sum (p := 47) (q := 4) (r := 51) (m := 1) p4 (List.mem_cons_of_mem _ (List.mem_cons_of_mem _ (List.mem_cons_of_mem _ (List.mem_cons_of_mem _ (List.mem_cons_of_mem _ (List.mem_cons_of_mem _ (List.mem_cons_of_mem _ (List.mem_cons_of_mem _ (List.mem_cons_of_mem _ (List.mem_cons_of_mem _ (List.mem_cons_of_mem _ (List.mem_cons_of_mem _ (List.mem_cons_of_mem _ (List.mem_cons_of_mem _ (List.mem_cons_self))))))))))))))) rfl c6 (by omega)
    rw [Nat.add_assoc] at c7
    have c8 := lw_sum (p := 51) (q := 4) (r := 55) (m := 1) p4 (List.mem_cons_of_mem _ (List.mem_cons_of_mem _ (List.mem_cons_of_mem _ (List.mem_cons_of_mem _ (List.mem_cons_of_mem _ (List.mem_cons_of_mem _ (List.mem_cons_of_mem _ (List.mem_cons_of_mem _ (List.mem_cons_of_mem _ (List.mem_cons_of_mem _ (List.mem_cons_of_mem _ (List.mem_cons_of_mem _ (List.mem_cons_of_mem _ (List.mem_cons_self)))))))))))))) rfl c7 (by omega)
    rw [Nat.add_assoc] at c8
    have c9 := lw_sum (p := 55) (q := 4) (r := 59) (m := 1) p4 (List.mem_cons_of_mem _ (List.mem_cons_of_mem _ (List.mem_cons_of_mem _ (List.mem_cons_of_mem _ (List.mem_cons_of_mem _ (List.mem_cons_of_mem _ (List.mem_cons_of_mem _ (List.mem_cons_of_mem _ (List.mem_cons_of_mem _ (List.mem_cons_of_mem _ (List.mem_cons_of_mem _ (List.mem_cons_of_mem _ (List.mem_cons_self))))))))))))) rfl c8 (by omega)
    rw [Nat.add_assoc] at c9
    have c10 := lw_sum (p := 59) (q := 4) (r := 63) (m := 1) p4 (List.mem_cons_of_mem _ (List.mem_cons_of_mem _ (List.mem_cons_of_mem _ (List.mem_cons_of_mem _ (List.mem_cons_of_mem _ (List.mem_cons_of_mem _ (List.mem_cons_of_mem _ (List.mem_cons_of_mem _ (List.mem_cons_of_mem _ (List.mem_cons_of_mem _ (List.mem_cons_of_mem _ (List.mem_cons_self)))))))))))) rfl c9 (by omega)
    rw [Nat.add_assoc] at c10
    have c11 := lw_sum (p := 63) (q := 4) (r := 67) (m := 1) p4 (List.mem_cons_of_mem _ (List.mem_cons_of_mem _ (List.mem_cons_of_mem _ (List.mem_cons_of_mem _ (List.mem_cons_of_mem _ (List.mem_cons_of_mem _ (List.mem_cons_of_mem _ (List.mem_cons_of_mem _ (List.mem_cons_of_mem _ (List.mem_cons_of_mem _ (List.mem_cons_self))))))))))) rfl c10 (by omega)
    rw [Nat.add_assoc] at c11
    have c12 := lw_sum (p := 67) (q := 4) (r := 71) (m := 1) p4 (List.mem_cons_of_mem _ (List.mem_cons_of_mem _ (List.mem_cons_of_mem _ (List.mem_cons_of_mem _ (List.mem_cons_of_mem _ (List.mem_cons_of_mem _ (List.mem_cons_of_mem _ (List.mem_cons_of_mem _ (List.mem_cons_of_mem _ (List.mem_cons_self)))))))))) rfl c11 (by omega)
    rw [Nat.add_assoc] at c12
    have c13 := lw_sum (p := 71) (q := 4) (r := 75) (m := 1) p4 (List.mem_cons_of_mem _ (List.mem_cons_of_mem _ (List.mem_cons_of_mem _ (List.mem_cons_of_mem _ (List.mem_cons_of_mem _ (List.mem_cons_of_mem _ (List.mem_cons_of_mem _ (List.mem_cons_of_mem _ (List.mem_cons_self))))))))) rfl c12 (by omega)
    rw [Nat.add_assoc] at c13
    have c14 := lw_sum (p := 75) (q := 4) (r := 79) (m := 1) p4 (List.mem_cons_of_mem _ (List.mem_cons_of_mem _ (List.mem_cons_of_mem _ (List.mem_cons_of_mem _ (List.mem_cons_of_mem _ (List.mem_cons_of_mem _ (List.mem_cons_of_mem _ (List.mem_cons_self)))))))) rfl c13 (by omega)
    rw [Nat.add_assoc] at c14
    have c15 := lw_sum (p := 79) (q := 4) (r := 83) (m := 1) p4 (List.mem_cons_of_mem _ (List.mem_cons_of_mem _ (List.mem_cons_of_mem _ (List.mem_cons_of_mem _ (List.mem_cons_of_mem _ (List.mem_cons_of_mem _ (List.mem_cons_self))))))) rfl c14 (by omega)
    rw [Nat.add_assoc] at c15
    have c16 := lw_sum (p := 83) (q := 4) (r := 87) (m := 1) p4 (List.mem_cons_of_mem _ (List.mem_cons_of_mem _ (List.mem_cons_of_mem _ (List.mem_cons_of_mem _ (List.mem_cons_of_mem _ (List.mem_cons_self)))))) rfl c15 (by omega)
    rw [Nat.add_assoc] at c16
    have c17 := lw_sum (p := 87) (q := 4) (r := 91) (m := 1) p4 (List.mem_cons_of_mem _ (List.mem_cons_of_mem _ (List.mem_cons_of_mem _ (List.mem_cons_of_mem _ (List.mem_cons_self))))) rfl c16 (by omega)
    rw [Nat.add_assoc] at c17
    have c18 := lw_sum (p := 91) (q := 4) (r := 95) (m := 1) p4 (List.mem_cons_of_mem _ (List.mem_cons_of_mem _ (List.mem_cons_of_mem _ (List.mem_cons_self)))) rfl c17 (by omega)
    rw [Nat.add_assoc] at c18
    have c19 := lw_sum (p := 95) (q := 4) (r := 99) (m := 1) p4 (List.mem_cons_of_mem _ (List.mem_cons_of_mem _ (List.mem_cons_self))) rfl c18 (by omega)
    rw [Nat.add_assoc] at c19
    have c20 := lw_sum (p := 99) (q := 4) (r := 103) (m := 1) p4 (List.mem_cons_of_mem _ (List.mem_cons_self)) rfl c19 (by omega)
    rw [Nat.add_assoc] at c20
    replace c20 : ax_vl ρ' 103 = 4 * (n + 20) := c20
    have f0 := lw_FO (a := 42) (i := 4) (v := 103) (q := 8) (j := 1) p4 List.mem_cons_self rfl rfl
    rw [c20] at f0
    have v0 := lw_ev_vl p3
    rw [c20] at v0
    have x0 : ax_XC 0 [80] o.2.1 := lw_gx p4 (by decide) lw_80 List.mem_cons_self
    have m1 : (lw_c axc_109 1).2.1.all (fun x => lw_isC x.1) = true := by decide +kernel
    refine ⟨p7, ?_, lw_cls w hB p5 x0 p6 m1, ?_, lw_ay (g := 11) p6 rfl (lw_mem_md m1 rfl) ht⟩
    · rw [v0]; unfold lw_fa; rw [if_pos hn']
    · rw [f0]; unfold lw_fs; rw [if_pos hn']
  · have hE := lw_EOf (w := ax_wC) (X := ax_XC) (vals := [a1, a2, a3, a4, a5]) (ty := List.replicate 5 lw_any) (t := (0, 2147484429, 2147484448)) (a := 42) (i := 4) rfl (lw_any5 hv 5) (lw_ok4 (n := n) (by omega) (by omega) (by omega)) rfl rfl hs hN
    refine ax_wp_mono (hL (lw_c axc_109 0) List.mem_cons_self (lw_ro ([a1, a2, a3, a4, a5].map rx_int ++ [4 * n])) hp _ rfl hE hB.1) (fun o ho => ?_)
    obtain ⟨po, hpo, ρ', r, p1, p2, p3, p4, p5, p6, p7⟩ := ho
    replace hpo : po ∈ [_] := hpo
    have e := List.mem_singleton.mp hpo
    subst e
    cases p2
    have c0 : ax_vl ρ' 23 = 4 * n := by
      rw [show (23 : Nat) = 4 * 5 + 3 from rfl, lw_vl3, p1 5 (by decide)]
      rfl
    have f0 := lw_FO (a := 42) (i := 4) (v := 23) (q := 8) (j := 1) p4 List.mem_cons_self rfl rfl
    rw [c0] at f0
    have v0 := lw_ev_vl p3
    have x0 : ax_XC 0 [80] o.2.1 := lw_gx p4 (by decide) lw_80 List.mem_cons_self
    have m1 : (lw_c axc_109 0).2.1.all (fun x => lw_isC x.1) = true := by decide +kernel
    refine ⟨p7, ?_, lw_cls w hB p5 x0 p6 m1, ?_, lw_ay (g := 11) p6 rfl (lw_mem_md m1 rfl) ht⟩
    · rw [v0, ax_vl_c (by decide)]; unfold lw_fa; rw [if_neg hn']
    · rw [f0]; unfold lw_fs; rw [if_neg hn']
set_option maxHeartbeats 1000000 in
theorem lw_endC (hA : ∀ B, ax_Low ax_wC ax_XC rx_P ax_APC l cy D B) (w : lw_W b wM) (hB : lw_B b wM hp) {n t a : Nat} (hs : ay_at hp 8 1 = some (4 * n)) (hn : n ≤ 800) (ht : ay_at hp 173 11 = some t) (hv : a < 4294967296) :
    ax_Wp l cy D rxm_39 (0, rx_args (10 :: [a].map rx_int) (rx_mL (rx_n rxm_39)), [], hp, [], 0, 0) (fun o => o.2.2 = [] ∧ o.1 = lw_ea n a ∧ lw_B b wM o.2.1 ∧ ay_at o.2.1 8 1 = some (4 * lw_es n a) ∧ ay_at o.2.1 173 11 = some t) := by
  have hL := (hA (rx_rf (rx_n rxm_39) + 1) 39 rxm_39 (axm_39, axc_39) rfl rfl).2 (Nat.lt_succ_self _)
  have hN : ∀ y ∈ ([(0, [80])] : List ax_N), ax_NO ax_XC 2 (lw_ro ([a].map rx_int ++ [4 * n])) hp y := fun y hy => by
    cases List.mem_singleton.mp hy
    exact lw_NO (by decide) lw_80e hB.2.1
  have m1 : ∀ k, k < 2 → (lw_c axc_39 k).2.1.all (fun x => lw_isC x.1) = true := by decide +kernel
  by_cases hn' : a < 2147483648
  · have hE := lw_EOf (w := ax_wC) (X := ax_XC) (vals := [a]) (ty := [(0, 2147483648, 4294967295)]) (t := (0, 2147483648, 2147484448)) (a := 42) (i := 4) rfl (fun k u hu => by
      match k, hu with
      | 0, hu => cases hu; exact lw_ok4 (n := a) hn' (by omega) (by omega)
      | k + 1, hu => cases hu) (lw_ok4 (n := n) (by omega) (by omega) (by omega)) rfl rfl hs hN
    refine ax_wp_mono (hL (lw_c axc_39 1) (List.mem_cons_of_mem _ List.mem_cons_self) (lw_ro ([a].map rx_int ++ [4 * n])) hp _ rfl hE hB.1) (fun o ho => ?_)
    obtain ⟨po, hpo, ρ', r, p1, p2, p3, p4, p5, p6, p7⟩ := ho
    have c0 : ρ' 0 = 4 * a := p1 0 (by decide)
    have c1 : ρ' 1 = 4 * n := p1 1 (by decide)
    replace hpo : po ∈ [_, _] := hpo
    have m := m1 1 (by decide)
    rcases List.mem_cons.mp hpo with e | hpo
    · subst e
      cases p2
      have f0 := lw_FO (a := 42) (i := 4) (v := 4 * 1 + 3) (q := 8) (j := 1) p4 List.mem_cons_self rfl rfl
      rw [lw_vl3, c1] at f0
      have v0 := lw_ev_vl p3
      have x0 : ax_XC 0 [80] o.2.1 := lw_gx p4 (by decide) lw_80 List.mem_cons_self
      have g0 := ax_gc p4 4 (4 * 0 + 3) (4 * 1 + 3) (by decide) (List.mem_cons_of_mem _ List.mem_cons_self)
      rw [lw_vl3, lw_vl3, c0, c1] at g0
      replace g0 : rx_bi (4 * n / 4) < rx_bi (4 * a / 4) := g0
      rw [show 4 * n / 4 = n by omega, show 4 * a / 4 = a by omega, lw_bi hn', lw_bi (by omega)] at g0
      refine ⟨p7, by rw [v0, ax_vl_c (by decide)]; unfold lw_ea; rw [if_neg (by omega)], lw_cls w hB p5 x0 p6 m, ?_, lw_ay (g := 11) p6 rfl (lw_mem_md m rfl) ht⟩
      rw [f0]; unfold lw_es; rw [if_neg (by omega)]
    · have e := List.mem_singleton.mp hpo
      subst e
      cases p2
      have f0 := lw_FO (a := 42) (i := 4) (v := 4 * 0 + 3) (q := 8) (j := 1) p4 List.mem_cons_self rfl rfl
      rw [lw_vl3, c0] at f0
      have v0 := lw_ev_vl p3
      have x0 : ax_XC 0 [80] o.2.1 := lw_gx p4 (by decide) lw_80 List.mem_cons_self
      have g0 := ax_gc p4 5 (4 * 0 + 3) (4 * 1 + 3) (by decide) (List.mem_cons_of_mem _ List.mem_cons_self)
      rw [lw_vl3, lw_vl3, c0, c1] at g0
      replace g0 : rx_bi (4 * a / 4) ≤ rx_bi (4 * n / 4) := g0
      rw [show 4 * n / 4 = n by omega, show 4 * a / 4 = a by omega, lw_bi hn', lw_bi (by omega)] at g0
      refine ⟨p7, ?_, lw_cls w hB p5 x0 p6 m, ?_, lw_ay (g := 11) p6 rfl (lw_mem_md m rfl) ht⟩
      · rw [v0, show (3 : Nat) = 4 * 0 + 3 from rfl, lw_vl3, c0]; unfold lw_ea; rw [if_pos (by omega)]
      · rw [f0]; unfold lw_es; rw [if_pos (by omega)]
  · have hE := lw_EOf (w := ax_wC) (X := ax_XC) (vals := [a]) (ty := [(0, 0, 2147483647)]) (t := (0, 2147483648, 2147484448)) (a := 42) (i := 4) rfl (fun k u hu => by
      match k, hu with
      | 0, hu =>
        cases hu
        refine Or.inl ⟨rfl, lw_int4 a, by show rx_pl (rx_int a) < _; rw [lw_pl]; exact hv, Nat.zero_le _, ?_⟩
        show rx_bi (rx_pl (rx_int a)) ≤ _
        rw [lw_pl, lw_biN (by omega) hv]
        show a - 2147483648 ≤ 2147483647
        omega
      | k + 1, hu => cases hu) (lw_ok4 (n := n) (by omega) (by omega) (by omega)) rfl rfl hs hN
    refine ax_wp_mono (hL (lw_c axc_39 0) List.mem_cons_self (lw_ro ([a].map rx_int ++ [4 * n])) hp _ rfl hE hB.1) (fun o ho => ?_)
    obtain ⟨po, hpo, ρ', r, p1, p2, p3, p4, p5, p6, p7⟩ := ho
    replace hpo : po ∈ [_] := hpo
    have e := List.mem_singleton.mp hpo
    subst e
    cases p2
    have c1 : ρ' 1 = 4 * n := p1 1 (by decide)
    have m := m1 0 (by decide)
    have f0 := lw_FO (a := 42) (i := 4) (v := 4 * 1 + 3) (q := 8) (j := 1) p4 List.mem_cons_self rfl rfl
    rw [lw_vl3, c1] at f0
    have v0 := lw_ev_vl p3
    have x0 : ax_XC 0 [80] o.2.1 := lw_gx p4 (by decide) lw_80 List.mem_cons_self
    refine ⟨p7, by rw [v0, ax_vl_c (by decide)]; unfold lw_ea; rw [if_neg (by omega)], lw_cls w hB p5 x0 p6 m, ?_, lw_ay (g := 11) p6 rfl (lw_mem_md m rfl) ht⟩
    rw [f0]; unfold lw_es; rw [if_neg (by omega)]
theorem lw_netC (hA : ∀ B, ax_Low ax_wC ax_XC rx_P ax_APC l cy D B) (w : lw_W b wM) (hB : lw_B b wM hp) :
    ax_Wp l cy D rxm_331 (0, rx_args (10 :: ([] : List Nat).map rx_int) (rx_mL (rx_n rxm_331)), [], hp, [], 0, 0) (fun o => o.2.2 = [] ∧ o.1 % 4 = 0 ∧ lw_B b wM o.2.1 ∧ ay_at o.2.1 8 1 = some 0) := by
  have hL := (hA (rx_rf (rx_n rxm_331) + 1) 331 rxm_331 (axm_331, axc_331) rfl rfl).2 (Nat.lt_succ_self _)
  have hE : ax_EO ax_wC ax_XC (fun _ => 0) (0, [], [], [], [(0, [80])]) hp := ⟨rfl, fun k t hk => absurd hk (Nat.not_lt_zero _), (fun f hf => by cases hf), (fun d hd => by cases hd), fun x hx => by
    cases List.mem_singleton.mp hx
    exact lw_NO (by decide) lw_80e hB.2.1⟩
  have m1 : (lw_c axc_331 0).2.1.all (fun x => lw_isC x.1) = true := by decide +kernel
  refine ax_wp_mono (hL (lw_c axc_331 0) List.mem_cons_self (fun _ => 0) hp _ rfl hE hB.1) (fun o ho => ?_)
  obtain ⟨po, hpo, ρ', r, p1, p2, p3, p4, p5, p6, p7⟩ := ho
  replace hpo : po ∈ [_, _] := hpo
  rcases List.mem_cons.mp hpo with e | hpo
  · subst e
    cases p2
    have f0 := lw_FO (a := 42) (i := 4) (v := 0) (q := 8) (j := 1) p4 List.mem_cons_self rfl rfl
    rw [ax_vl_c (by decide)] at f0
    have v0 := lw_ev_vl p3
    have x0 : ax_XC 0 [80] o.2.1 := lw_gx p4 (by decide) lw_80 List.mem_cons_self
    exact ⟨p7, by rw [v0, ax_vl_c (by decide)], lw_cls w hB p5 x0 p6 m1, f0⟩
  · have e := List.mem_singleton.mp hpo
    subst e
    cases p2
    have f0 := lw_FO (a := 42) (i := 4) (v := 0) (q := 8) (j := 1) p4 List.mem_cons_self rfl rfl
    rw [ax_vl_c (by decide)] at f0
    have x0 : ax_XC 0 [80] o.2.1 := lw_gx p4 (by decide) lw_80 List.mem_cons_self
    exact ⟨p7, (ax_isK0 p4 (v := 3) (by decide) p3).1, lw_cls w hB p5 x0 p6 m1, f0⟩
set_option maxHeartbeats 1000000 in
theorem lw_feedM0 (hA : ∀ B, ax_Low ax_wM0 (ax_XM 0) rx_P ax_APM0 l cy D B) (hB : lw_B 0 ax_wM0 hp) {n t a1 a2 a3 a4 a5 : Nat} (hs : ay_at hp 173 11 = some (4 * n)) (hn : n ≤ 800) (ht : ay_at hp 8 1 = some t) (hv : ∀ v ∈ [a1, a2, a3, a4, a5], v < 4294967296) :
    ax_Wp l cy D rxm_51 (0, rx_args (702 :: [a1, a2, a3, a4, a5].map rx_int) (rx_mL (rx_n rxm_51)), [], hp, [], 0, 0) (fun o => o.2.2 = [] ∧ o.1 = lw_fa n ∧ lw_B 0 ax_wM0 o.2.1 ∧ ay_at o.2.1 173 11 = some (4 * lw_fs n) ∧ ay_at o.2.1 8 1 = some t) := by
  have hL := (hA (rx_rf (rx_n rxm_51) + 1) 51 rxm_51 (axm_51, axc0_51) rfl rfl).2 (Nat.lt_succ_self _)
  have hN : ∀ y ∈ lw_GL, ax_NO (ax_XM 0) 6 (lw_ro ([a1, a2, a3, a4, a5].map rx_int ++ [4 * n])) hp y := lw_NO5 hB.2.2.2
  have m1 : ∀ k, k < 2 → (lw_c axc0_51 k).2.1.all (fun x => !(lw_isC x.1)) = true := by decide +kernel
  by_cases hn' : n ≤ 780
  · have hE := lw_EOf (w := ax_wM0) (X := ax_XM 0) (vals := [a1, a2, a3, a4, a5]) (ty := List.replicate 5 lw_any) (t := (0, 2147483648, 2147484428)) (a := 702) (i := 44) rfl (lw_any5 hv 5) (lw_ok4 (n := n) (by omega) (by omega) (by omega)) rfl rfl hs hN
    refine ax_wp_mono (hL (lw_c axc0_51 1) (List.mem_cons_of_mem _ List.mem_cons_self) (lw_ro ([a1, a2, a3, a4, a5].map rx_int ++ [4 * n])) hp _ rfl hE hB.2.2.1) (fun o ho => ?_)
    obtain ⟨po, hpo, ρ', r, p1, p2, p3, p4, p5, p6, p7⟩ := ho
    replace hpo : po ∈ [_] := hpo
    have e := List.mem_singleton.mp hpo
    subst e
    cases p2
    have c0 : ax_vl ρ' 23 = 4 * n := by
      rw [show (23 : Nat) = 4 * 5 + 3 from rfl, lw_vl3, p1 5 (by decide)]
      rfl
    have c20 := lw_sum (p := 23) (q := 80) (r := 27) (m := 20) p4 (List.mem_cons_of_mem _ (List.mem_cons_of_mem _ (List.mem_cons_of_mem _ (List.mem_cons_of_mem _ (List.mem_cons_of_mem _ List.mem_cons_self))))) rfl c0 (by omega)
    have f0 := lw_FO (a := 702) (i := 44) (v := 27) (q := 173) (j := 11) p4 List.mem_cons_self rfl rfl
    rw [c20] at f0
    have v0 := lw_ev_vl p3
    rw [c20] at v0
    have p6' : ax_HR ax_wC (lw_c axc0_51 1).2.1 hp o.2.1 := ay_HRw lw_w0.symm p6
    have m := m1 1 (by decide)
    refine ⟨p7, ?_, lw_mod lw_W0 hB p5 (lw_gx5 p4 (fun x hx => ?_)) p6' m, ?_, lw_ay (g := 2) p6' rfl (lw_mem_md (S := fun g => !(lw_isC g)) m rfl) ht⟩
    · rw [v0]; unfold lw_fa; rw [if_pos hn']
    · exact List.mem_append_left [(1015, [23, 80, 27, 0])] (show x ∈ lw_GL from hx)
    · rw [f0]; unfold lw_fs; rw [if_pos hn']
  · have hE := lw_EOf (w := ax_wM0) (X := ax_XM 0) (vals := [a1, a2, a3, a4, a5]) (ty := List.replicate 5 lw_any) (t := (0, 2147484429, 2147484448)) (a := 702) (i := 44) rfl (lw_any5 hv 5) (lw_ok4 (n := n) (by omega) (by omega) (by omega)) rfl rfl hs hN
    refine ax_wp_mono (hL (lw_c axc0_51 0) List.mem_cons_self (lw_ro ([a1, a2, a3, a4, a5].map rx_int ++ [4 * n])) hp _ rfl hE hB.2.2.1) (fun o ho => ?_)
    obtain ⟨po, hpo, ρ', r, p1, p2, p3, p4, p5, p6, p7⟩ := ho
    replace hpo : po ∈ [_] := hpo
    have e := List.mem_singleton.mp hpo
    subst e
    cases p2
    have c0 : ax_vl ρ' 23 = 4 * n := by
      rw [show (23 : Nat) = 4 * 5 + 3 from rfl, lw_vl3, p1 5 (by decide)]
      rfl
    have f0 := lw_FO (a := 702) (i := 44) (v := 23) (q := 173) (j := 11) p4 List.mem_cons_self rfl rfl
    rw [c0] at f0
    have v0 := lw_ev_vl p3
    have p6' : ax_HR ax_wC (lw_c axc0_51 0).2.1 hp o.2.1 := ay_HRw lw_w0.symm p6
    have m := m1 0 (by decide)
    refine ⟨p7, ?_, lw_mod lw_W0 hB p5 (lw_gx5 p4 (fun x hx => hx)) p6' m, ?_, lw_ay (g := 2) p6' rfl (lw_mem_md (S := fun g => !(lw_isC g)) m rfl) ht⟩
    · rw [v0, ax_vl_c (by decide)]; unfold lw_fa; rw [if_neg hn']
    · rw [f0]; unfold lw_fs; rw [if_neg hn']
set_option maxHeartbeats 1000000 in
theorem lw_endM0 (hA : ∀ B, ax_Low ax_wM0 (ax_XM 0) rx_P ax_APM0 l cy D B) (hB : lw_B 0 ax_wM0 hp) {n t a : Nat} (hs : ay_at hp 173 11 = some (4 * n)) (hn : n ≤ 800) (ht : ay_at hp 8 1 = some t) (hv : a < 4294967296) :
    ax_Wp l cy D rxm_47 (0, rx_args (702 :: [a].map rx_int) (rx_mL (rx_n rxm_47)), [], hp, [], 0, 0) (fun o => o.2.2 = [] ∧ o.1 = lw_ea n a ∧ lw_B 0 ax_wM0 o.2.1 ∧ ay_at o.2.1 173 11 = some (4 * lw_es n a) ∧ ay_at o.2.1 8 1 = some t) := by
  have hL := (hA (rx_rf (rx_n rxm_47) + 1) 47 rxm_47 (axm_47, axc0_47) rfl rfl).2 (Nat.lt_succ_self _)
  have hN : ∀ y ∈ lw_GL, ax_NO (ax_XM 0) 2 (lw_ro ([a].map rx_int ++ [4 * n])) hp y := lw_NO5 hB.2.2.2
  have m1 : ∀ k, k < 2 → (lw_c axc0_47 k).2.1.all (fun x => !(lw_isC x.1)) = true := by decide +kernel
  by_cases hn' : a < 2147483648
  · have hE := lw_EOf (w := ax_wM0) (X := ax_XM 0) (vals := [a]) (ty := [(0, 2147483648, 4294967295)]) (t := (0, 2147483648, 2147484448)) (a := 702) (i := 44) rfl (fun k u hu => by
      match k, hu with
      | 0, hu => cases hu; exact lw_ok4 (n := a) hn' (by omega) (by omega)
      | k + 1, hu => cases hu) (lw_ok4 (n := n) (by omega) (by omega) (by omega)) rfl rfl hs hN
    refine ax_wp_mono (hL (lw_c axc0_47 1) (List.mem_cons_of_mem _ List.mem_cons_self) (lw_ro ([a].map rx_int ++ [4 * n])) hp _ rfl hE hB.2.2.1) (fun o ho => ?_)
    obtain ⟨po, hpo, ρ', r, p1, p2, p3, p4, p5, p6, p7⟩ := ho
    have c0 : ρ' 0 = 4 * a := p1 0 (by decide)
    have c1 : ρ' 1 = 4 * n := p1 1 (by decide)
    replace hpo : po ∈ [_, _] := hpo
    have m := m1 1 (by decide)
    have p6' : ax_HR ax_wC (lw_c axc0_47 1).2.1 hp o.2.1 := ay_HRw lw_w0.symm p6
    rcases List.mem_cons.mp hpo with e | hpo
    · subst e
      cases p2
      have f0 := lw_FO (a := 702) (i := 44) (v := 4 * 1 + 3) (q := 173) (j := 11) p4 List.mem_cons_self rfl rfl
      rw [lw_vl3, c1] at f0
      have v0 := lw_ev_vl p3
      have g0 := ax_gc p4 4 (4 * 0 + 3) (4 * 1 + 3) (by decide) (List.mem_append_right lw_GL List.mem_cons_self)
      rw [lw_vl3, lw_vl3, c0, c1] at g0
      replace g0 : rx_bi (4 * n / 4) < rx_bi (4 * a / 4) := g0
      rw [show 4 * n / 4 = n by omega, show 4 * a / 4 = a by omega, lw_bi hn', lw_bi (by omega)] at g0
      refine ⟨p7, by rw [v0, ax_vl_c (by decide)]; unfold lw_ea; rw [if_neg (by omega)], lw_mod lw_W0 hB p5 (lw_gx5 p4 (fun x hx => List.mem_append_left [(1024, [3, 7])] (show x ∈ lw_GL from hx))) p6' m, ?_, lw_ay (g := 2) p6' rfl (lw_mem_md (S := fun g => !(lw_isC g)) m rfl) ht⟩
      rw [f0]; unfold lw_es; rw [if_neg (by omega)]
    · have e := List.mem_singleton.mp hpo
      subst e
      cases p2
      have f0 := lw_FO (a := 702) (i := 44) (v := 4 * 0 + 3) (q := 173) (j := 11) p4 List.mem_cons_self rfl rfl
      rw [lw_vl3, c0] at f0
      have v0 := lw_ev_vl p3
      have g0 := ax_gc p4 5 (4 * 0 + 3) (4 * 1 + 3) (by decide) (List.mem_append_right lw_GL List.mem_cons_self)
      rw [lw_vl3, lw_vl3, c0, c1] at g0
      replace g0 : rx_bi (4 * a / 4) ≤ rx_bi (4 * n / 4) := g0
      rw [show 4 * n / 4 = n by omega, show 4 * a / 4 = a by omega, lw_bi hn', lw_bi (by omega)] at g0
      refine ⟨p7, ?_, lw_mod lw_W0 hB p5 (lw_gx5 p4 (fun x hx => List.mem_append_left [(1025, [3, 7])] (show x ∈ lw_GL from hx))) p6' m, ?_, lw_ay (g := 2) p6' rfl (lw_mem_md (S := fun g => !(lw_isC g)) m rfl) ht⟩
      · rw [v0, show (3 : Nat) = 4 * 0 + 3 from rfl, lw_vl3, c0]; unfold lw_ea; rw [if_pos (by omega)]
      · rw [f0]; unfold lw_es; rw [if_pos (by omega)]
  · have hE := lw_EOf (w := ax_wM0) (X := ax_XM 0) (vals := [a]) (ty := [(0, 0, 2147483647)]) (t := (0, 2147483648, 2147484448)) (a := 702) (i := 44) rfl (fun k u hu => by
      match k, hu with
      | 0, hu =>
        cases hu
        refine Or.inl ⟨rfl, lw_int4 a, by show rx_pl (rx_int a) < _; rw [lw_pl]; exact hv, Nat.zero_le _, ?_⟩
        show rx_bi (rx_pl (rx_int a)) ≤ _
        rw [lw_pl, lw_biN (by omega) hv]
        show a - 2147483648 ≤ 2147483647
        omega
      | k + 1, hu => cases hu) (lw_ok4 (n := n) (by omega) (by omega) (by omega)) rfl rfl hs hN
    refine ax_wp_mono (hL (lw_c axc0_47 0) List.mem_cons_self (lw_ro ([a].map rx_int ++ [4 * n])) hp _ rfl hE hB.2.2.1) (fun o ho => ?_)
    obtain ⟨po, hpo, ρ', r, p1, p2, p3, p4, p5, p6, p7⟩ := ho
    replace hpo : po ∈ [_] := hpo
    have e := List.mem_singleton.mp hpo
    subst e
    cases p2
    have c1 : ρ' 1 = 4 * n := p1 1 (by decide)
    have m := m1 0 (by decide)
    have p6' : ax_HR ax_wC (lw_c axc0_47 0).2.1 hp o.2.1 := ay_HRw lw_w0.symm p6
    have f0 := lw_FO (a := 702) (i := 44) (v := 4 * 1 + 3) (q := 173) (j := 11) p4 List.mem_cons_self rfl rfl
    rw [lw_vl3, c1] at f0
    have v0 := lw_ev_vl p3
    refine ⟨p7, by rw [v0, ax_vl_c (by decide)]; unfold lw_ea; rw [if_neg (by omega)], lw_mod lw_W0 hB p5 (lw_gx5 p4 (fun x hx => hx)) p6' m, ?_, lw_ay (g := 2) p6' rfl (lw_mem_md (S := fun g => !(lw_isC g)) m rfl) ht⟩
    rw [f0]; unfold lw_es; rw [if_neg (by omega)]
theorem lw_netM0 (hA : ∀ B, ax_Low ax_wM0 (ax_XM 0) rx_P ax_APM0 l cy D B) (hA2 : ∀ B, ax_Low ax_wM1 (ax_XM 1) rx_P ax_APM1 l cy D B) (hB : lw_B 0 ax_wM0 hp) (hs : ay_at hp 8 1 = some 0) :
    ax_Wp l cy D rxm_272 (0, rx_args (702 :: ([] : List Nat).map rx_int) (rx_mL (rx_n rxm_272)), [], hp, [], 0, 0) (lw_Qk 0) := by
  have hE : ax_EO ax_wM0 (ax_XM 0) (fun _ => 0) (0, [], [], [], [(0, [80]), (1, []), (2, []), (25, []), (26, [])]) hp := ⟨rfl, fun k t hk => absurd hk (Nat.not_lt_zero _), (fun f hf => by cases hf), (fun d hd => by cases hd), fun x hx => lw_NO5 hB.2.2.2 x hx⟩
  have hr : rxm_272 ∈ rx_P := ax_nth_mem (j := 272) rfl
  have m : ay_nMD0.all (fun x => !(lw_isC x.1)) = true := by decide +kernel
  refine ax_wp_mono (ay_net0 rxP_ok hA hA2 hr (ax_tabB_ok axt_272) hE hB.2.2.1) (fun o ho => ?_)
  rcases ho with ho | ho
  · obtain ⟨po, hpo, ρ', r, p1, p2, p3, p4, p5, p6, p7⟩ := ho
    have e := List.mem_singleton.mp (show po ∈ [_] from hpo)
    subst e
    cases p2
    have f0 := lw_FO (a := 702) (i := 44) (v := 0) (q := 173) (j := 11) p4 List.mem_cons_self rfl rfl
    rw [ax_vl_c (by decide)] at f0
    have v0 := lw_ev_vl p3
    have p6' : ax_HR ax_wC ay_nMD0 hp o.2.1 := ay_HRw lw_w0.symm p6
    exact ⟨p7, by rw [v0, ax_vl_c (by decide)], Or.inl ⟨lw_mod lw_W0 hB p5 (lw_gx5 p4 (fun x hx => hx)) p6' m, 0, lw_ay (g := 2) p6' rfl (lw_mem_md (S := fun g => !(lw_isC g)) m rfl) hs, f0⟩⟩
  · obtain ⟨po, hpo, ρ', r, p1, p2, p3, p4, p5, p6, p7⟩ := ho
    have e := List.mem_singleton.mp (show po ∈ [_] from hpo)
    subst e
    cases p2
    have f0 := lw_FO (a := 702) (i := 44) (v := 0) (q := 173) (j := 11) p4 List.mem_cons_self rfl rfl
    rw [ax_vl_c (by decide)] at f0
    have p6' : ax_HR ax_wC ay_nMD0 hp o.2.1 := ay_HRw lw_w1.symm p6
    exact ⟨p7, (ax_isK0 p4 (v := 3) (by decide) p3).1, Or.inr ⟨lw_mod lw_W1 hB p5 (lw_gx5 p4 (fun x hx => hx)) p6' m, 0, lw_ay (g := 2) p6' rfl (lw_mem_md (S := fun g => !(lw_isC g)) m rfl) hs, f0⟩⟩
set_option maxHeartbeats 1000000 in
theorem lw_feedM1 (hA : ∀ B, ax_Low ax_wM1 (ax_XM 1) rx_P ax_APM1 l cy D B) (hB : lw_B 1 ax_wM1 hp) {n t a1 a2 a3 a4 a5 : Nat} (hs : ay_at hp 173 11 = some (4 * n)) (hn : n ≤ 800) (ht : ay_at hp 8 1 = some t) (hv : ∀ v ∈ [a1, a2, a3, a4, a5], v < 4294967296) :
    ax_Wp l cy D rxm_51 (0, rx_args (702 :: [a1, a2, a3, a4, a5].map rx_int) (rx_mL (rx_n rxm_51)), [], hp, [], 0, 0) (fun o => o.2.2 = [] ∧ o.1 = lw_fa n ∧ lw_B 1 ax_wM1 o.2.1 ∧ ay_at o.2.1 173 11 = some (4 * lw_fs n) ∧ ay_at o.2.1 8 1 = some t) := by
  have hL := (hA (rx_rf (rx_n rxm_51) + 1) 51 rxm_51 (axm_51, axc1_51) rfl rfl).2 (Nat.lt_succ_self _)
  have hN : ∀ y ∈ lw_GL, ax_NO (ax_XM 1) 6 (lw_ro ([a1, a2, a3, a4, a5].map rx_int ++ [4 * n])) hp y := lw_NO5 hB.2.2.2
  have m1 : ∀ k, k < 2 → (lw_c axc1_51 k).2.1.all (fun x => !(lw_isC x.1)) = true := by decide +kernel
  by_cases hn' : n ≤ 780
  · have hE := lw_EOf (w := ax_wM1) (X := ax_XM 1) (vals := [a1, a2, a3, a4, a5]) (ty := List.replicate 5 lw_any) (t := (0, 2147483648, 2147484428)) (a := 702) (i := 44) rfl (lw_any5 hv 5) (lw_ok4 (n := n) (by omega) (by omega) (by omega)) rfl rfl hs hN
    refine ax_wp_mono (hL (lw_c axc1_51 1) (List.mem_cons_of_mem _ List.mem_cons_self) (lw_ro ([a1, a2, a3, a4, a5].map rx_int ++ [4 * n])) hp _ rfl hE hB.2.2.1) (fun o ho => ?_)
    obtain ⟨po, hpo, ρ', r, p1, p2, p3, p4, p5, p6, p7⟩ := ho
    replace hpo : po ∈ [_] := hpo
    have e := List.mem_singleton.mp hpo
    subst e
    cases p2
    have c0 : ax_vl ρ' 23 = 4 * n := by
      rw [show (23 : Nat) = 4 * 5 + 3 from rfl, lw_vl3, p1 5 (by decide)]
      rfl
    have c20 := lw_sum (p := 23) (q := 80) (r := 27) (m := 20) p4 (List.mem_cons_of_mem _ (List.mem_cons_of_mem _ (List.mem_cons_of_mem _ (List.mem_cons_of_mem _ (List.mem_cons_of_mem _ List.mem_cons_self))))) rfl c0 (by omega)
    have f0 := lw_FO (a := 702) (i := 44) (v := 27) (q := 173) (j := 11) p4 List.mem_cons_self rfl rfl
    rw [c20] at f0
    have v0 := lw_ev_vl p3
    rw [c20] at v0
    have p6' : ax_HR ax_wC (lw_c axc1_51 1).2.1 hp o.2.1 := ay_HRw lw_w1.symm p6
    have m := m1 1 (by decide)
    refine ⟨p7, ?_, lw_mod lw_W1 hB p5 (lw_gx5 p4 (fun x hx => ?_)) p6' m, ?_, lw_ay (g := 2) p6' rfl (lw_mem_md (S := fun g => !(lw_isC g)) m rfl) ht⟩
    · rw [v0]; unfold lw_fa; rw [if_pos hn']
    · exact List.mem_append_left [(1015, [23, 80, 27, 0])] (show x ∈ lw_GL from hx)
    · rw [f0]; unfold lw_fs; rw [if_pos hn']
  · have hE := lw_EOf (w := ax_wM1) (X := ax_XM 1) (vals := [a1, a2, a3, a4, a5]) (ty := List.replicate 5 lw_any) (t := (0, 2147484429, 2147484448)) (a := 702) (i := 44) rfl (lw_any5 hv 5) (lw_ok4 (n := n) (by omega) (by omega) (by omega)) rfl rfl hs hN
    refine ax_wp_mono (hL (lw_c axc1_51 0) List.mem_cons_self (lw_ro ([a1, a2, a3, a4, a5].map rx_int ++ [4 * n])) hp _ rfl hE hB.2.2.1) (fun o ho => ?_)
    obtain ⟨po, hpo, ρ', r, p1, p2, p3, p4, p5, p6, p7⟩ := ho
    replace hpo : po ∈ [_] := hpo
    have e := List.mem_singleton.mp hpo
    subst e
    cases p2
    have c0 : ax_vl ρ' 23 = 4 * n := by
      rw [show (23 : Nat) = 4 * 5 + 3 from rfl, lw_vl3, p1 5 (by decide)]
      rfl
    have f0 := lw_FO (a := 702) (i := 44) (v := 23) (q := 173) (j := 11) p4 List.mem_cons_self rfl rfl
    rw [c0] at f0
    have v0 := lw_ev_vl p3
    have p6' : ax_HR ax_wC (lw_c axc1_51 0).2.1 hp o.2.1 := ay_HRw lw_w1.symm p6
    have m := m1 0 (by decide)
    refine ⟨p7, ?_, lw_mod lw_W1 hB p5 (lw_gx5 p4 (fun x hx => hx)) p6' m, ?_, lw_ay (g := 2) p6' rfl (lw_mem_md (S := fun g => !(lw_isC g)) m rfl) ht⟩
    · rw [v0, ax_vl_c (by decide)]; unfold lw_fa; rw [if_neg hn']
    · rw [f0]; unfold lw_fs; rw [if_neg hn']
set_option maxHeartbeats 1000000 in
theorem lw_endM1 (hA : ∀ B, ax_Low ax_wM1 (ax_XM 1) rx_P ax_APM1 l cy D B) (hB : lw_B 1 ax_wM1 hp) {n t a : Nat} (hs : ay_at hp 173 11 = some (4 * n)) (hn : n ≤ 800) (ht : ay_at hp 8 1 = some t) (hv : a < 4294967296) :
    ax_Wp l cy D rxm_47 (0, rx_args (702 :: [a].map rx_int) (rx_mL (rx_n rxm_47)), [], hp, [], 0, 0) (fun o => o.2.2 = [] ∧ o.1 = lw_ea n a ∧ lw_B 1 ax_wM1 o.2.1 ∧ ay_at o.2.1 173 11 = some (4 * lw_es n a) ∧ ay_at o.2.1 8 1 = some t) := by
  have hL := (hA (rx_rf (rx_n rxm_47) + 1) 47 rxm_47 (axm_47, axc1_47) rfl rfl).2 (Nat.lt_succ_self _)
  have hN : ∀ y ∈ lw_GL, ax_NO (ax_XM 1) 2 (lw_ro ([a].map rx_int ++ [4 * n])) hp y := lw_NO5 hB.2.2.2
  have m1 : ∀ k, k < 2 → (lw_c axc1_47 k).2.1.all (fun x => !(lw_isC x.1)) = true := by decide +kernel
  by_cases hn' : a < 2147483648
  · have hE := lw_EOf (w := ax_wM1) (X := ax_XM 1) (vals := [a]) (ty := [(0, 2147483648, 4294967295)]) (t := (0, 2147483648, 2147484448)) (a := 702) (i := 44) rfl (fun k u hu => by
      match k, hu with
      | 0, hu => cases hu; exact lw_ok4 (n := a) hn' (by omega) (by omega)
      | k + 1, hu => cases hu) (lw_ok4 (n := n) (by omega) (by omega) (by omega)) rfl rfl hs hN
    refine ax_wp_mono (hL (lw_c axc1_47 1) (List.mem_cons_of_mem _ List.mem_cons_self) (lw_ro ([a].map rx_int ++ [4 * n])) hp _ rfl hE hB.2.2.1) (fun o ho => ?_)
    obtain ⟨po, hpo, ρ', r, p1, p2, p3, p4, p5, p6, p7⟩ := ho
    have c0 : ρ' 0 = 4 * a := p1 0 (by decide)
    have c1 : ρ' 1 = 4 * n := p1 1 (by decide)
    replace hpo : po ∈ [_, _] := hpo
    have m := m1 1 (by decide)
    have p6' : ax_HR ax_wC (lw_c axc1_47 1).2.1 hp o.2.1 := ay_HRw lw_w1.symm p6
    rcases List.mem_cons.mp hpo with e | hpo
    · subst e
      cases p2
      have f0 := lw_FO (a := 702) (i := 44) (v := 4 * 1 + 3) (q := 173) (j := 11) p4 List.mem_cons_self rfl rfl
      rw [lw_vl3, c1] at f0
      have v0 := lw_ev_vl p3
      have g0 := ax_gc p4 4 (4 * 0 + 3) (4 * 1 + 3) (by decide) (List.mem_append_right lw_GL List.mem_cons_self)
      rw [lw_vl3, lw_vl3, c0, c1] at g0
      replace g0 : rx_bi (4 * n / 4) < rx_bi (4 * a / 4) := g0
      rw [show 4 * n / 4 = n by omega, show 4 * a / 4 = a by omega, lw_bi hn', lw_bi (by omega)] at g0
      refine ⟨p7, by rw [v0, ax_vl_c (by decide)]; unfold lw_ea; rw [if_neg (by omega)], lw_mod lw_W1 hB p5 (lw_gx5 p4 (fun x hx => List.mem_append_left [(1024, [3, 7])] (show x ∈ lw_GL from hx))) p6' m, ?_, lw_ay (g := 2) p6' rfl (lw_mem_md (S := fun g => !(lw_isC g)) m rfl) ht⟩
      rw [f0]; unfold lw_es; rw [if_neg (by omega)]
    · have e := List.mem_singleton.mp hpo
      subst e
      cases p2
      have f0 := lw_FO (a := 702) (i := 44) (v := 4 * 0 + 3) (q := 173) (j := 11) p4 List.mem_cons_self rfl rfl
      rw [lw_vl3, c0] at f0
      have v0 := lw_ev_vl p3
      have g0 := ax_gc p4 5 (4 * 0 + 3) (4 * 1 + 3) (by decide) (List.mem_append_right lw_GL List.mem_cons_self)
      rw [lw_vl3, lw_vl3, c0, c1] at g0
      replace g0 : rx_bi (4 * a / 4) ≤ rx_bi (4 * n / 4) := g0
      rw [show 4 * n / 4 = n by omega, show 4 * a / 4 = a by omega, lw_bi hn', lw_bi (by omega)] at g0
      refine ⟨p7, ?_, lw_mod lw_W1 hB p5 (lw_gx5 p4 (fun x hx => List.mem_append_left [(1025, [3, 7])] (show x ∈ lw_GL from hx))) p6' m, ?_, lw_ay (g := 2) p6' rfl (lw_mem_md (S := fun g => !(lw_isC g)) m rfl) ht⟩
      · rw [v0, show (3 : Nat) = 4 * 0 + 3 from rfl, lw_vl3, c0]; unfold lw_ea; rw [if_pos (by omega)]
      · rw [f0]; unfold lw_es; rw [if_pos (by omega)]
  · have hE := lw_EOf (w := ax_wM1) (X := ax_XM 1) (vals := [a]) (ty := [(0, 0, 2147483647)]) (t := (0, 2147483648, 2147484448)) (a := 702) (i := 44) rfl (fun k u hu => by
      match k, hu with
      | 0, hu =>
        cases hu
        refine Or.inl ⟨rfl, lw_int4 a, by show rx_pl (rx_int a) < _; rw [lw_pl]; exact hv, Nat.zero_le _, ?_⟩
        show rx_bi (rx_pl (rx_int a)) ≤ _
        rw [lw_pl, lw_biN (by omega) hv]
        show a - 2147483648 ≤ 2147483647
        omega
      | k + 1, hu => cases hu) (lw_ok4 (n := n) (by omega) (by omega) (by omega)) rfl rfl hs hN
    refine ax_wp_mono (hL (lw_c axc1_47 0) List.mem_cons_self (lw_ro ([a].map rx_int ++ [4 * n])) hp _ rfl hE hB.2.2.1) (fun o ho => ?_)
    obtain ⟨po, hpo, ρ', r, p1, p2, p3, p4, p5, p6, p7⟩ := ho
    replace hpo : po ∈ [_] := hpo
    have e := List.mem_singleton.mp hpo
    subst e
    cases p2
    have c1 : ρ' 1 = 4 * n := p1 1 (by decide)
    have m := m1 0 (by decide)
    have p6' : ax_HR ax_wC (lw_c axc1_47 0).2.1 hp o.2.1 := ay_HRw lw_w1.symm p6
    have f0 := lw_FO (a := 702) (i := 44) (v := 4 * 1 + 3) (q := 173) (j := 11) p4 List.mem_cons_self rfl rfl
    rw [lw_vl3, c1] at f0
    have v0 := lw_ev_vl p3
    refine ⟨p7, by rw [v0, ax_vl_c (by decide)]; unfold lw_ea; rw [if_neg (by omega)], lw_mod lw_W1 hB p5 (lw_gx5 p4 (fun x hx => hx)) p6' m, ?_, lw_ay (g := 2) p6' rfl (lw_mem_md (S := fun g => !(lw_isC g)) m rfl) ht⟩
    rw [f0]; unfold lw_es; rw [if_neg (by omega)]
theorem lw_netM1 (hA : ∀ B, ax_Low ax_wM1 (ax_XM 1) rx_P ax_APM1 l cy D B) (hA2 : ∀ B, ax_Low ax_wM0 (ax_XM 0) rx_P ax_APM0 l cy D B) (hB : lw_B 1 ax_wM1 hp) (hs : ay_at hp 8 1 = some 0) :
    ax_Wp l cy D rxm_272 (0, rx_args (702 :: ([] : List Nat).map rx_int) (rx_mL (rx_n rxm_272)), [], hp, [], 0, 0) (lw_Qk 0) := by
  have hE : ax_EO ax_wM1 (ax_XM 1) (fun _ => 0) (0, [], [], [], [(0, [80]), (1, []), (2, []), (25, []), (26, [])]) hp := ⟨rfl, fun k t hk => absurd hk (Nat.not_lt_zero _), (fun f hf => by cases hf), (fun d hd => by cases hd), fun x hx => lw_NO5 hB.2.2.2 x hx⟩
  have hr : rxm_272 ∈ rx_P := ax_nth_mem (j := 272) rfl
  have m : ay_nMD1.all (fun x => !(lw_isC x.1)) = true := by decide +kernel
  refine ax_wp_mono (ay_net1 rxP_ok hA hA2 hr (ax_tabB_ok axt_272) hE hB.2.2.1) (fun o ho => ?_)
  rcases ho with ho | ho
  · obtain ⟨po, hpo, ρ', r, p1, p2, p3, p4, p5, p6, p7⟩ := ho
    have e := List.mem_singleton.mp (show po ∈ [_] from hpo)
    subst e
    cases p2
    have f0 := lw_FO (a := 702) (i := 44) (v := 0) (q := 173) (j := 11) p4 List.mem_cons_self rfl rfl
    rw [ax_vl_c (by decide)] at f0
    have v0 := lw_ev_vl p3
    have p6' : ax_HR ax_wC ay_nMD1 hp o.2.1 := ay_HRw lw_w1.symm p6
    exact ⟨p7, by rw [v0, ax_vl_c (by decide)], Or.inr ⟨lw_mod lw_W1 hB p5 (lw_gx5 p4 (fun x hx => hx)) p6' m, 0, lw_ay (g := 2) p6' rfl (lw_mem_md (S := fun g => !(lw_isC g)) m rfl) hs, f0⟩⟩
  · obtain ⟨po, hpo, ρ', r, p1, p2, p3, p4, p5, p6, p7⟩ := ho
    have e := List.mem_singleton.mp (show po ∈ [_] from hpo)
    subst e
    cases p2
    have f0 := lw_FO (a := 702) (i := 44) (v := 0) (q := 173) (j := 11) p4 List.mem_cons_self rfl rfl
    rw [ax_vl_c (by decide)] at f0
    have p6' : ax_HR ax_wC ay_nMD1 hp o.2.1 := ay_HRw lw_w0.symm p6
    exact ⟨p7, (ax_isK0 p4 (v := 3) (by decide) p3).1, Or.inl ⟨lw_mod lw_W0 hB p5 (lw_gx5 p4 (fun x hx => hx)) p6' m, 0, lw_ay (g := 2) p6' rfl (lw_mem_md (S := fun g => !(lw_isC g)) m rfl) hs, f0⟩⟩

end LWS
