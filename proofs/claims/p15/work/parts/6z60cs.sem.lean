/-! Class: what is named, and why the rules are right -/
noncomputable def ax_lc (n c : Nat) : List Nat → Nat → Nat
  | [], _ => 0
  | b :: t, i => (if b / 4 < n ∨ (b / 4 = n ∧ i < c) then 1 else 0) + ax_lc n c t (i + 1)
theorem ax_lc_le {n c : Nat} : ∀ (f : List Nat) (i : Nat), ax_lc n c f i ≤ f.length
  | [], _ => Nat.le_refl _
  | b :: t, i => by
    have := ax_lc_le (n := n) (c := c) t (i + 1)
    unfold ax_lc
    rw [List.length_cons]
    split <;> omega
theorem ax_lc_mono {n c : Nat} : ∀ (f : List Nat) (i : Nat), ax_lc n c f i ≤ ax_lc n (c + 1) f i
  | [], _ => Nat.le_refl _
  | b :: t, i => by
    have := ax_lc_mono (n := n) (c := c) t (i + 1)
    unfold ax_lc
    split <;> split <;> omega
theorem ax_lc_node {n c : Nat} : ∀ (f : List Nat) (i : Nat), ax_lc n c f i ≤ ax_lc (n + 1) 0 f i
  | [], _ => Nat.le_refl _
  | b :: t, i => by
    have := ax_lc_node (n := n) (c := c) t (i + 1)
    unfold ax_lc
    split <;> split <;> omega
theorem ax_lc_step {n c b : Nat} (hb : b / 4 = n) : ∀ (f : List Nat) (i j : Nat), f[j]? = some b → i + j = c → ax_lc n c f i + 1 ≤ ax_lc n (c + 1) f i
  | [], _, _, h, _ => by cases h
  | x :: t, i, 0, h, hc => by
    have h := Option.some.inj h
    subst h
    have := ax_lc_mono (n := n) (c := c) t (i + 1)
    unfold ax_lc
    rw [if_neg (by omega), if_pos (by omega)]
    omega
  | x :: t, i, j + 1, h, hc => by
    have := ax_lc_step (n := n) (c := c) hb t (i + 1) j h (by omega)
    unfold ax_lc
    split <;> split <;> omega
noncomputable def ax_C0 (k : Nat) (hp : rx_H) : Prop := ∃ (kk n d u : Nat) (f : List Nat), rx_hg hp 49 = some (kk, n, f) ∧ f[2]? = some (4 * d) ∧ f[3]? = some (4 * u) ∧ d + u ≤ k / 4
noncomputable def ax_C1 (a p n c : Nat) (hp : rx_H) : Prop := ax_wC.1[a / 4 - 2]? = some 14 ∧ ∃ (kk m : Nat) (f : List Nat), rx_hg hp (a / 4 - 2) = some (kk, m, f) ∧ f.length = 40 ∧ p / 4 ≤ ax_lc (n / 4) (c / 4) f 0
noncomputable def ax_XCq0 : ax_X := fun x vs hp => match x, vs with
  | 0, [k] => ax_C0 k hp
  | 1, [a, p, n, c] => ax_C1 a p n c hp
  | _, _ => True
noncomputable def ax_XCq1 : ax_X := fun x vs hp => match x, vs with
  | 14, [g] => ay_ex hp 8 ∧ ay_ex hp 9 ∧ pz_x30 g (ay_at hp 8 1) (ay_at hp 9)
  | 15, [] => ay_ex hp 10 ∧ pz_x31 (ay_at hp 10 6) (ay_at hp 10 7) (ay_at hp 10 10) (ay_at hp 10 11)
  | _, _ => True
noncomputable def ax_XCq2 : ax_X := fun x vs hp => match x, vs with
  | 1, [g, a, r] => r = pz_apk (a / 4) g 4
  | 2, [g, a, h, r] => pz_x34 g a h r
  | 3, [g] => ay_ex hp 8 ∧ ay_ex hp 9 ∧ pz_x35 g (ay_at hp 8 1) (ay_at hp 9)
  | 4, [g, a, h, r] => pz_x36 g a h r
  | 5, [g, a, b, c, d, e, r] => r = pz_a20 (a / 4) (b / 4) (c / 4) (d / 4) (e / 4) g 20
  | 6, [g, n, r] => r = pz_cut g (n / 4)
  | 7, [g, s] => pz_gN g = s / 4
  | 8, [l] => py_40 l
  | 9, [l] => ay_ex hp 10 ∧ ay_ex hp 15 ∧ ay_ex hp 16 ∧ py_x41 l (ay_at hp 10 5) (ay_at hp 15) (ay_at hp 16)
  | 10, [g, n, s, l, c] => py_42 (pz_gt g) (pz_gN g) (n / 4) s l c
  | 12, [s] => py_44 2 s
  | 13, [s] => py_44 1 s
  | 14, [g, n, s, l] => py_46 (pz_gt g) (pz_gN g) (n / 4) s l
  | 15, [g, n, s, l] => py_47 (pz_gt g) (pz_gN g) (n / 4) s l
  | _, _ => True
noncomputable def ax_XCq3 : ax_X := fun x vs hp => match x, vs with
  | 2, [g, n] => ay_ex hp 8 ∧ ay_ex hp 10 ∧ ay_ex hp 11 ∧ ay_ex hp 12 ∧ pz_x50 g n (ay_at hp 8 5) (ay_at hp 8 6) (ay_at hp 8 7) (ay_at hp 8 8) (ay_at hp 10 0) (ay_at hp 10 1) (ay_at hp 10 2) (ay_at hp 10 3) (ay_at hp 10 4) (ay_at hp 8 9) (ay_at hp 8 11) (ay_at hp 8 10) (ay_at hp 8 3) (ay_at hp 8 4) (ay_at hp 11) (ay_at hp 12)
  | 5, [g, n] => ay_ex hp 8 ∧ ay_ex hp 10 ∧ ay_ex hp 11 ∧ ay_ex hp 12 ∧ pz_x53 g n (ay_at hp 8 5) (ay_at hp 10 0) (ay_at hp 10 1) (ay_at hp 10 2) (ay_at hp 10 3) (ay_at hp 10 4) (ay_at hp 8 9) (ay_at hp 8 11) (ay_at hp 8 10) (ay_at hp 8 3) (ay_at hp 8 4) (ay_at hp 11) (ay_at hp 12)
  | 6, [g, n] => ay_ex hp 8 ∧ ay_ex hp 10 ∧ ay_ex hp 11 ∧ ay_ex hp 12 ∧ pz_x54 g n (ay_at hp 8 5) (ay_at hp 8 6) (ay_at hp 10 0) (ay_at hp 10 1) (ay_at hp 10 2) (ay_at hp 10 3) (ay_at hp 10 4) (ay_at hp 8 9) (ay_at hp 8 11) (ay_at hp 8 10) (ay_at hp 8 3) (ay_at hp 8 4) (ay_at hp 11) (ay_at hp 12)
  | 7, [g, n] => ay_ex hp 8 ∧ ay_ex hp 10 ∧ ay_ex hp 11 ∧ ay_ex hp 12 ∧ pz_x55 g n (ay_at hp 8 5) (ay_at hp 8 6) (ay_at hp 10 0) (ay_at hp 10 1) (ay_at hp 10 2) (ay_at hp 10 3) (ay_at hp 10 4) (ay_at hp 8 9) (ay_at hp 8 11) (ay_at hp 8 10) (ay_at hp 8 3) (ay_at hp 8 4) (ay_at hp 11) (ay_at hp 12)
  | 8, [g, n] => ay_ex hp 8 ∧ ay_ex hp 10 ∧ ay_ex hp 11 ∧ ay_ex hp 12 ∧ pz_x56 g n (ay_at hp 8 5) (ay_at hp 8 6) (ay_at hp 8 7) (ay_at hp 10 0) (ay_at hp 10 1) (ay_at hp 10 2) (ay_at hp 10 3) (ay_at hp 10 4) (ay_at hp 8 9) (ay_at hp 8 11) (ay_at hp 8 10) (ay_at hp 8 3) (ay_at hp 8 4) (ay_at hp 11) (ay_at hp 12)
  | 9, [g, n] => ay_ex hp 8 ∧ ay_ex hp 10 ∧ ay_ex hp 11 ∧ ay_ex hp 12 ∧ pz_x57 g n (ay_at hp 8 5) (ay_at hp 8 6) (ay_at hp 8 7) (ay_at hp 10 0) (ay_at hp 10 1) (ay_at hp 10 2) (ay_at hp 10 3) (ay_at hp 10 4) (ay_at hp 8 9) (ay_at hp 8 11) (ay_at hp 8 10) (ay_at hp 8 3) (ay_at hp 8 4) (ay_at hp 11) (ay_at hp 12)
  | 10, [g, n] => ay_ex hp 8 ∧ ay_ex hp 10 ∧ ay_ex hp 11 ∧ ay_ex hp 12 ∧ pz_x58 g n (ay_at hp 8 5) (ay_at hp 8 6) (ay_at hp 8 7) (ay_at hp 8 8) (ay_at hp 10 0) (ay_at hp 10 1) (ay_at hp 10 2) (ay_at hp 10 3) (ay_at hp 10 4) (ay_at hp 8 9) (ay_at hp 8 11) (ay_at hp 8 10) (ay_at hp 8 3) (ay_at hp 8 4) (ay_at hp 11) (ay_at hp 12)
  | 11, [g, n] => ay_ex hp 8 ∧ ay_ex hp 10 ∧ ay_ex hp 11 ∧ ay_ex hp 12 ∧ pz_x59 g n (ay_at hp 8 5) (ay_at hp 8 6) (ay_at hp 8 7) (ay_at hp 8 8) (ay_at hp 10 0) (ay_at hp 10 1) (ay_at hp 10 2) (ay_at hp 10 3) (ay_at hp 10 4) (ay_at hp 8 9) (ay_at hp 8 11) (ay_at hp 8 10) (ay_at hp 8 3) (ay_at hp 8 4) (ay_at hp 11) (ay_at hp 12)
  | 12, [g, n, w] => pz60 (pz_gt g) (pz_gN g) (n / 4) (w / 4 - 1000)
  | 13, [g, n, w] => pz61 (pz_gt g) (pz_gN g) (n / 4) (w / 4 - 1000)
  | 14, [g, n, w, i] => pz_x62 g n w i
  | 15, [g] => ay_ex hp 8 ∧ pz63 (pz_gt g) (pz_gN g) (ay_ln (ay_at hp 8 3)) (ay_ln (ay_at hp 8 4))
  | 0, [g, n, s, l] => py_48 2 (pz_gt g) (pz_gN g) (n / 4) s l
  | 1, [g, n, s, l] => py_48 1 (pz_gt g) (pz_gN g) (n / 4) s l
  | _, _ => True
noncomputable def ax_XCq4 : ax_X := fun x vs hp => match x, vs with
  | 0, [g, n, k] => pz64 (pz_gt g) (pz_gN g) (n / 4) (k / 4)
  | 1, [g, n, k] => ay_ex hp 8 ∧ pz_x65 g n k (ay_at hp 8 6) (ay_at hp 8 3)
  | 2, [g, n, v] => pz66 (pz_gt g) (pz_gN g) (n / 4) (v / 4)
  | 3, [g, n, a] => pz67 (pz_gt g) (pz_gN g) (n / 4) (a / 4)
  | 6, [g, n] => pz7 (pz_gt g) (pz_gN g) (n / 4) 0
  | 7, [g, n] => pz7 (pz_gt g) (pz_gN g) (n / 4) 1
  | 8, [g, n] => pz7 (pz_gt g) (pz_gN g) (n / 4) 2
  | 9, [g, n] => pz7 (pz_gt g) (pz_gN g) (n / 4) 3
  | 10, [g, n] => pz7 (pz_gt g) (pz_gN g) (n / 4) 4
  | 11, [g, n] => pz7 (pz_gt g) (pz_gN g) (n / 4) 5
  | 12, [g, n] => pz7 (pz_gt g) (pz_gN g) (n / 4) 6
  | 13, [g, n] => pz7 (pz_gt g) (pz_gN g) (n / 4) 7
  | 14, [g, n] => pz7 (pz_gt g) (pz_gN g) (n / 4) 8
  | 15, [g, n] => pz7 (pz_gt g) (pz_gN g) (n / 4) 9
  | _, _ => True
noncomputable def ax_XCq5 : ax_X := fun x vs hp => match x, vs with
  | 10, [g, n, s] => (pz90 (pz_gt g) (pz_gN g) (n / 4) (s / 4) ∧ 1 ≤ s / 4)
  | 11, [s, l] => pz_dp (s / 4) = l / 4
  | 12, [s, r] => pz_strip (s / 4) = r / 4
  | 13, [r, s] => r / 4 = 2 * (s / 4)
  | 14, [g, n] => pz94 (pz_gt g) (pz_gN g) (n / 4)
  | 15, [g, n] => pz95 (pz_gt g) (pz_gN g) (n / 4)
  | 0, [l, o] => ay_ex hp 10 ∧ ay_ex hp 15 ∧ ay_ex hp 16 ∧ py_x80 l o (ay_at hp 10 5) (ay_at hp 15) (ay_at hp 16)
  | 1, [l, o, v] => ay_ex hp 10 ∧ ay_ex hp 15 ∧ ay_ex hp 16 ∧ py_x81 l o v (ay_at hp 10 5) (ay_at hp 15) (ay_at hp 16)
  | 2, [g, l] => py_82 g l
  | _, _ => True
noncomputable def ax_XCq6 : ax_X := fun x vs hp => match x, vs with
  | 1, [n, i] => i / 4 ≤ n / 4
  | 7, [g, n, m] => pz_x103 g n m
  | 8, [g, n, v] => pz104 (pz_gt g) (pz_gN g) (n / 4) (v / 4)
  | 10, [g, n, o] => pz106 (pz_gt g) (pz_gN g) (n / 4) (o / 4)
  | 11, [g, n, o] => pz107 (pz_gt g) (pz_gN g) (n / 4) (o / 4)
  | 12, [s, r] => (r / 4 = 2 * (s / 4) + 1 ∧ 1 ≤ s / 4)
  | 14, [g] => ay_ex hp 10 ∧ ay_ex hp 8 ∧ ay_ex hp 11 ∧ ay_ex hp 12 ∧ pz110 (pz_gt g) (pz_gN g) (ay_ln (ay_at hp 10 0)) (ay_ln (ay_at hp 10 1)) (ay_ln (ay_at hp 10 2)) (ay_ln (ay_at hp 10 3)) (ay_ln (ay_at hp 10 4)) (ay_ln (ay_at hp 8 9)) (ay_ln (ay_at hp 8 11)) (ay_ln (ay_at hp 8 10)) (ay_ln (ay_at hp 8 3)) (ay_ln (ay_at hp 8 4)) (ay_at hp 11) (ay_at hp 12)
  | 15, [g, n] => pz111 (pz_gt g) (pz_gN g) (n / 4)
  | 2, [n, m] => m / 4 = n / 4 + 1
  | 3, [r, c, s] => py_99 r c s
  | _, _ => True
noncomputable def ax_XCq7 : ax_X := fun x vs hp => match x, vs with
  | 0, [g, n, a, b] => pz112 (pz_gt g) (pz_gN g) (n / 4) (a / 4) (b / 4)
  | 1, [g, n, a, b] => pz113 (pz_gt g) (pz_gN g) (n / 4) (a / 4) (b / 4)
  | 2, [g, n, a, b, i] => pz_x114 g n a b i
  | 4, [g, n, a, b, l] => ay_ex hp 8 ∧ ay_ex hp 10 ∧ ay_ex hp 11 ∧ ay_ex hp 12 ∧ pz_xal 1 g n a b l (ay_at hp 8 5) (ay_at hp 10 0) (ay_at hp 10 1) (ay_at hp 10 2) (ay_at hp 10 3) (ay_at hp 10 4) (ay_at hp 8 9) (ay_at hp 8 11) (ay_at hp 8 10) (ay_at hp 8 3) (ay_at hp 8 4) (ay_at hp 11) (ay_at hp 12)
  | 5, [g, n, a, b, l] => ay_ex hp 8 ∧ ay_ex hp 10 ∧ ay_ex hp 11 ∧ ay_ex hp 12 ∧ pz_xal 2 g n a b l (ay_at hp 8 5) (ay_at hp 10 0) (ay_at hp 10 1) (ay_at hp 10 2) (ay_at hp 10 3) (ay_at hp 10 4) (ay_at hp 8 9) (ay_at hp 8 11) (ay_at hp 8 10) (ay_at hp 8 3) (ay_at hp 8 4) (ay_at hp 11) (ay_at hp 12)
  | 6, [g, n, a, b, l] => ay_ex hp 8 ∧ ay_ex hp 10 ∧ ay_ex hp 11 ∧ ay_ex hp 12 ∧ pz_xal 3 g n a b l (ay_at hp 8 5) (ay_at hp 10 0) (ay_at hp 10 1) (ay_at hp 10 2) (ay_at hp 10 3) (ay_at hp 10 4) (ay_at hp 8 9) (ay_at hp 8 11) (ay_at hp 8 10) (ay_at hp 8 3) (ay_at hp 8 4) (ay_at hp 11) (ay_at hp 12)
  | 7, [g, n, a, b, l] => ay_ex hp 8 ∧ ay_ex hp 10 ∧ ay_ex hp 11 ∧ ay_ex hp 12 ∧ pz_xal 4 g n a b l (ay_at hp 8 5) (ay_at hp 10 0) (ay_at hp 10 1) (ay_at hp 10 2) (ay_at hp 10 3) (ay_at hp 10 4) (ay_at hp 8 9) (ay_at hp 8 11) (ay_at hp 8 10) (ay_at hp 8 3) (ay_at hp 8 4) (ay_at hp 11) (ay_at hp 12)
  | 10, [g, n] => ay_ex hp 8 ∧ (pz61 (pz_gt g) (pz_gN g) (n / 4) 2 ∨ ay_ln (ay_at hp 8 9) = 1)
  | 11, [g, n] => ay_ex hp 8 ∧ (pz61 (pz_gt g) (pz_gN g) (n / 4) 3 ∨ ay_ln (ay_at hp 8 11) = 1)
  | 12, [g, n] => ay_ex hp 8 ∧ (pz61 (pz_gt g) (pz_gN g) (n / 4) 4 ∨ ay_ln (ay_at hp 8 10) = 1)
  | 14, [g, v] => pz_x126 g v
  | 15, [] => ay_ex hp 8 ∧ (ay_ln (ay_at hp 8 3) = 0 ∧ ay_ln (ay_at hp 8 4) = 4294967295)
  | _, _ => True
noncomputable def ax_XC : ax_X := fun x vs hp => bif Nat.blt x 16 then ax_XCq0 (Nat.sub x 0) vs hp else bif Nat.blt x 32 then ax_XCq1 (Nat.sub x 16) vs hp else bif Nat.blt x 48 then ax_XCq2 (Nat.sub x 32) vs hp else bif Nat.blt x 64 then ax_XCq3 (Nat.sub x 48) vs hp else bif Nat.blt x 80 then ax_XCq4 (Nat.sub x 64) vs hp else bif Nat.blt x 96 then ax_XCq5 (Nat.sub x 80) vs hp else bif Nat.blt x 112 then ax_XCq6 (Nat.sub x 96) vs hp else bif Nat.blt x 128 then ax_XCq7 (Nat.sub x 112) vs hp else True
theorem ax_upto0 {P : Nat → Prop} : ∀ x, x < 0 → P x := fun x h => absurd h (Nat.not_lt_zero _)
theorem ax_upto {P : Nat → Prop} {n : Nat} (ih : ∀ x, x < n → P x) (hn : P n) : ∀ x, x < n + 1 → P x := fun x hx => (Nat.lt_or_ge x n).elim (ih x) (fun h => by
  have e : x = n := by omega
  rw [e]
  exact hn)
/-- what ax_XD says of one name -/
noncomputable def ax_XCd (x : Nat) : Prop := ∀ (vs : List Nat) (dl md : List (Nat × Nat)) (hp hp' : rx_H), ax_wC.2.2[x]? = some dl → dl.all (fun d => !(md.any (fun y => Nat.beq y.1 d.1 && (Nat.beq y.2 d.2 || (Nat.beq y.2 999 || Nat.beq d.2 999))))) = true → ax_HR ax_wC md hp hp' → ax_XC x vs hp → ax_XC x vs hp'
theorem ax_XCo_0 : ax_XCd 0 := by
  intro vs dl md hp hp' hdl hall hR hX
  match vs, hX with
  | [k], hX =>
    have hdl : [(9, 2), (9, 3)] = dl := Option.some.inj hdl
    subst hdl
    obtain ⟨kk, n, d, u, f, e1, e2, e3, e4⟩ := hX
    obtain ⟨f', e5, e6⟩ := hR.2 49 9 rfl kk n f e1
    have hD := ax_mem_no (List.all_eq_true.mp hall (9, 2) List.mem_cons_self)
    have hU := ax_mem_no (List.all_eq_true.mp hall (9, 3) (List.mem_cons_of_mem _ List.mem_cons_self))
    exact ⟨kk, n, d, u, f', e5, (e6 _ hD).trans e2, (e6 _ hU).trans e3, e4⟩
  | [], _ => trivial
  | _ :: _ :: _, _ => trivial
theorem ax_XCo_1 : ax_XCd 1 := by
  intro vs dl md hp hp' hdl hall hR hX
  match vs, hX with
  | [a, p, n, c], hX =>
    have hdl : [(14, 999)] = dl := Option.some.inj hdl
    subst hdl
    obtain ⟨hw, kk, m, f, e1, e2, e3⟩ := hX
    obtain ⟨f', e5, e6⟩ := hR.2 _ _ hw kk m f e1
    have hA := List.all_eq_true.mp hall (14, 999) List.mem_cons_self
    have : f' = f := by
      apply List.ext_getElem?
      intro i
      refine e6 i (Bool.eq_false_iff.mpr (fun z => ?_))
      obtain ⟨y, hy, hb⟩ := List.any_eq_true.mp z
      obtain ⟨h2, h3⟩ := rx_and2.mp hb
      have h1 : md.any (fun y => Nat.beq y.1 14 && (Nat.beq y.2 999 || (Nat.beq y.2 999 || Nat.beq 999 999))) = true := List.any_eq_true.mpr ⟨y, hy, rx_and2.mpr ⟨h2, by rw [show Nat.beq 999 999 = true from rfl, Bool.or_true, Bool.or_true]⟩⟩
      replace hA : (!(md.any (fun y => Nat.beq y.1 14 && (Nat.beq y.2 999 || (Nat.beq y.2 999 || Nat.beq 999 999))))) = true := hA
      rw [h1] at hA
      cases hA
    subst this
    exact ⟨hw, kk, m, f', e5, e2, e3⟩
  | [], _ => trivial
  | [_], _ => trivial
  | [_, _], _ => trivial
  | [_, _, _], _ => trivial
  | _ :: _ :: _ :: _ :: _ :: _, _ => trivial
theorem ax_XCo_2 : ax_XCd 2 := fun vs dl md hp hp' _ _ _ _ => trivial
theorem ax_XCo_3 : ax_XCd 3 := fun vs dl md hp hp' _ _ _ _ => trivial
theorem ax_XCo_4 : ax_XCd 4 := fun vs dl md hp hp' _ _ _ _ => trivial
theorem ax_XCo_5 : ax_XCd 5 := fun vs dl md hp hp' _ _ _ _ => trivial
theorem ax_XCo_6 : ax_XCd 6 := fun vs dl md hp hp' _ _ _ _ => trivial
theorem ax_XCo_7 : ax_XCd 7 := fun vs dl md hp hp' _ _ _ _ => trivial
theorem ax_XCo_8 : ax_XCd 8 := fun vs dl md hp hp' _ _ _ _ => trivial
theorem ax_XCo_9 : ax_XCd 9 := fun vs dl md hp hp' _ _ _ _ => trivial
theorem ax_XCo_10 : ax_XCd 10 := fun vs dl md hp hp' _ _ _ _ => trivial
theorem ax_XCo_11 : ax_XCd 11 := fun vs dl md hp hp' _ _ _ _ => trivial
theorem ax_XCo_12 : ax_XCd 12 := fun vs dl md hp hp' _ _ _ _ => trivial
theorem ax_XCo_13 : ax_XCd 13 := fun vs dl md hp hp' _ _ _ _ => trivial
theorem ax_XCo_14 : ax_XCd 14 := fun vs dl md hp hp' _ _ _ _ => trivial
theorem ax_XCo_15 : ax_XCd 15 := fun vs dl md hp hp' _ _ _ _ => trivial
theorem ax_XCo_16 : ax_XCd 16 := fun vs dl md hp hp' _ _ _ _ => trivial
theorem ax_XCo_17 : ax_XCd 17 := fun vs dl md hp hp' _ _ _ _ => trivial
theorem ax_XCo_18 : ax_XCd 18 := fun vs dl md hp hp' _ _ _ _ => trivial
theorem ax_XCo_19 : ax_XCd 19 := fun vs dl md hp hp' _ _ _ _ => trivial
theorem ax_XCo_20 : ax_XCd 20 := fun vs dl md hp hp' _ _ _ _ => trivial
theorem ax_XCo_21 : ax_XCd 21 := fun vs dl md hp hp' _ _ _ _ => trivial
theorem ax_XCo_22 : ax_XCd 22 := fun vs dl md hp hp' _ _ _ _ => trivial
theorem ax_XCo_23 : ax_XCd 23 := fun vs dl md hp hp' _ _ _ _ => trivial
theorem ax_XCo_24 : ax_XCd 24 := fun vs dl md hp hp' _ _ _ _ => trivial
theorem ax_XCo_25 : ax_XCd 25 := fun vs dl md hp hp' _ _ _ _ => trivial
theorem ax_XCo_26 : ax_XCd 26 := fun vs dl md hp hp' _ _ _ _ => trivial
theorem ax_XCo_27 : ax_XCd 27 := fun vs dl md hp hp' _ _ _ _ => trivial
theorem ax_XCo_28 : ax_XCd 28 := fun vs dl md hp hp' _ _ _ _ => trivial
theorem ax_XCo_29 : ax_XCd 29 := fun vs dl md hp hp' _ _ _ _ => trivial
theorem ax_XCo_30 : ax_XCd 30 := by
  intro vs dl md hp hp' hdl hall hR hX
  match vs, hX with
  | [g], hX =>
    have hdl : [(2, 1), (20, 999)] = dl := Option.some.inj hdl
    subst hdl
    obtain ⟨x8, x9, hX⟩ := hX
    have e0 : ay_at hp' 8 1 = ay_at hp 8 1 := ay_same1 hR x8 (g := 2) rfl (List.all_eq_true.mp hall (2, 1) (by simp))
    have e1 : ay_at hp' 9 = ay_at hp 9 := ay_same hR x9 (g := 20) rfl (List.all_eq_true.mp hall (20, 999) (by simp))
    refine ⟨ay_ex_same hR x8 (g := 2) rfl, ay_ex_same hR x9 (g := 20) rfl, ?_⟩
    show pz_x30 g (ay_at hp' 8 1) (ay_at hp' 9)
    rw [e0, e1]
    exact hX
  | [], _ => trivial
  | _ :: _ :: _, _ => trivial
theorem ax_XCo_31 : ax_XCd 31 := by
  intro vs dl md hp hp' hdl hall hR hX
  match vs, hX with
  | [], hX =>
    have hdl : [(1, 6), (1, 7), (1, 10), (1, 11)] = dl := Option.some.inj hdl
    subst hdl
    obtain ⟨x10, hX⟩ := hX
    have e0 : ay_at hp' 10 6 = ay_at hp 10 6 := ay_same1 hR x10 (g := 1) rfl (List.all_eq_true.mp hall (1, 6) (by simp))
    have e1 : ay_at hp' 10 7 = ay_at hp 10 7 := ay_same1 hR x10 (g := 1) rfl (List.all_eq_true.mp hall (1, 7) (by simp))
    have e2 : ay_at hp' 10 10 = ay_at hp 10 10 := ay_same1 hR x10 (g := 1) rfl (List.all_eq_true.mp hall (1, 10) (by simp))
    have e3 : ay_at hp' 10 11 = ay_at hp 10 11 := ay_same1 hR x10 (g := 1) rfl (List.all_eq_true.mp hall (1, 11) (by simp))
    refine ⟨ay_ex_same hR x10 (g := 1) rfl, ?_⟩
    show pz_x31 (ay_at hp' 10 6) (ay_at hp' 10 7) (ay_at hp' 10 10) (ay_at hp' 10 11)
    rw [e0, e1, e2, e3]
    exact hX
  | _ :: _, _ => trivial
theorem ax_XCo_32 : ax_XCd 32 := fun vs dl md hp hp' _ _ _ _ => trivial
theorem ax_XCo_33 : ax_XCd 33 := by
  intro vs dl md hp hp' hdl hall hR hX
  match vs, hX with
  | [g, a, r], hX => exact hX
  | [], _ => trivial
  | [_], _ => trivial
  | [_, _], _ => trivial
  | _ :: _ :: _ :: _ :: _, _ => trivial
theorem ax_XCo_34 : ax_XCd 34 := by
  intro vs dl md hp hp' hdl hall hR hX
  match vs, hX with
  | [g, a, h, r], hX => exact hX
  | [], _ => trivial
  | [_], _ => trivial
  | [_, _], _ => trivial
  | [_, _, _], _ => trivial
  | _ :: _ :: _ :: _ :: _ :: _, _ => trivial
theorem ax_XCo_35 : ax_XCd 35 := by
  intro vs dl md hp hp' hdl hall hR hX
  match vs, hX with
  | [g], hX =>
    have hdl : [(2, 1), (20, 999)] = dl := Option.some.inj hdl
    subst hdl
    obtain ⟨x8, x9, hX⟩ := hX
    have e0 : ay_at hp' 8 1 = ay_at hp 8 1 := ay_same1 hR x8 (g := 2) rfl (List.all_eq_true.mp hall (2, 1) (by simp))
    have e1 : ay_at hp' 9 = ay_at hp 9 := ay_same hR x9 (g := 20) rfl (List.all_eq_true.mp hall (20, 999) (by simp))
    refine ⟨ay_ex_same hR x8 (g := 2) rfl, ay_ex_same hR x9 (g := 20) rfl, ?_⟩
    show pz_x35 g (ay_at hp' 8 1) (ay_at hp' 9)
    rw [e0, e1]
    exact hX
  | [], _ => trivial
  | _ :: _ :: _, _ => trivial
theorem ax_XCo_36 : ax_XCd 36 := by
  intro vs dl md hp hp' hdl hall hR hX
  match vs, hX with
  | [g, a, h, r], hX => exact hX
  | [], _ => trivial
  | [_], _ => trivial
  | [_, _], _ => trivial
  | [_, _, _], _ => trivial
  | _ :: _ :: _ :: _ :: _ :: _, _ => trivial
theorem ax_XCo_37 : ax_XCd 37 := by
  intro vs dl md hp hp' hdl hall hR hX
  match vs, hX with
  | [g, a, b, c, d, e, r], hX => exact hX
  | [], _ => trivial
  | [_], _ => trivial
  | [_, _], _ => trivial
  | [_, _, _], _ => trivial
  | [_, _, _, _], _ => trivial
  | [_, _, _, _, _], _ => trivial
  | [_, _, _, _, _, _], _ => trivial
  | _ :: _ :: _ :: _ :: _ :: _ :: _ :: _ :: _, _ => trivial
theorem ax_XCo_38 : ax_XCd 38 := by
  intro vs dl md hp hp' hdl hall hR hX
  match vs, hX with
  | [g, n, r], hX => exact hX
  | [], _ => trivial
  | [_], _ => trivial
  | [_, _], _ => trivial
  | _ :: _ :: _ :: _ :: _, _ => trivial
theorem ax_XCo_39 : ax_XCd 39 := by
  intro vs dl md hp hp' hdl hall hR hX
  match vs, hX with
  | [g, s], hX => exact hX
  | [], _ => trivial
  | [_], _ => trivial
  | _ :: _ :: _ :: _, _ => trivial
theorem ax_XCo_40 : ax_XCd 40 := by
  intro vs dl md hp hp' hdl hall hR hX
  match vs, hX with
  | [l], hX => exact hX
  | [], _ => trivial
  | _ :: _ :: _, _ => trivial
theorem ax_XCo_41 : ax_XCd 41 := by
  intro vs dl md hp hp' hdl hall hR hX
  match vs, hX with
  | [l], hX =>
    have hdl : [(1, 5), (18, 999), (19, 999)] = dl := Option.some.inj hdl
    subst hdl
    obtain ⟨x10, x15, x16, hX⟩ := hX
    have e0 : ay_at hp' 10 5 = ay_at hp 10 5 := ay_same1 hR x10 (g := 1) rfl (List.all_eq_true.mp hall (1, 5) (by simp))
    have e1 : ay_at hp' 15 = ay_at hp 15 := ay_same hR x15 (g := 18) rfl (List.all_eq_true.mp hall (18, 999) (by simp))
    have e2 : ay_at hp' 16 = ay_at hp 16 := ay_same hR x16 (g := 19) rfl (List.all_eq_true.mp hall (19, 999) (by simp))
    refine ⟨ay_ex_same hR x10 (g := 1) rfl, ay_ex_same hR x15 (g := 18) rfl, ay_ex_same hR x16 (g := 19) rfl, ?_⟩
    show py_x41 l (ay_at hp' 10 5) (ay_at hp' 15) (ay_at hp' 16)
    rw [e0, e1, e2]
    exact hX
  | [], _ => trivial
  | _ :: _ :: _, _ => trivial
theorem ax_XCo_42 : ax_XCd 42 := by
  intro vs dl md hp hp' hdl hall hR hX
  match vs, hX with
  | [g, n, s, l, c], hX => exact hX
  | [], _ => trivial
  | [_], _ => trivial
  | [_, _], _ => trivial
  | [_, _, _], _ => trivial
  | [_, _, _, _], _ => trivial
  | _ :: _ :: _ :: _ :: _ :: _ :: _, _ => trivial
theorem ax_XCo_43 : ax_XCd 43 := fun vs dl md hp hp' _ _ _ _ => trivial
theorem ax_XCo_44 : ax_XCd 44 := by
  intro vs dl md hp hp' hdl hall hR hX
  match vs, hX with
  | [s], hX => exact hX
  | [], _ => trivial
  | _ :: _ :: _, _ => trivial
theorem ax_XCo_45 : ax_XCd 45 := by
  intro vs dl md hp hp' hdl hall hR hX
  match vs, hX with
  | [s], hX => exact hX
  | [], _ => trivial
  | _ :: _ :: _, _ => trivial
theorem ax_XCo_46 : ax_XCd 46 := by
  intro vs dl md hp hp' hdl hall hR hX
  match vs, hX with
  | [g, n, s, l], hX => exact hX
  | [], _ => trivial
  | [_], _ => trivial
  | [_, _], _ => trivial
  | [_, _, _], _ => trivial
  | _ :: _ :: _ :: _ :: _ :: _, _ => trivial
theorem ax_XCo_47 : ax_XCd 47 := by
  intro vs dl md hp hp' hdl hall hR hX
  match vs, hX with
  | [g, n, s, l], hX => exact hX
  | [], _ => trivial
  | [_], _ => trivial
  | [_, _], _ => trivial
  | [_, _, _], _ => trivial
  | _ :: _ :: _ :: _ :: _ :: _, _ => trivial
theorem ax_XCo_48 : ax_XCd 48 := by
  intro vs dl md hp hp' hdl hall hR hX
  match vs, hX with
  | [g, n, s, l], hX => exact hX
  | [], _ => trivial
  | [_], _ => trivial
  | [_, _], _ => trivial
  | [_, _, _], _ => trivial
  | _ :: _ :: _ :: _ :: _ :: _, _ => trivial
theorem ax_XCo_49 : ax_XCd 49 := by
  intro vs dl md hp hp' hdl hall hR hX
  match vs, hX with
  | [g, n, s, l], hX => exact hX
  | [], _ => trivial
  | [_], _ => trivial
  | [_, _], _ => trivial
  | [_, _, _], _ => trivial
  | _ :: _ :: _ :: _ :: _ :: _, _ => trivial
theorem ax_XCo_50 : ax_XCd 50 := by
  intro vs dl md hp hp' hdl hall hR hX
  match vs, hX with
  | [g, n], hX =>
    have hdl : [(2, 5), (2, 6), (2, 7), (2, 8), (1, 0), (1, 1), (1, 2), (1, 3), (1, 4), (2, 9), (2, 11), (2, 10), (2, 3), (2, 4), (14, 999), (15, 999)] = dl := Option.some.inj hdl
    subst hdl
    obtain ⟨x8, x10, x11, x12, hX⟩ := hX
    have e0 : ay_at hp' 8 5 = ay_at hp 8 5 := ay_same1 hR x8 (g := 2) rfl (List.all_eq_true.mp hall (2, 5) (by simp))
    have e1 : ay_at hp' 8 6 = ay_at hp 8 6 := ay_same1 hR x8 (g := 2) rfl (List.all_eq_true.mp hall (2, 6) (by simp))
    have e2 : ay_at hp' 8 7 = ay_at hp 8 7 := ay_same1 hR x8 (g := 2) rfl (List.all_eq_true.mp hall (2, 7) (by simp))
    have e3 : ay_at hp' 8 8 = ay_at hp 8 8 := ay_same1 hR x8 (g := 2) rfl (List.all_eq_true.mp hall (2, 8) (by simp))
    have e4 : ay_at hp' 10 0 = ay_at hp 10 0 := ay_same1 hR x10 (g := 1) rfl (List.all_eq_true.mp hall (1, 0) (by simp))
    have e5 : ay_at hp' 10 1 = ay_at hp 10 1 := ay_same1 hR x10 (g := 1) rfl (List.all_eq_true.mp hall (1, 1) (by simp))
    have e6 : ay_at hp' 10 2 = ay_at hp 10 2 := ay_same1 hR x10 (g := 1) rfl (List.all_eq_true.mp hall (1, 2) (by simp))
    have e7 : ay_at hp' 10 3 = ay_at hp 10 3 := ay_same1 hR x10 (g := 1) rfl (List.all_eq_true.mp hall (1, 3) (by simp))
    have e8 : ay_at hp' 10 4 = ay_at hp 10 4 := ay_same1 hR x10 (g := 1) rfl (List.all_eq_true.mp hall (1, 4) (by simp))
    have e9 : ay_at hp' 8 9 = ay_at hp 8 9 := ay_same1 hR x8 (g := 2) rfl (List.all_eq_true.mp hall (2, 9) (by simp))
    have e10 : ay_at hp' 8 11 = ay_at hp 8 11 := ay_same1 hR x8 (g := 2) rfl (List.all_eq_true.mp hall (2, 11) (by simp))
    have e11 : ay_at hp' 8 10 = ay_at hp 8 10 := ay_same1 hR x8 (g := 2) rfl (List.all_eq_true.mp hall (2, 10) (by simp))
    have e12 : ay_at hp' 8 3 = ay_at hp 8 3 := ay_same1 hR x8 (g := 2) rfl (List.all_eq_true.mp hall (2, 3) (by simp))
    have e13 : ay_at hp' 8 4 = ay_at hp 8 4 := ay_same1 hR x8 (g := 2) rfl (List.all_eq_true.mp hall (2, 4) (by simp))
    have e14 : ay_at hp' 11 = ay_at hp 11 := ay_same hR x11 (g := 14) rfl (List.all_eq_true.mp hall (14, 999) (by simp))
    have e15 : ay_at hp' 12 = ay_at hp 12 := ay_same hR x12 (g := 15) rfl (List.all_eq_true.mp hall (15, 999) (by simp))
    refine ⟨ay_ex_same hR x8 (g := 2) rfl, ay_ex_same hR x10 (g := 1) rfl, ay_ex_same hR x11 (g := 14) rfl, ay_ex_same hR x12 (g := 15) rfl, ?_⟩
    show pz_x50 g n (ay_at hp' 8 5) (ay_at hp' 8 6) (ay_at hp' 8 7) (ay_at hp' 8 8) (ay_at hp' 10 0) (ay_at hp' 10 1) (ay_at hp' 10 2) (ay_at hp' 10 3) (ay_at hp' 10 4) (ay_at hp' 8 9) (ay_at hp' 8 11) (ay_at hp' 8 10) (ay_at hp' 8 3) (ay_at hp' 8 4) (ay_at hp' 11) (ay_at hp' 12)
    rw [e0, e1, e2, e3, e4, e5, e6, e7, e8, e9, e10, e11, e12, e13, e14, e15]
    exact hX
  | [], _ => trivial
  | [_], _ => trivial
  | _ :: _ :: _ :: _, _ => trivial
theorem ax_XCo_51 : ax_XCd 51 := fun vs dl md hp hp' _ _ _ _ => trivial
theorem ax_XCo_52 : ax_XCd 52 := fun vs dl md hp hp' _ _ _ _ => trivial
theorem ax_XCo_53 : ax_XCd 53 := by
  intro vs dl md hp hp' hdl hall hR hX
  match vs, hX with
  | [g, n], hX =>
    have hdl : [(2, 5), (1, 0), (1, 1), (1, 2), (1, 3), (1, 4), (2, 9), (2, 11), (2, 10), (2, 3), (2, 4), (14, 999), (15, 999)] = dl := Option.some.inj hdl
    subst hdl
    obtain ⟨x8, x10, x11, x12, hX⟩ := hX
    have e0 : ay_at hp' 8 5 = ay_at hp 8 5 := ay_same1 hR x8 (g := 2) rfl (List.all_eq_true.mp hall (2, 5) (by simp))
    have e1 : ay_at hp' 10 0 = ay_at hp 10 0 := ay_same1 hR x10 (g := 1) rfl (List.all_eq_true.mp hall (1, 0) (by simp))
    have e2 : ay_at hp' 10 1 = ay_at hp 10 1 := ay_same1 hR x10 (g := 1) rfl (List.all_eq_true.mp hall (1, 1) (by simp))
    have e3 : ay_at hp' 10 2 = ay_at hp 10 2 := ay_same1 hR x10 (g := 1) rfl (List.all_eq_true.mp hall (1, 2) (by simp))
    have e4 : ay_at hp' 10 3 = ay_at hp 10 3 := ay_same1 hR x10 (g := 1) rfl (List.all_eq_true.mp hall (1, 3) (by simp))
    have e5 : ay_at hp' 10 4 = ay_at hp 10 4 := ay_same1 hR x10 (g := 1) rfl (List.all_eq_true.mp hall (1, 4) (by simp))
    have e6 : ay_at hp' 8 9 = ay_at hp 8 9 := ay_same1 hR x8 (g := 2) rfl (List.all_eq_true.mp hall (2, 9) (by simp))
    have e7 : ay_at hp' 8 11 = ay_at hp 8 11 := ay_same1 hR x8 (g := 2) rfl (List.all_eq_true.mp hall (2, 11) (by simp))
    have e8 : ay_at hp' 8 10 = ay_at hp 8 10 := ay_same1 hR x8 (g := 2) rfl (List.all_eq_true.mp hall (2, 10) (by simp))
    have e9 : ay_at hp' 8 3 = ay_at hp 8 3 := ay_same1 hR x8 (g := 2) rfl (List.all_eq_true.mp hall (2, 3) (by simp))
    have e10 : ay_at hp' 8 4 = ay_at hp 8 4 := ay_same1 hR x8 (g := 2) rfl (List.all_eq_true.mp hall (2, 4) (by simp))
    have e11 : ay_at hp' 11 = ay_at hp 11 := ay_same hR x11 (g := 14) rfl (List.all_eq_true.mp hall (14, 999) (by simp))
    have e12 : ay_at hp' 12 = ay_at hp 12 := ay_same hR x12 (g := 15) rfl (List.all_eq_true.mp hall (15, 999) (by simp))
    refine ⟨ay_ex_same hR x8 (g := 2) rfl, ay_ex_same hR x10 (g := 1) rfl, ay_ex_same hR x11 (g := 14) rfl, ay_ex_same hR x12 (g := 15) rfl, ?_⟩
    show pz_x53 g n (ay_at hp' 8 5) (ay_at hp' 10 0) (ay_at hp' 10 1) (ay_at hp' 10 2) (ay_at hp' 10 3) (ay_at hp' 10 4) (ay_at hp' 8 9) (ay_at hp' 8 11) (ay_at hp' 8 10) (ay_at hp' 8 3) (ay_at hp' 8 4) (ay_at hp' 11) (ay_at hp' 12)
    rw [e0, e1, e2, e3, e4, e5, e6, e7, e8, e9, e10, e11, e12]
    exact hX
  | [], _ => trivial
  | [_], _ => trivial
  | _ :: _ :: _ :: _, _ => trivial
theorem ax_XCo_54 : ax_XCd 54 := by
  intro vs dl md hp hp' hdl hall hR hX
  match vs, hX with
  | [g, n], hX =>
    have hdl : [(2, 5), (2, 6), (1, 0), (1, 1), (1, 2), (1, 3), (1, 4), (2, 9), (2, 11), (2, 10), (2, 3), (2, 4), (14, 999), (15, 999)] = dl := Option.some.inj hdl
    subst hdl
    obtain ⟨x8, x10, x11, x12, hX⟩ := hX
    have e0 : ay_at hp' 8 5 = ay_at hp 8 5 := ay_same1 hR x8 (g := 2) rfl (List.all_eq_true.mp hall (2, 5) (by simp))
    have e1 : ay_at hp' 8 6 = ay_at hp 8 6 := ay_same1 hR x8 (g := 2) rfl (List.all_eq_true.mp hall (2, 6) (by simp))
    have e2 : ay_at hp' 10 0 = ay_at hp 10 0 := ay_same1 hR x10 (g := 1) rfl (List.all_eq_true.mp hall (1, 0) (by simp))
    have e3 : ay_at hp' 10 1 = ay_at hp 10 1 := ay_same1 hR x10 (g := 1) rfl (List.all_eq_true.mp hall (1, 1) (by simp))
    have e4 : ay_at hp' 10 2 = ay_at hp 10 2 := ay_same1 hR x10 (g := 1) rfl (List.all_eq_true.mp hall (1, 2) (by simp))
    have e5 : ay_at hp' 10 3 = ay_at hp 10 3 := ay_same1 hR x10 (g := 1) rfl (List.all_eq_true.mp hall (1, 3) (by simp))
    have e6 : ay_at hp' 10 4 = ay_at hp 10 4 := ay_same1 hR x10 (g := 1) rfl (List.all_eq_true.mp hall (1, 4) (by simp))
    have e7 : ay_at hp' 8 9 = ay_at hp 8 9 := ay_same1 hR x8 (g := 2) rfl (List.all_eq_true.mp hall (2, 9) (by simp))
    have e8 : ay_at hp' 8 11 = ay_at hp 8 11 := ay_same1 hR x8 (g := 2) rfl (List.all_eq_true.mp hall (2, 11) (by simp))
    have e9 : ay_at hp' 8 10 = ay_at hp 8 10 := ay_same1 hR x8 (g := 2) rfl (List.all_eq_true.mp hall (2, 10) (by simp))
    have e10 : ay_at hp' 8 3 = ay_at hp 8 3 := ay_same1 hR x8 (g := 2) rfl (List.all_eq_true.mp hall (2, 3) (by simp))
    have e11 : ay_at hp' 8 4 = ay_at hp 8 4 := ay_same1 hR x8 (g := 2) rfl (List.all_eq_true.mp hall (2, 4) (by simp))
    have e12 : ay_at hp' 11 = ay_at hp 11 := ay_same hR x11 (g := 14) rfl (List.all_eq_true.mp hall (14, 999) (by simp))
    have e13 : ay_at hp' 12 = ay_at hp 12 := ay_same hR x12 (g := 15) rfl (List.all_eq_true.mp hall (15, 999) (by simp))
    refine ⟨ay_ex_same hR x8 (g := 2) rfl, ay_ex_same hR x10 (g := 1) rfl, ay_ex_same hR x11 (g := 14) rfl, ay_ex_same hR x12 (g := 15) rfl, ?_⟩
    show pz_x54 g n (ay_at hp' 8 5) (ay_at hp' 8 6) (ay_at hp' 10 0) (ay_at hp' 10 1) (ay_at hp' 10 2) (ay_at hp' 10 3) (ay_at hp' 10 4) (ay_at hp' 8 9) (ay_at hp' 8 11) (ay_at hp' 8 10) (ay_at hp' 8 3) (ay_at hp' 8 4) (ay_at hp' 11) (ay_at hp' 12)
    rw [e0, e1, e2, e3, e4, e5, e6, e7, e8, e9, e10, e11, e12, e13]
    exact hX
  | [], _ => trivial
  | [_], _ => trivial
  | _ :: _ :: _ :: _, _ => trivial
theorem ax_XCo_55 : ax_XCd 55 := by
  intro vs dl md hp hp' hdl hall hR hX
  match vs, hX with
  | [g, n], hX =>
    have hdl : [(2, 5), (2, 6), (1, 0), (1, 1), (1, 2), (1, 3), (1, 4), (2, 9), (2, 11), (2, 10), (2, 3), (2, 4), (14, 999), (15, 999)] = dl := Option.some.inj hdl
    subst hdl
    obtain ⟨x8, x10, x11, x12, hX⟩ := hX
    have e0 : ay_at hp' 8 5 = ay_at hp 8 5 := ay_same1 hR x8 (g := 2) rfl (List.all_eq_true.mp hall (2, 5) (by simp))
    have e1 : ay_at hp' 8 6 = ay_at hp 8 6 := ay_same1 hR x8 (g := 2) rfl (List.all_eq_true.mp hall (2, 6) (by simp))
    have e2 : ay_at hp' 10 0 = ay_at hp 10 0 := ay_same1 hR x10 (g := 1) rfl (List.all_eq_true.mp hall (1, 0) (by simp))
    have e3 : ay_at hp' 10 1 = ay_at hp 10 1 := ay_same1 hR x10 (g := 1) rfl (List.all_eq_true.mp hall (1, 1) (by simp))
    have e4 : ay_at hp' 10 2 = ay_at hp 10 2 := ay_same1 hR x10 (g := 1) rfl (List.all_eq_true.mp hall (1, 2) (by simp))
    have e5 : ay_at hp' 10 3 = ay_at hp 10 3 := ay_same1 hR x10 (g := 1) rfl (List.all_eq_true.mp hall (1, 3) (by simp))
    have e6 : ay_at hp' 10 4 = ay_at hp 10 4 := ay_same1 hR x10 (g := 1) rfl (List.all_eq_true.mp hall (1, 4) (by simp))
    have e7 : ay_at hp' 8 9 = ay_at hp 8 9 := ay_same1 hR x8 (g := 2) rfl (List.all_eq_true.mp hall (2, 9) (by simp))
    have e8 : ay_at hp' 8 11 = ay_at hp 8 11 := ay_same1 hR x8 (g := 2) rfl (List.all_eq_true.mp hall (2, 11) (by simp))
    have e9 : ay_at hp' 8 10 = ay_at hp 8 10 := ay_same1 hR x8 (g := 2) rfl (List.all_eq_true.mp hall (2, 10) (by simp))
    have e10 : ay_at hp' 8 3 = ay_at hp 8 3 := ay_same1 hR x8 (g := 2) rfl (List.all_eq_true.mp hall (2, 3) (by simp))
    have e11 : ay_at hp' 8 4 = ay_at hp 8 4 := ay_same1 hR x8 (g := 2) rfl (List.all_eq_true.mp hall (2, 4) (by simp))
    have e12 : ay_at hp' 11 = ay_at hp 11 := ay_same hR x11 (g := 14) rfl (List.all_eq_true.mp hall (14, 999) (by simp))
    have e13 : ay_at hp' 12 = ay_at hp 12 := ay_same hR x12 (g := 15) rfl (List.all_eq_true.mp hall (15, 999) (by simp))
    refine ⟨ay_ex_same hR x8 (g := 2) rfl, ay_ex_same hR x10 (g := 1) rfl, ay_ex_same hR x11 (g := 14) rfl, ay_ex_same hR x12 (g := 15) rfl, ?_⟩
    show pz_x55 g n (ay_at hp' 8 5) (ay_at hp' 8 6) (ay_at hp' 10 0) (ay_at hp' 10 1) (ay_at hp' 10 2) (ay_at hp' 10 3) (ay_at hp' 10 4) (ay_at hp' 8 9) (ay_at hp' 8 11) (ay_at hp' 8 10) (ay_at hp' 8 3) (ay_at hp' 8 4) (ay_at hp' 11) (ay_at hp' 12)
    rw [e0, e1, e2, e3, e4, e5, e6, e7, e8, e9, e10, e11, e12, e13]
    exact hX
  | [], _ => trivial
  | [_], _ => trivial
  | _ :: _ :: _ :: _, _ => trivial
theorem ax_XCo_56 : ax_XCd 56 := by
  intro vs dl md hp hp' hdl hall hR hX
  match vs, hX with
  | [g, n], hX =>
    have hdl : [(2, 5), (2, 6), (2, 7), (1, 0), (1, 1), (1, 2), (1, 3), (1, 4), (2, 9), (2, 11), (2, 10), (2, 3), (2, 4), (14, 999), (15, 999)] = dl := Option.some.inj hdl
    subst hdl
    obtain ⟨x8, x10, x11, x12, hX⟩ := hX
    have e0 : ay_at hp' 8 5 = ay_at hp 8 5 := ay_same1 hR x8 (g := 2) rfl (List.all_eq_true.mp hall (2, 5) (by simp))
    have e1 : ay_at hp' 8 6 = ay_at hp 8 6 := ay_same1 hR x8 (g := 2) rfl (List.all_eq_true.mp hall (2, 6) (by simp))
    have e2 : ay_at hp' 8 7 = ay_at hp 8 7 := ay_same1 hR x8 (g := 2) rfl (List.all_eq_true.mp hall (2, 7) (by simp))
    have e3 : ay_at hp' 10 0 = ay_at hp 10 0 := ay_same1 hR x10 (g := 1) rfl (List.all_eq_true.mp hall (1, 0) (by simp))
    have e4 : ay_at hp' 10 1 = ay_at hp 10 1 := ay_same1 hR x10 (g := 1) rfl (List.all_eq_true.mp hall (1, 1) (by simp))
    have e5 : ay_at hp' 10 2 = ay_at hp 10 2 := ay_same1 hR x10 (g := 1) rfl (List.all_eq_true.mp hall (1, 2) (by simp))
    have e6 : ay_at hp' 10 3 = ay_at hp 10 3 := ay_same1 hR x10 (g := 1) rfl (List.all_eq_true.mp hall (1, 3) (by simp))
    have e7 : ay_at hp' 10 4 = ay_at hp 10 4 := ay_same1 hR x10 (g := 1) rfl (List.all_eq_true.mp hall (1, 4) (by simp))
    have e8 : ay_at hp' 8 9 = ay_at hp 8 9 := ay_same1 hR x8 (g := 2) rfl (List.all_eq_true.mp hall (2, 9) (by simp))
    have e9 : ay_at hp' 8 11 = ay_at hp 8 11 := ay_same1 hR x8 (g := 2) rfl (List.all_eq_true.mp hall (2, 11) (by simp))
    have e10 : ay_at hp' 8 10 = ay_at hp 8 10 := ay_same1 hR x8 (g := 2) rfl (List.all_eq_true.mp hall (2, 10) (by simp))
    have e11 : ay_at hp' 8 3 = ay_at hp 8 3 := ay_same1 hR x8 (g := 2) rfl (List.all_eq_true.mp hall (2, 3) (by simp))
    have e12 : ay_at hp' 8 4 = ay_at hp 8 4 := ay_same1 hR x8 (g := 2) rfl (List.all_eq_true.mp hall (2, 4) (by simp))
    have e13 : ay_at hp' 11 = ay_at hp 11 := ay_same hR x11 (g := 14) rfl (List.all_eq_true.mp hall (14, 999) (by simp))
    have e14 : ay_at hp' 12 = ay_at hp 12 := ay_same hR x12 (g := 15) rfl (List.all_eq_true.mp hall (15, 999) (by simp))
    refine ⟨ay_ex_same hR x8 (g := 2) rfl, ay_ex_same hR x10 (g := 1) rfl, ay_ex_same hR x11 (g := 14) rfl, ay_ex_same hR x12 (g := 15) rfl, ?_⟩
    show pz_x56 g n (ay_at hp' 8 5) (ay_at hp' 8 6) (ay_at hp' 8 7) (ay_at hp' 10 0) (ay_at hp' 10 1) (ay_at hp' 10 2) (ay_at hp' 10 3) (ay_at hp' 10 4) (ay_at hp' 8 9) (ay_at hp' 8 11) (ay_at hp' 8 10) (ay_at hp' 8 3) (ay_at hp' 8 4) (ay_at hp' 11) (ay_at hp' 12)
    rw [e0, e1, e2, e3, e4, e5, e6, e7, e8, e9, e10, e11, e12, e13, e14]
    exact hX
  | [], _ => trivial
  | [_], _ => trivial
  | _ :: _ :: _ :: _, _ => trivial
theorem ax_XCo_57 : ax_XCd 57 := by
  intro vs dl md hp hp' hdl hall hR hX
  match vs, hX with
  | [g, n], hX =>
    have hdl : [(2, 5), (2, 6), (2, 7), (1, 0), (1, 1), (1, 2), (1, 3), (1, 4), (2, 9), (2, 11), (2, 10), (2, 3), (2, 4), (14, 999), (15, 999)] = dl := Option.some.inj hdl
    subst hdl
    obtain ⟨x8, x10, x11, x12, hX⟩ := hX
    have e0 : ay_at hp' 8 5 = ay_at hp 8 5 := ay_same1 hR x8 (g := 2) rfl (List.all_eq_true.mp hall (2, 5) (by simp))
    have e1 : ay_at hp' 8 6 = ay_at hp 8 6 := ay_same1 hR x8 (g := 2) rfl (List.all_eq_true.mp hall (2, 6) (by simp))
    have e2 : ay_at hp' 8 7 = ay_at hp 8 7 := ay_same1 hR x8 (g := 2) rfl (List.all_eq_true.mp hall (2, 7) (by simp))
    have e3 : ay_at hp' 10 0 = ay_at hp 10 0 := ay_same1 hR x10 (g := 1) rfl (List.all_eq_true.mp hall (1, 0) (by simp))
    have e4 : ay_at hp' 10 1 = ay_at hp 10 1 := ay_same1 hR x10 (g := 1) rfl (List.all_eq_true.mp hall (1, 1) (by simp))
    have e5 : ay_at hp' 10 2 = ay_at hp 10 2 := ay_same1 hR x10 (g := 1) rfl (List.all_eq_true.mp hall (1, 2) (by simp))
    have e6 : ay_at hp' 10 3 = ay_at hp 10 3 := ay_same1 hR x10 (g := 1) rfl (List.all_eq_true.mp hall (1, 3) (by simp))
    have e7 : ay_at hp' 10 4 = ay_at hp 10 4 := ay_same1 hR x10 (g := 1) rfl (List.all_eq_true.mp hall (1, 4) (by simp))
    have e8 : ay_at hp' 8 9 = ay_at hp 8 9 := ay_same1 hR x8 (g := 2) rfl (List.all_eq_true.mp hall (2, 9) (by simp))
    have e9 : ay_at hp' 8 11 = ay_at hp 8 11 := ay_same1 hR x8 (g := 2) rfl (List.all_eq_true.mp hall (2, 11) (by simp))
    have e10 : ay_at hp' 8 10 = ay_at hp 8 10 := ay_same1 hR x8 (g := 2) rfl (List.all_eq_true.mp hall (2, 10) (by simp))
    have e11 : ay_at hp' 8 3 = ay_at hp 8 3 := ay_same1 hR x8 (g := 2) rfl (List.all_eq_true.mp hall (2, 3) (by simp))
    have e12 : ay_at hp' 8 4 = ay_at hp 8 4 := ay_same1 hR x8 (g := 2) rfl (List.all_eq_true.mp hall (2, 4) (by simp))
    have e13 : ay_at hp' 11 = ay_at hp 11 := ay_same hR x11 (g := 14) rfl (List.all_eq_true.mp hall (14, 999) (by simp))
    have e14 : ay_at hp' 12 = ay_at hp 12 := ay_same hR x12 (g := 15) rfl (List.all_eq_true.mp hall (15, 999) (by simp))
    refine ⟨ay_ex_same hR x8 (g := 2) rfl, ay_ex_same hR x10 (g := 1) rfl, ay_ex_same hR x11 (g := 14) rfl, ay_ex_same hR x12 (g := 15) rfl, ?_⟩
    show pz_x57 g n (ay_at hp' 8 5) (ay_at hp' 8 6) (ay_at hp' 8 7) (ay_at hp' 10 0) (ay_at hp' 10 1) (ay_at hp' 10 2) (ay_at hp' 10 3) (ay_at hp' 10 4) (ay_at hp' 8 9) (ay_at hp' 8 11) (ay_at hp' 8 10) (ay_at hp' 8 3) (ay_at hp' 8 4) (ay_at hp' 11) (ay_at hp' 12)
    rw [e0, e1, e2, e3, e4, e5, e6, e7, e8, e9, e10, e11, e12, e13, e14]
    exact hX
  | [], _ => trivial
  | [_], _ => trivial
  | _ :: _ :: _ :: _, _ => trivial
theorem ax_XCo_58 : ax_XCd 58 := by
  intro vs dl md hp hp' hdl hall hR hX
  match vs, hX with
  | [g, n], hX =>
    have hdl : [(2, 5), (2, 6), (2, 7), (2, 8), (1, 0), (1, 1), (1, 2), (1, 3), (1, 4), (2, 9), (2, 11), (2, 10), (2, 3), (2, 4), (14, 999), (15, 999)] = dl := Option.some.inj hdl
    subst hdl
    obtain ⟨x8, x10, x11, x12, hX⟩ := hX
    have e0 : ay_at hp' 8 5 = ay_at hp 8 5 := ay_same1 hR x8 (g := 2) rfl (List.all_eq_true.mp hall (2, 5) (by simp))
    have e1 : ay_at hp' 8 6 = ay_at hp 8 6 := ay_same1 hR x8 (g := 2) rfl (List.all_eq_true.mp hall (2, 6) (by simp))
    have e2 : ay_at hp' 8 7 = ay_at hp 8 7 := ay_same1 hR x8 (g := 2) rfl (List.all_eq_true.mp hall (2, 7) (by simp))
    have e3 : ay_at hp' 8 8 = ay_at hp 8 8 := ay_same1 hR x8 (g := 2) rfl (List.all_eq_true.mp hall (2, 8) (by simp))
    have e4 : ay_at hp' 10 0 = ay_at hp 10 0 := ay_same1 hR x10 (g := 1) rfl (List.all_eq_true.mp hall (1, 0) (by simp))
    have e5 : ay_at hp' 10 1 = ay_at hp 10 1 := ay_same1 hR x10 (g := 1) rfl (List.all_eq_true.mp hall (1, 1) (by simp))
    have e6 : ay_at hp' 10 2 = ay_at hp 10 2 := ay_same1 hR x10 (g := 1) rfl (List.all_eq_true.mp hall (1, 2) (by simp))
    have e7 : ay_at hp' 10 3 = ay_at hp 10 3 := ay_same1 hR x10 (g := 1) rfl (List.all_eq_true.mp hall (1, 3) (by simp))
    have e8 : ay_at hp' 10 4 = ay_at hp 10 4 := ay_same1 hR x10 (g := 1) rfl (List.all_eq_true.mp hall (1, 4) (by simp))
    have e9 : ay_at hp' 8 9 = ay_at hp 8 9 := ay_same1 hR x8 (g := 2) rfl (List.all_eq_true.mp hall (2, 9) (by simp))
    have e10 : ay_at hp' 8 11 = ay_at hp 8 11 := ay_same1 hR x8 (g := 2) rfl (List.all_eq_true.mp hall (2, 11) (by simp))
    have e11 : ay_at hp' 8 10 = ay_at hp 8 10 := ay_same1 hR x8 (g := 2) rfl (List.all_eq_true.mp hall (2, 10) (by simp))
    have e12 : ay_at hp' 8 3 = ay_at hp 8 3 := ay_same1 hR x8 (g := 2) rfl (List.all_eq_true.mp hall (2, 3) (by simp))
    have e13 : ay_at hp' 8 4 = ay_at hp 8 4 := ay_same1 hR x8 (g := 2) rfl (List.all_eq_true.mp hall (2, 4) (by simp))
    have e14 : ay_at hp' 11 = ay_at hp 11 := ay_same hR x11 (g := 14) rfl (List.all_eq_true.mp hall (14, 999) (by simp))
    have e15 : ay_at hp' 12 = ay_at hp 12 := ay_same hR x12 (g := 15) rfl (List.all_eq_true.mp hall (15, 999) (by simp))
    refine ⟨ay_ex_same hR x8 (g := 2) rfl, ay_ex_same hR x10 (g := 1) rfl, ay_ex_same hR x11 (g := 14) rfl, ay_ex_same hR x12 (g := 15) rfl, ?_⟩
    show pz_x58 g n (ay_at hp' 8 5) (ay_at hp' 8 6) (ay_at hp' 8 7) (ay_at hp' 8 8) (ay_at hp' 10 0) (ay_at hp' 10 1) (ay_at hp' 10 2) (ay_at hp' 10 3) (ay_at hp' 10 4) (ay_at hp' 8 9) (ay_at hp' 8 11) (ay_at hp' 8 10) (ay_at hp' 8 3) (ay_at hp' 8 4) (ay_at hp' 11) (ay_at hp' 12)
    rw [e0, e1, e2, e3, e4, e5, e6, e7, e8, e9, e10, e11, e12, e13, e14, e15]
    exact hX
  | [], _ => trivial
  | [_], _ => trivial
  | _ :: _ :: _ :: _, _ => trivial
theorem ax_XCo_59 : ax_XCd 59 := by
  intro vs dl md hp hp' hdl hall hR hX
  match vs, hX with
  | [g, n], hX =>
    have hdl : [(2, 5), (2, 6), (2, 7), (2, 8), (1, 0), (1, 1), (1, 2), (1, 3), (1, 4), (2, 9), (2, 11), (2, 10), (2, 3), (2, 4), (14, 999), (15, 999)] = dl := Option.some.inj hdl
    subst hdl
    obtain ⟨x8, x10, x11, x12, hX⟩ := hX
    have e0 : ay_at hp' 8 5 = ay_at hp 8 5 := ay_same1 hR x8 (g := 2) rfl (List.all_eq_true.mp hall (2, 5) (by simp))
    have e1 : ay_at hp' 8 6 = ay_at hp 8 6 := ay_same1 hR x8 (g := 2) rfl (List.all_eq_true.mp hall (2, 6) (by simp))
    have e2 : ay_at hp' 8 7 = ay_at hp 8 7 := ay_same1 hR x8 (g := 2) rfl (List.all_eq_true.mp hall (2, 7) (by simp))
    have e3 : ay_at hp' 8 8 = ay_at hp 8 8 := ay_same1 hR x8 (g := 2) rfl (List.all_eq_true.mp hall (2, 8) (by simp))
    have e4 : ay_at hp' 10 0 = ay_at hp 10 0 := ay_same1 hR x10 (g := 1) rfl (List.all_eq_true.mp hall (1, 0) (by simp))
    have e5 : ay_at hp' 10 1 = ay_at hp 10 1 := ay_same1 hR x10 (g := 1) rfl (List.all_eq_true.mp hall (1, 1) (by simp))
    have e6 : ay_at hp' 10 2 = ay_at hp 10 2 := ay_same1 hR x10 (g := 1) rfl (List.all_eq_true.mp hall (1, 2) (by simp))
    have e7 : ay_at hp' 10 3 = ay_at hp 10 3 := ay_same1 hR x10 (g := 1) rfl (List.all_eq_true.mp hall (1, 3) (by simp))
    have e8 : ay_at hp' 10 4 = ay_at hp 10 4 := ay_same1 hR x10 (g := 1) rfl (List.all_eq_true.mp hall (1, 4) (by simp))
    have e9 : ay_at hp' 8 9 = ay_at hp 8 9 := ay_same1 hR x8 (g := 2) rfl (List.all_eq_true.mp hall (2, 9) (by simp))
    have e10 : ay_at hp' 8 11 = ay_at hp 8 11 := ay_same1 hR x8 (g := 2) rfl (List.all_eq_true.mp hall (2, 11) (by simp))
    have e11 : ay_at hp' 8 10 = ay_at hp 8 10 := ay_same1 hR x8 (g := 2) rfl (List.all_eq_true.mp hall (2, 10) (by simp))
    have e12 : ay_at hp' 8 3 = ay_at hp 8 3 := ay_same1 hR x8 (g := 2) rfl (List.all_eq_true.mp hall (2, 3) (by simp))
    have e13 : ay_at hp' 8 4 = ay_at hp 8 4 := ay_same1 hR x8 (g := 2) rfl (List.all_eq_true.mp hall (2, 4) (by simp))
    have e14 : ay_at hp' 11 = ay_at hp 11 := ay_same hR x11 (g := 14) rfl (List.all_eq_true.mp hall (14, 999) (by simp))
    have e15 : ay_at hp' 12 = ay_at hp 12 := ay_same hR x12 (g := 15) rfl (List.all_eq_true.mp hall (15, 999) (by simp))
    refine ⟨ay_ex_same hR x8 (g := 2) rfl, ay_ex_same hR x10 (g := 1) rfl, ay_ex_same hR x11 (g := 14) rfl, ay_ex_same hR x12 (g := 15) rfl, ?_⟩
    show pz_x59 g n (ay_at hp' 8 5) (ay_at hp' 8 6) (ay_at hp' 8 7) (ay_at hp' 8 8) (ay_at hp' 10 0) (ay_at hp' 10 1) (ay_at hp' 10 2) (ay_at hp' 10 3) (ay_at hp' 10 4) (ay_at hp' 8 9) (ay_at hp' 8 11) (ay_at hp' 8 10) (ay_at hp' 8 3) (ay_at hp' 8 4) (ay_at hp' 11) (ay_at hp' 12)
    rw [e0, e1, e2, e3, e4, e5, e6, e7, e8, e9, e10, e11, e12, e13, e14, e15]
    exact hX
  | [], _ => trivial
  | [_], _ => trivial
  | _ :: _ :: _ :: _, _ => trivial
theorem ax_XCo_60 : ax_XCd 60 := by
  intro vs dl md hp hp' hdl hall hR hX
  match vs, hX with
  | [g, n, w], hX => exact hX
  | [], _ => trivial
  | [_], _ => trivial
  | [_, _], _ => trivial
  | _ :: _ :: _ :: _ :: _, _ => trivial
theorem ax_XCo_61 : ax_XCd 61 := by
  intro vs dl md hp hp' hdl hall hR hX
  match vs, hX with
  | [g, n, w], hX => exact hX
  | [], _ => trivial
  | [_], _ => trivial
  | [_, _], _ => trivial
  | _ :: _ :: _ :: _ :: _, _ => trivial
theorem ax_XCo_62 : ax_XCd 62 := by
  intro vs dl md hp hp' hdl hall hR hX
  match vs, hX with
  | [g, n, w, i], hX => exact hX
  | [], _ => trivial
  | [_], _ => trivial
  | [_, _], _ => trivial
  | [_, _, _], _ => trivial
  | _ :: _ :: _ :: _ :: _ :: _, _ => trivial
theorem ax_XCo_63 : ax_XCd 63 := by
  intro vs dl md hp hp' hdl hall hR hX
  match vs, hX with
  | [g], hX =>
    have hdl : [(2, 3), (2, 4)] = dl := Option.some.inj hdl
    subst hdl
    obtain ⟨x8, hX⟩ := hX
    have e0 : ay_at hp' 8 3 = ay_at hp 8 3 := ay_same1 hR x8 (g := 2) rfl (List.all_eq_true.mp hall (2, 3) (by simp))
    have e1 : ay_at hp' 8 4 = ay_at hp 8 4 := ay_same1 hR x8 (g := 2) rfl (List.all_eq_true.mp hall (2, 4) (by simp))
    refine ⟨ay_ex_same hR x8 (g := 2) rfl, ?_⟩
    show pz63 (pz_gt g) (pz_gN g) (ay_ln (ay_at hp' 8 3)) (ay_ln (ay_at hp' 8 4))
    rw [e0, e1]
    exact hX
  | [], _ => trivial
  | _ :: _ :: _, _ => trivial
theorem ax_XCo_64 : ax_XCd 64 := by
  intro vs dl md hp hp' hdl hall hR hX
  match vs, hX with
  | [g, n, k], hX => exact hX
  | [], _ => trivial
  | [_], _ => trivial
  | [_, _], _ => trivial
  | _ :: _ :: _ :: _ :: _, _ => trivial
theorem ax_XCo_65 : ax_XCd 65 := by
  intro vs dl md hp hp' hdl hall hR hX
  match vs, hX with
  | [g, n, k], hX =>
    have hdl : [(2, 6), (2, 3)] = dl := Option.some.inj hdl
    subst hdl
    obtain ⟨x8, hX⟩ := hX
    have e0 : ay_at hp' 8 6 = ay_at hp 8 6 := ay_same1 hR x8 (g := 2) rfl (List.all_eq_true.mp hall (2, 6) (by simp))
    have e1 : ay_at hp' 8 3 = ay_at hp 8 3 := ay_same1 hR x8 (g := 2) rfl (List.all_eq_true.mp hall (2, 3) (by simp))
    refine ⟨ay_ex_same hR x8 (g := 2) rfl, ?_⟩
    show pz_x65 g n k (ay_at hp' 8 6) (ay_at hp' 8 3)
    rw [e0, e1]
    exact hX
  | [], _ => trivial
  | [_], _ => trivial
  | [_, _], _ => trivial
  | _ :: _ :: _ :: _ :: _, _ => trivial
theorem ax_XCo_66 : ax_XCd 66 := by
  intro vs dl md hp hp' hdl hall hR hX
  match vs, hX with
  | [g, n, v], hX => exact hX
  | [], _ => trivial
  | [_], _ => trivial
  | [_, _], _ => trivial
  | _ :: _ :: _ :: _ :: _, _ => trivial
theorem ax_XCo_67 : ax_XCd 67 := by
  intro vs dl md hp hp' hdl hall hR hX
  match vs, hX with
  | [g, n, a], hX => exact hX
  | [], _ => trivial
  | [_], _ => trivial
  | [_, _], _ => trivial
  | _ :: _ :: _ :: _ :: _, _ => trivial
theorem ax_XCo_68 : ax_XCd 68 := fun vs dl md hp hp' _ _ _ _ => trivial
theorem ax_XCo_69 : ax_XCd 69 := fun vs dl md hp hp' _ _ _ _ => trivial
theorem ax_XCo_70 : ax_XCd 70 := by
  intro vs dl md hp hp' hdl hall hR hX
  match vs, hX with
  | [g, n], hX => exact hX
  | [], _ => trivial
  | [_], _ => trivial
  | _ :: _ :: _ :: _, _ => trivial
theorem ax_XCo_71 : ax_XCd 71 := by
  intro vs dl md hp hp' hdl hall hR hX
  match vs, hX with
  | [g, n], hX => exact hX
  | [], _ => trivial
  | [_], _ => trivial
  | _ :: _ :: _ :: _, _ => trivial
theorem ax_XCo_72 : ax_XCd 72 := by
  intro vs dl md hp hp' hdl hall hR hX
  match vs, hX with
  | [g, n], hX => exact hX
  | [], _ => trivial
  | [_], _ => trivial
  | _ :: _ :: _ :: _, _ => trivial
theorem ax_XCo_73 : ax_XCd 73 := by
  intro vs dl md hp hp' hdl hall hR hX
  match vs, hX with
  | [g, n], hX => exact hX
  | [], _ => trivial
  | [_], _ => trivial
  | _ :: _ :: _ :: _, _ => trivial
theorem ax_XCo_74 : ax_XCd 74 := by
  intro vs dl md hp hp' hdl hall hR hX
  match vs, hX with
  | [g, n], hX => exact hX
  | [], _ => trivial
  | [_], _ => trivial
  | _ :: _ :: _ :: _, _ => trivial
theorem ax_XCo_75 : ax_XCd 75 := by
  intro vs dl md hp hp' hdl hall hR hX
  match vs, hX with
  | [g, n], hX => exact hX
  | [], _ => trivial
  | [_], _ => trivial
  | _ :: _ :: _ :: _, _ => trivial
theorem ax_XCo_76 : ax_XCd 76 := by
  intro vs dl md hp hp' hdl hall hR hX
  match vs, hX with
  | [g, n], hX => exact hX
  | [], _ => trivial
  | [_], _ => trivial
  | _ :: _ :: _ :: _, _ => trivial
theorem ax_XCo_77 : ax_XCd 77 := by
  intro vs dl md hp hp' hdl hall hR hX
  match vs, hX with
  | [g, n], hX => exact hX
  | [], _ => trivial
  | [_], _ => trivial
  | _ :: _ :: _ :: _, _ => trivial
theorem ax_XCo_78 : ax_XCd 78 := by
  intro vs dl md hp hp' hdl hall hR hX
  match vs, hX with
  | [g, n], hX => exact hX
  | [], _ => trivial
  | [_], _ => trivial
  | _ :: _ :: _ :: _, _ => trivial
theorem ax_XCo_79 : ax_XCd 79 := by
  intro vs dl md hp hp' hdl hall hR hX
  match vs, hX with
  | [g, n], hX => exact hX
  | [], _ => trivial
  | [_], _ => trivial
  | _ :: _ :: _ :: _, _ => trivial
theorem ax_XCo_80 : ax_XCd 80 := by
  intro vs dl md hp hp' hdl hall hR hX
  match vs, hX with
  | [l, o], hX =>
    have hdl : [(1, 5), (18, 999), (19, 999)] = dl := Option.some.inj hdl
    subst hdl
    obtain ⟨x10, x15, x16, hX⟩ := hX
    have e0 : ay_at hp' 10 5 = ay_at hp 10 5 := ay_same1 hR x10 (g := 1) rfl (List.all_eq_true.mp hall (1, 5) (by simp))
    have e1 : ay_at hp' 15 = ay_at hp 15 := ay_same hR x15 (g := 18) rfl (List.all_eq_true.mp hall (18, 999) (by simp))
    have e2 : ay_at hp' 16 = ay_at hp 16 := ay_same hR x16 (g := 19) rfl (List.all_eq_true.mp hall (19, 999) (by simp))
    refine ⟨ay_ex_same hR x10 (g := 1) rfl, ay_ex_same hR x15 (g := 18) rfl, ay_ex_same hR x16 (g := 19) rfl, ?_⟩
    show py_x80 l o (ay_at hp' 10 5) (ay_at hp' 15) (ay_at hp' 16)
    rw [e0, e1, e2]
    exact hX
  | [], _ => trivial
  | [_], _ => trivial
  | _ :: _ :: _ :: _, _ => trivial
theorem ax_XCo_81 : ax_XCd 81 := by
  intro vs dl md hp hp' hdl hall hR hX
  match vs, hX with
  | [l, o, v], hX =>
    have hdl : [(1, 5), (18, 999), (19, 999)] = dl := Option.some.inj hdl
    subst hdl
    obtain ⟨x10, x15, x16, hX⟩ := hX
    have e0 : ay_at hp' 10 5 = ay_at hp 10 5 := ay_same1 hR x10 (g := 1) rfl (List.all_eq_true.mp hall (1, 5) (by simp))
    have e1 : ay_at hp' 15 = ay_at hp 15 := ay_same hR x15 (g := 18) rfl (List.all_eq_true.mp hall (18, 999) (by simp))
    have e2 : ay_at hp' 16 = ay_at hp 16 := ay_same hR x16 (g := 19) rfl (List.all_eq_true.mp hall (19, 999) (by simp))
    refine ⟨ay_ex_same hR x10 (g := 1) rfl, ay_ex_same hR x15 (g := 18) rfl, ay_ex_same hR x16 (g := 19) rfl, ?_⟩
    show py_x81 l o v (ay_at hp' 10 5) (ay_at hp' 15) (ay_at hp' 16)
    rw [e0, e1, e2]
    exact hX
  | [], _ => trivial
  | [_], _ => trivial
  | [_, _], _ => trivial
  | _ :: _ :: _ :: _ :: _, _ => trivial
theorem ax_XCo_82 : ax_XCd 82 := by
  intro vs dl md hp hp' hdl hall hR hX
  match vs, hX with
  | [g, l], hX => exact hX
  | [], _ => trivial
  | [_], _ => trivial
  | _ :: _ :: _ :: _, _ => trivial
theorem ax_XCo_83 : ax_XCd 83 := fun vs dl md hp hp' _ _ _ _ => trivial
theorem ax_XCo_84 : ax_XCd 84 := fun vs dl md hp hp' _ _ _ _ => trivial
theorem ax_XCo_85 : ax_XCd 85 := fun vs dl md hp hp' _ _ _ _ => trivial
theorem ax_XCo_86 : ax_XCd 86 := fun vs dl md hp hp' _ _ _ _ => trivial
theorem ax_XCo_87 : ax_XCd 87 := fun vs dl md hp hp' _ _ _ _ => trivial
theorem ax_XCo_88 : ax_XCd 88 := fun vs dl md hp hp' _ _ _ _ => trivial
theorem ax_XCo_89 : ax_XCd 89 := fun vs dl md hp hp' _ _ _ _ => trivial
theorem ax_XCo_90 : ax_XCd 90 := by
  intro vs dl md hp hp' hdl hall hR hX
  match vs, hX with
  | [g, n, s], hX => exact hX
  | [], _ => trivial
  | [_], _ => trivial
  | [_, _], _ => trivial
  | _ :: _ :: _ :: _ :: _, _ => trivial
theorem ax_XCo_91 : ax_XCd 91 := by
  intro vs dl md hp hp' hdl hall hR hX
  match vs, hX with
  | [s, l], hX => exact hX
  | [], _ => trivial
  | [_], _ => trivial
  | _ :: _ :: _ :: _, _ => trivial
theorem ax_XCo_92 : ax_XCd 92 := by
  intro vs dl md hp hp' hdl hall hR hX
  match vs, hX with
  | [s, r], hX => exact hX
  | [], _ => trivial
  | [_], _ => trivial
  | _ :: _ :: _ :: _, _ => trivial
theorem ax_XCo_93 : ax_XCd 93 := by
  intro vs dl md hp hp' hdl hall hR hX
  match vs, hX with
  | [r, s], hX => exact hX
  | [], _ => trivial
  | [_], _ => trivial
  | _ :: _ :: _ :: _, _ => trivial
theorem ax_XCo_94 : ax_XCd 94 := by
  intro vs dl md hp hp' hdl hall hR hX
  match vs, hX with
  | [g, n], hX => exact hX
  | [], _ => trivial
  | [_], _ => trivial
  | _ :: _ :: _ :: _, _ => trivial
theorem ax_XCo_95 : ax_XCd 95 := by
  intro vs dl md hp hp' hdl hall hR hX
  match vs, hX with
  | [g, n], hX => exact hX
  | [], _ => trivial
  | [_], _ => trivial
  | _ :: _ :: _ :: _, _ => trivial
theorem ax_XCo_96 : ax_XCd 96 := fun vs dl md hp hp' _ _ _ _ => trivial
theorem ax_XCo_97 : ax_XCd 97 := by
  intro vs dl md hp hp' hdl hall hR hX
  match vs, hX with
  | [n, i], hX => exact hX
  | [], _ => trivial
  | [_], _ => trivial
  | _ :: _ :: _ :: _, _ => trivial
theorem ax_XCo_98 : ax_XCd 98 := by
  intro vs dl md hp hp' hdl hall hR hX
  match vs, hX with
  | [n, m], hX => exact hX
  | [], _ => trivial
  | [_], _ => trivial
  | _ :: _ :: _ :: _, _ => trivial
theorem ax_XCo_99 : ax_XCd 99 := by
  intro vs dl md hp hp' hdl hall hR hX
  match vs, hX with
  | [r, c, s], hX => exact hX
  | [], _ => trivial
  | [_], _ => trivial
  | [_, _], _ => trivial
  | _ :: _ :: _ :: _ :: _, _ => trivial
theorem ax_XCo_100 : ax_XCd 100 := fun vs dl md hp hp' _ _ _ _ => trivial
theorem ax_XCo_101 : ax_XCd 101 := fun vs dl md hp hp' _ _ _ _ => trivial
theorem ax_XCo_102 : ax_XCd 102 := fun vs dl md hp hp' _ _ _ _ => trivial
theorem ax_XCo_103 : ax_XCd 103 := by
  intro vs dl md hp hp' hdl hall hR hX
  match vs, hX with
  | [g, n, m], hX => exact hX
  | [], _ => trivial
  | [_], _ => trivial
  | [_, _], _ => trivial
  | _ :: _ :: _ :: _ :: _, _ => trivial
theorem ax_XCo_104 : ax_XCd 104 := by
  intro vs dl md hp hp' hdl hall hR hX
  match vs, hX with
  | [g, n, v], hX => exact hX
  | [], _ => trivial
  | [_], _ => trivial
  | [_, _], _ => trivial
  | _ :: _ :: _ :: _ :: _, _ => trivial
theorem ax_XCo_105 : ax_XCd 105 := fun vs dl md hp hp' _ _ _ _ => trivial
theorem ax_XCo_106 : ax_XCd 106 := by
  intro vs dl md hp hp' hdl hall hR hX
  match vs, hX with
  | [g, n, o], hX => exact hX
  | [], _ => trivial
  | [_], _ => trivial
  | [_, _], _ => trivial
  | _ :: _ :: _ :: _ :: _, _ => trivial
theorem ax_XCo_107 : ax_XCd 107 := by
  intro vs dl md hp hp' hdl hall hR hX
  match vs, hX with
  | [g, n, o], hX => exact hX
  | [], _ => trivial
  | [_], _ => trivial
  | [_, _], _ => trivial
  | _ :: _ :: _ :: _ :: _, _ => trivial
theorem ax_XCo_108 : ax_XCd 108 := by
  intro vs dl md hp hp' hdl hall hR hX
  match vs, hX with
  | [s, r], hX => exact hX
  | [], _ => trivial
  | [_], _ => trivial
  | _ :: _ :: _ :: _, _ => trivial
theorem ax_XCo_109 : ax_XCd 109 := fun vs dl md hp hp' _ _ _ _ => trivial
theorem ax_XCo_110 : ax_XCd 110 := by
  intro vs dl md hp hp' hdl hall hR hX
  match vs, hX with
  | [g], hX =>
    have hdl : [(1, 0), (1, 1), (1, 2), (1, 3), (1, 4), (2, 9), (2, 11), (2, 10), (2, 3), (2, 4), (14, 999), (15, 999)] = dl := Option.some.inj hdl
    subst hdl
    obtain ⟨x10, x8, x11, x12, hX⟩ := hX
    have e0 : ay_at hp' 10 0 = ay_at hp 10 0 := ay_same1 hR x10 (g := 1) rfl (List.all_eq_true.mp hall (1, 0) (by simp))
    have e1 : ay_at hp' 10 1 = ay_at hp 10 1 := ay_same1 hR x10 (g := 1) rfl (List.all_eq_true.mp hall (1, 1) (by simp))
    have e2 : ay_at hp' 10 2 = ay_at hp 10 2 := ay_same1 hR x10 (g := 1) rfl (List.all_eq_true.mp hall (1, 2) (by simp))
    have e3 : ay_at hp' 10 3 = ay_at hp 10 3 := ay_same1 hR x10 (g := 1) rfl (List.all_eq_true.mp hall (1, 3) (by simp))
    have e4 : ay_at hp' 10 4 = ay_at hp 10 4 := ay_same1 hR x10 (g := 1) rfl (List.all_eq_true.mp hall (1, 4) (by simp))
    have e5 : ay_at hp' 8 9 = ay_at hp 8 9 := ay_same1 hR x8 (g := 2) rfl (List.all_eq_true.mp hall (2, 9) (by simp))
    have e6 : ay_at hp' 8 11 = ay_at hp 8 11 := ay_same1 hR x8 (g := 2) rfl (List.all_eq_true.mp hall (2, 11) (by simp))
    have e7 : ay_at hp' 8 10 = ay_at hp 8 10 := ay_same1 hR x8 (g := 2) rfl (List.all_eq_true.mp hall (2, 10) (by simp))
    have e8 : ay_at hp' 8 3 = ay_at hp 8 3 := ay_same1 hR x8 (g := 2) rfl (List.all_eq_true.mp hall (2, 3) (by simp))
    have e9 : ay_at hp' 8 4 = ay_at hp 8 4 := ay_same1 hR x8 (g := 2) rfl (List.all_eq_true.mp hall (2, 4) (by simp))
    have e10 : ay_at hp' 11 = ay_at hp 11 := ay_same hR x11 (g := 14) rfl (List.all_eq_true.mp hall (14, 999) (by simp))
    have e11 : ay_at hp' 12 = ay_at hp 12 := ay_same hR x12 (g := 15) rfl (List.all_eq_true.mp hall (15, 999) (by simp))
    refine ⟨ay_ex_same hR x10 (g := 1) rfl, ay_ex_same hR x8 (g := 2) rfl, ay_ex_same hR x11 (g := 14) rfl, ay_ex_same hR x12 (g := 15) rfl, ?_⟩
    show pz110 (pz_gt g) (pz_gN g) (ay_ln (ay_at hp' 10 0)) (ay_ln (ay_at hp' 10 1)) (ay_ln (ay_at hp' 10 2)) (ay_ln (ay_at hp' 10 3)) (ay_ln (ay_at hp' 10 4)) (ay_ln (ay_at hp' 8 9)) (ay_ln (ay_at hp' 8 11)) (ay_ln (ay_at hp' 8 10)) (ay_ln (ay_at hp' 8 3)) (ay_ln (ay_at hp' 8 4)) (ay_at hp' 11) (ay_at hp' 12)
    rw [e0, e1, e2, e3, e4, e5, e6, e7, e8, e9, e10, e11]
    exact hX
  | [], _ => trivial
  | _ :: _ :: _, _ => trivial
theorem ax_XCo_111 : ax_XCd 111 := by
  intro vs dl md hp hp' hdl hall hR hX
  match vs, hX with
  | [g, n], hX => exact hX
  | [], _ => trivial
  | [_], _ => trivial
  | _ :: _ :: _ :: _, _ => trivial
theorem ax_XCo_112 : ax_XCd 112 := by
  intro vs dl md hp hp' hdl hall hR hX
  match vs, hX with
  | [g, n, a, b], hX => exact hX
  | [], _ => trivial
  | [_], _ => trivial
  | [_, _], _ => trivial
  | [_, _, _], _ => trivial
  | _ :: _ :: _ :: _ :: _ :: _, _ => trivial
theorem ax_XCo_113 : ax_XCd 113 := by
  intro vs dl md hp hp' hdl hall hR hX
  match vs, hX with
  | [g, n, a, b], hX => exact hX
  | [], _ => trivial
  | [_], _ => trivial
  | [_, _], _ => trivial
  | [_, _, _], _ => trivial
  | _ :: _ :: _ :: _ :: _ :: _, _ => trivial
theorem ax_XCo_114 : ax_XCd 114 := by
  intro vs dl md hp hp' hdl hall hR hX
  match vs, hX with
  | [g, n, a, b, i], hX => exact hX
  | [], _ => trivial
  | [_], _ => trivial
  | [_, _], _ => trivial
  | [_, _, _], _ => trivial
  | [_, _, _, _], _ => trivial
  | _ :: _ :: _ :: _ :: _ :: _ :: _, _ => trivial
theorem ax_XCo_115 : ax_XCd 115 := fun vs dl md hp hp' _ _ _ _ => trivial
theorem ax_XCo_116 : ax_XCd 116 := by
  intro vs dl md hp hp' hdl hall hR hX
  match vs, hX with
  | [g, n, a, b, l], hX =>
    have hdl : [(2, 5), (1, 0), (1, 1), (1, 2), (1, 3), (1, 4), (2, 9), (2, 11), (2, 10), (2, 3), (2, 4), (14, 999), (15, 999)] = dl := Option.some.inj hdl
    subst hdl
    obtain ⟨x8, x10, x11, x12, hX⟩ := hX
    have e0 : ay_at hp' 8 5 = ay_at hp 8 5 := ay_same1 hR x8 (g := 2) rfl (List.all_eq_true.mp hall (2, 5) (by simp))
    have e1 : ay_at hp' 10 0 = ay_at hp 10 0 := ay_same1 hR x10 (g := 1) rfl (List.all_eq_true.mp hall (1, 0) (by simp))
    have e2 : ay_at hp' 10 1 = ay_at hp 10 1 := ay_same1 hR x10 (g := 1) rfl (List.all_eq_true.mp hall (1, 1) (by simp))
    have e3 : ay_at hp' 10 2 = ay_at hp 10 2 := ay_same1 hR x10 (g := 1) rfl (List.all_eq_true.mp hall (1, 2) (by simp))
    have e4 : ay_at hp' 10 3 = ay_at hp 10 3 := ay_same1 hR x10 (g := 1) rfl (List.all_eq_true.mp hall (1, 3) (by simp))
    have e5 : ay_at hp' 10 4 = ay_at hp 10 4 := ay_same1 hR x10 (g := 1) rfl (List.all_eq_true.mp hall (1, 4) (by simp))
    have e6 : ay_at hp' 8 9 = ay_at hp 8 9 := ay_same1 hR x8 (g := 2) rfl (List.all_eq_true.mp hall (2, 9) (by simp))
    have e7 : ay_at hp' 8 11 = ay_at hp 8 11 := ay_same1 hR x8 (g := 2) rfl (List.all_eq_true.mp hall (2, 11) (by simp))
    have e8 : ay_at hp' 8 10 = ay_at hp 8 10 := ay_same1 hR x8 (g := 2) rfl (List.all_eq_true.mp hall (2, 10) (by simp))
    have e9 : ay_at hp' 8 3 = ay_at hp 8 3 := ay_same1 hR x8 (g := 2) rfl (List.all_eq_true.mp hall (2, 3) (by simp))
    have e10 : ay_at hp' 8 4 = ay_at hp 8 4 := ay_same1 hR x8 (g := 2) rfl (List.all_eq_true.mp hall (2, 4) (by simp))
    have e11 : ay_at hp' 11 = ay_at hp 11 := ay_same hR x11 (g := 14) rfl (List.all_eq_true.mp hall (14, 999) (by simp))
    have e12 : ay_at hp' 12 = ay_at hp 12 := ay_same hR x12 (g := 15) rfl (List.all_eq_true.mp hall (15, 999) (by simp))
    refine ⟨ay_ex_same hR x8 (g := 2) rfl, ay_ex_same hR x10 (g := 1) rfl, ay_ex_same hR x11 (g := 14) rfl, ay_ex_same hR x12 (g := 15) rfl, ?_⟩
    show pz_xal 1 g n a b l (ay_at hp' 8 5) (ay_at hp' 10 0) (ay_at hp' 10 1) (ay_at hp' 10 2) (ay_at hp' 10 3) (ay_at hp' 10 4) (ay_at hp' 8 9) (ay_at hp' 8 11) (ay_at hp' 8 10) (ay_at hp' 8 3) (ay_at hp' 8 4) (ay_at hp' 11) (ay_at hp' 12)
    rw [e0, e1, e2, e3, e4, e5, e6, e7, e8, e9, e10, e11, e12]
    exact hX
  | [], _ => trivial
  | [_], _ => trivial
  | [_, _], _ => trivial
  | [_, _, _], _ => trivial
  | [_, _, _, _], _ => trivial
  | _ :: _ :: _ :: _ :: _ :: _ :: _, _ => trivial
theorem ax_XCo_117 : ax_XCd 117 := by
  intro vs dl md hp hp' hdl hall hR hX
  match vs, hX with
  | [g, n, a, b, l], hX =>
    have hdl : [(2, 5), (1, 0), (1, 1), (1, 2), (1, 3), (1, 4), (2, 9), (2, 11), (2, 10), (2, 3), (2, 4), (14, 999), (15, 999)] = dl := Option.some.inj hdl
    subst hdl
    obtain ⟨x8, x10, x11, x12, hX⟩ := hX
    have e0 : ay_at hp' 8 5 = ay_at hp 8 5 := ay_same1 hR x8 (g := 2) rfl (List.all_eq_true.mp hall (2, 5) (by simp))
    have e1 : ay_at hp' 10 0 = ay_at hp 10 0 := ay_same1 hR x10 (g := 1) rfl (List.all_eq_true.mp hall (1, 0) (by simp))
    have e2 : ay_at hp' 10 1 = ay_at hp 10 1 := ay_same1 hR x10 (g := 1) rfl (List.all_eq_true.mp hall (1, 1) (by simp))
    have e3 : ay_at hp' 10 2 = ay_at hp 10 2 := ay_same1 hR x10 (g := 1) rfl (List.all_eq_true.mp hall (1, 2) (by simp))
    have e4 : ay_at hp' 10 3 = ay_at hp 10 3 := ay_same1 hR x10 (g := 1) rfl (List.all_eq_true.mp hall (1, 3) (by simp))
    have e5 : ay_at hp' 10 4 = ay_at hp 10 4 := ay_same1 hR x10 (g := 1) rfl (List.all_eq_true.mp hall (1, 4) (by simp))
    have e6 : ay_at hp' 8 9 = ay_at hp 8 9 := ay_same1 hR x8 (g := 2) rfl (List.all_eq_true.mp hall (2, 9) (by simp))
    have e7 : ay_at hp' 8 11 = ay_at hp 8 11 := ay_same1 hR x8 (g := 2) rfl (List.all_eq_true.mp hall (2, 11) (by simp))
    have e8 : ay_at hp' 8 10 = ay_at hp 8 10 := ay_same1 hR x8 (g := 2) rfl (List.all_eq_true.mp hall (2, 10) (by simp))
    have e9 : ay_at hp' 8 3 = ay_at hp 8 3 := ay_same1 hR x8 (g := 2) rfl (List.all_eq_true.mp hall (2, 3) (by simp))
    have e10 : ay_at hp' 8 4 = ay_at hp 8 4 := ay_same1 hR x8 (g := 2) rfl (List.all_eq_true.mp hall (2, 4) (by simp))
    have e11 : ay_at hp' 11 = ay_at hp 11 := ay_same hR x11 (g := 14) rfl (List.all_eq_true.mp hall (14, 999) (by simp))
    have e12 : ay_at hp' 12 = ay_at hp 12 := ay_same hR x12 (g := 15) rfl (List.all_eq_true.mp hall (15, 999) (by simp))
    refine ⟨ay_ex_same hR x8 (g := 2) rfl, ay_ex_same hR x10 (g := 1) rfl, ay_ex_same hR x11 (g := 14) rfl, ay_ex_same hR x12 (g := 15) rfl, ?_⟩
    show pz_xal 2 g n a b l (ay_at hp' 8 5) (ay_at hp' 10 0) (ay_at hp' 10 1) (ay_at hp' 10 2) (ay_at hp' 10 3) (ay_at hp' 10 4) (ay_at hp' 8 9) (ay_at hp' 8 11) (ay_at hp' 8 10) (ay_at hp' 8 3) (ay_at hp' 8 4) (ay_at hp' 11) (ay_at hp' 12)
    rw [e0, e1, e2, e3, e4, e5, e6, e7, e8, e9, e10, e11, e12]
    exact hX
  | [], _ => trivial
  | [_], _ => trivial
  | [_, _], _ => trivial
  | [_, _, _], _ => trivial
  | [_, _, _, _], _ => trivial
  | _ :: _ :: _ :: _ :: _ :: _ :: _, _ => trivial
theorem ax_XCo_118 : ax_XCd 118 := by
  intro vs dl md hp hp' hdl hall hR hX
  match vs, hX with
  | [g, n, a, b, l], hX =>
    have hdl : [(2, 5), (1, 0), (1, 1), (1, 2), (1, 3), (1, 4), (2, 9), (2, 11), (2, 10), (2, 3), (2, 4), (14, 999), (15, 999)] = dl := Option.some.inj hdl
    subst hdl
    obtain ⟨x8, x10, x11, x12, hX⟩ := hX
    have e0 : ay_at hp' 8 5 = ay_at hp 8 5 := ay_same1 hR x8 (g := 2) rfl (List.all_eq_true.mp hall (2, 5) (by simp))
    have e1 : ay_at hp' 10 0 = ay_at hp 10 0 := ay_same1 hR x10 (g := 1) rfl (List.all_eq_true.mp hall (1, 0) (by simp))
    have e2 : ay_at hp' 10 1 = ay_at hp 10 1 := ay_same1 hR x10 (g := 1) rfl (List.all_eq_true.mp hall (1, 1) (by simp))
    have e3 : ay_at hp' 10 2 = ay_at hp 10 2 := ay_same1 hR x10 (g := 1) rfl (List.all_eq_true.mp hall (1, 2) (by simp))
    have e4 : ay_at hp' 10 3 = ay_at hp 10 3 := ay_same1 hR x10 (g := 1) rfl (List.all_eq_true.mp hall (1, 3) (by simp))
    have e5 : ay_at hp' 10 4 = ay_at hp 10 4 := ay_same1 hR x10 (g := 1) rfl (List.all_eq_true.mp hall (1, 4) (by simp))
    have e6 : ay_at hp' 8 9 = ay_at hp 8 9 := ay_same1 hR x8 (g := 2) rfl (List.all_eq_true.mp hall (2, 9) (by simp))
    have e7 : ay_at hp' 8 11 = ay_at hp 8 11 := ay_same1 hR x8 (g := 2) rfl (List.all_eq_true.mp hall (2, 11) (by simp))
    have e8 : ay_at hp' 8 10 = ay_at hp 8 10 := ay_same1 hR x8 (g := 2) rfl (List.all_eq_true.mp hall (2, 10) (by simp))
    have e9 : ay_at hp' 8 3 = ay_at hp 8 3 := ay_same1 hR x8 (g := 2) rfl (List.all_eq_true.mp hall (2, 3) (by simp))
    have e10 : ay_at hp' 8 4 = ay_at hp 8 4 := ay_same1 hR x8 (g := 2) rfl (List.all_eq_true.mp hall (2, 4) (by simp))
    have e11 : ay_at hp' 11 = ay_at hp 11 := ay_same hR x11 (g := 14) rfl (List.all_eq_true.mp hall (14, 999) (by simp))
    have e12 : ay_at hp' 12 = ay_at hp 12 := ay_same hR x12 (g := 15) rfl (List.all_eq_true.mp hall (15, 999) (by simp))
    refine ⟨ay_ex_same hR x8 (g := 2) rfl, ay_ex_same hR x10 (g := 1) rfl, ay_ex_same hR x11 (g := 14) rfl, ay_ex_same hR x12 (g := 15) rfl, ?_⟩
    show pz_xal 3 g n a b l (ay_at hp' 8 5) (ay_at hp' 10 0) (ay_at hp' 10 1) (ay_at hp' 10 2) (ay_at hp' 10 3) (ay_at hp' 10 4) (ay_at hp' 8 9) (ay_at hp' 8 11) (ay_at hp' 8 10) (ay_at hp' 8 3) (ay_at hp' 8 4) (ay_at hp' 11) (ay_at hp' 12)
    rw [e0, e1, e2, e3, e4, e5, e6, e7, e8, e9, e10, e11, e12]
    exact hX
  | [], _ => trivial
  | [_], _ => trivial
  | [_, _], _ => trivial
  | [_, _, _], _ => trivial
  | [_, _, _, _], _ => trivial
  | _ :: _ :: _ :: _ :: _ :: _ :: _, _ => trivial
theorem ax_XCo_119 : ax_XCd 119 := by
  intro vs dl md hp hp' hdl hall hR hX
  match vs, hX with
  | [g, n, a, b, l], hX =>
    have hdl : [(2, 5), (1, 0), (1, 1), (1, 2), (1, 3), (1, 4), (2, 9), (2, 11), (2, 10), (2, 3), (2, 4), (14, 999), (15, 999)] = dl := Option.some.inj hdl
    subst hdl
    obtain ⟨x8, x10, x11, x12, hX⟩ := hX
    have e0 : ay_at hp' 8 5 = ay_at hp 8 5 := ay_same1 hR x8 (g := 2) rfl (List.all_eq_true.mp hall (2, 5) (by simp))
    have e1 : ay_at hp' 10 0 = ay_at hp 10 0 := ay_same1 hR x10 (g := 1) rfl (List.all_eq_true.mp hall (1, 0) (by simp))
    have e2 : ay_at hp' 10 1 = ay_at hp 10 1 := ay_same1 hR x10 (g := 1) rfl (List.all_eq_true.mp hall (1, 1) (by simp))
    have e3 : ay_at hp' 10 2 = ay_at hp 10 2 := ay_same1 hR x10 (g := 1) rfl (List.all_eq_true.mp hall (1, 2) (by simp))
    have e4 : ay_at hp' 10 3 = ay_at hp 10 3 := ay_same1 hR x10 (g := 1) rfl (List.all_eq_true.mp hall (1, 3) (by simp))
    have e5 : ay_at hp' 10 4 = ay_at hp 10 4 := ay_same1 hR x10 (g := 1) rfl (List.all_eq_true.mp hall (1, 4) (by simp))
    have e6 : ay_at hp' 8 9 = ay_at hp 8 9 := ay_same1 hR x8 (g := 2) rfl (List.all_eq_true.mp hall (2, 9) (by simp))
    have e7 : ay_at hp' 8 11 = ay_at hp 8 11 := ay_same1 hR x8 (g := 2) rfl (List.all_eq_true.mp hall (2, 11) (by simp))
    have e8 : ay_at hp' 8 10 = ay_at hp 8 10 := ay_same1 hR x8 (g := 2) rfl (List.all_eq_true.mp hall (2, 10) (by simp))
    have e9 : ay_at hp' 8 3 = ay_at hp 8 3 := ay_same1 hR x8 (g := 2) rfl (List.all_eq_true.mp hall (2, 3) (by simp))
    have e10 : ay_at hp' 8 4 = ay_at hp 8 4 := ay_same1 hR x8 (g := 2) rfl (List.all_eq_true.mp hall (2, 4) (by simp))
    have e11 : ay_at hp' 11 = ay_at hp 11 := ay_same hR x11 (g := 14) rfl (List.all_eq_true.mp hall (14, 999) (by simp))
    have e12 : ay_at hp' 12 = ay_at hp 12 := ay_same hR x12 (g := 15) rfl (List.all_eq_true.mp hall (15, 999) (by simp))
    refine ⟨ay_ex_same hR x8 (g := 2) rfl, ay_ex_same hR x10 (g := 1) rfl, ay_ex_same hR x11 (g := 14) rfl, ay_ex_same hR x12 (g := 15) rfl, ?_⟩
    show pz_xal 4 g n a b l (ay_at hp' 8 5) (ay_at hp' 10 0) (ay_at hp' 10 1) (ay_at hp' 10 2) (ay_at hp' 10 3) (ay_at hp' 10 4) (ay_at hp' 8 9) (ay_at hp' 8 11) (ay_at hp' 8 10) (ay_at hp' 8 3) (ay_at hp' 8 4) (ay_at hp' 11) (ay_at hp' 12)
    rw [e0, e1, e2, e3, e4, e5, e6, e7, e8, e9, e10, e11, e12]
    exact hX
  | [], _ => trivial
  | [_], _ => trivial
  | [_, _], _ => trivial
  | [_, _, _], _ => trivial
  | [_, _, _, _], _ => trivial
  | _ :: _ :: _ :: _ :: _ :: _ :: _, _ => trivial
theorem ax_XCo_120 : ax_XCd 120 := fun vs dl md hp hp' _ _ _ _ => trivial
theorem ax_XCo_121 : ax_XCd 121 := fun vs dl md hp hp' _ _ _ _ => trivial
theorem ax_XCo_122 : ax_XCd 122 := by
  intro vs dl md hp hp' hdl hall hR hX
  match vs, hX with
  | [g, n], hX =>
    have hdl : [(2, 9)] = dl := Option.some.inj hdl
    subst hdl
    obtain ⟨x8, hX⟩ := hX
    have e0 : ay_at hp' 8 9 = ay_at hp 8 9 := ay_same1 hR x8 (g := 2) rfl (List.all_eq_true.mp hall (2, 9) (by simp))
    refine ⟨ay_ex_same hR x8 (g := 2) rfl, ?_⟩
    show (pz61 (pz_gt g) (pz_gN g) (n / 4) 2 ∨ ay_ln (ay_at hp' 8 9) = 1)
    rw [e0]
    exact hX
  | [], _ => trivial
  | [_], _ => trivial
  | _ :: _ :: _ :: _, _ => trivial
theorem ax_XCo_123 : ax_XCd 123 := by
  intro vs dl md hp hp' hdl hall hR hX
  match vs, hX with
  | [g, n], hX =>
    have hdl : [(2, 11)] = dl := Option.some.inj hdl
    subst hdl
    obtain ⟨x8, hX⟩ := hX
    have e0 : ay_at hp' 8 11 = ay_at hp 8 11 := ay_same1 hR x8 (g := 2) rfl (List.all_eq_true.mp hall (2, 11) (by simp))
    refine ⟨ay_ex_same hR x8 (g := 2) rfl, ?_⟩
    show (pz61 (pz_gt g) (pz_gN g) (n / 4) 3 ∨ ay_ln (ay_at hp' 8 11) = 1)
    rw [e0]
    exact hX
  | [], _ => trivial
  | [_], _ => trivial
  | _ :: _ :: _ :: _, _ => trivial
theorem ax_XCo_124 : ax_XCd 124 := by
  intro vs dl md hp hp' hdl hall hR hX
  match vs, hX with
  | [g, n], hX =>
    have hdl : [(2, 10)] = dl := Option.some.inj hdl
    subst hdl
    obtain ⟨x8, hX⟩ := hX
    have e0 : ay_at hp' 8 10 = ay_at hp 8 10 := ay_same1 hR x8 (g := 2) rfl (List.all_eq_true.mp hall (2, 10) (by simp))
    refine ⟨ay_ex_same hR x8 (g := 2) rfl, ?_⟩
    show (pz61 (pz_gt g) (pz_gN g) (n / 4) 4 ∨ ay_ln (ay_at hp' 8 10) = 1)
    rw [e0]
    exact hX
  | [], _ => trivial
  | [_], _ => trivial
  | _ :: _ :: _ :: _, _ => trivial
theorem ax_XCo_125 : ax_XCd 125 := fun vs dl md hp hp' _ _ _ _ => trivial
theorem ax_XCo_126 : ax_XCd 126 := by
  intro vs dl md hp hp' hdl hall hR hX
  match vs, hX with
  | [g, v], hX => exact hX
  | [], _ => trivial
  | [_], _ => trivial
  | _ :: _ :: _ :: _, _ => trivial
theorem ax_XCo_127 : ax_XCd 127 := by
  intro vs dl md hp hp' hdl hall hR hX
  match vs, hX with
  | [], hX =>
    have hdl : [(2, 3), (2, 4)] = dl := Option.some.inj hdl
    subst hdl
    obtain ⟨x8, hX⟩ := hX
    have e0 : ay_at hp' 8 3 = ay_at hp 8 3 := ay_same1 hR x8 (g := 2) rfl (List.all_eq_true.mp hall (2, 3) (by simp))
    have e1 : ay_at hp' 8 4 = ay_at hp 8 4 := ay_same1 hR x8 (g := 2) rfl (List.all_eq_true.mp hall (2, 4) (by simp))
    refine ⟨ay_ex_same hR x8 (g := 2) rfl, ?_⟩
    show (ay_ln (ay_at hp' 8 3) = 0 ∧ ay_ln (ay_at hp' 8 4) = 4294967295)
    rw [e0, e1]
    exact hX
  | _ :: _, _ => trivial
theorem ax_XCa40 : ∀ x, x < 40 → ax_XCd x := ax_upto (ax_upto (ax_upto (ax_upto (ax_upto (ax_upto (ax_upto (ax_upto (ax_upto (ax_upto (ax_upto (ax_upto (ax_upto (ax_upto (ax_upto (ax_upto (ax_upto (ax_upto (ax_upto (ax_upto (ax_upto (ax_upto (ax_upto (ax_upto (ax_upto (ax_upto (ax_upto (ax_upto (ax_upto (ax_upto (ax_upto (ax_upto (ax_upto (ax_upto (ax_upto (ax_upto (ax_upto (ax_upto (ax_upto (ax_upto ax_upto0 ax_XCo_0) ax_XCo_1) ax_XCo_2) ax_XCo_3) ax_XCo_4) ax_XCo_5) ax_XCo_6) ax_XCo_7) ax_XCo_8) ax_XCo_9) ax_XCo_10) ax_XCo_11) ax_XCo_12) ax_XCo_13) ax_XCo_14) ax_XCo_15) ax_XCo_16) ax_XCo_17) ax_XCo_18) ax_XCo_19) ax_XCo_20) ax_XCo_21) ax_XCo_22) ax_XCo_23) ax_XCo_24) ax_XCo_25) ax_XCo_26) ax_XCo_27) ax_XCo_28) ax_XCo_29) ax_XCo_30) ax_XCo_31) ax_XCo_32) ax_XCo_33) ax_XCo_34) ax_XCo_35) ax_XCo_36) ax_XCo_37) ax_XCo_38) ax_XCo_39
theorem ax_XCa80 : ∀ x, x < 80 → ax_XCd x := ax_upto (ax_upto (ax_upto (ax_upto (ax_upto (ax_upto (ax_upto (ax_upto (ax_upto (ax_upto (ax_upto (ax_upto (ax_upto (ax_upto (ax_upto (ax_upto (ax_upto (ax_upto (ax_upto (ax_upto (ax_upto (ax_upto (ax_upto (ax_upto (ax_upto (ax_upto (ax_upto (ax_upto (ax_upto (ax_upto (ax_upto (ax_upto (ax_upto (ax_upto (ax_upto (ax_upto (ax_upto (ax_upto (ax_upto (ax_upto ax_XCa40 ax_XCo_40) ax_XCo_41) ax_XCo_42) ax_XCo_43) ax_XCo_44) ax_XCo_45) ax_XCo_46) ax_XCo_47) ax_XCo_48) ax_XCo_49) ax_XCo_50) ax_XCo_51) ax_XCo_52) ax_XCo_53) ax_XCo_54) ax_XCo_55) ax_XCo_56) ax_XCo_57) ax_XCo_58) ax_XCo_59) ax_XCo_60) ax_XCo_61) ax_XCo_62) ax_XCo_63) ax_XCo_64) ax_XCo_65) ax_XCo_66) ax_XCo_67) ax_XCo_68) ax_XCo_69) ax_XCo_70) ax_XCo_71) ax_XCo_72) ax_XCo_73) ax_XCo_74) ax_XCo_75) ax_XCo_76) ax_XCo_77) ax_XCo_78) ax_XCo_79
theorem ax_XCa120 : ∀ x, x < 120 → ax_XCd x := ax_upto (ax_upto (ax_upto (ax_upto (ax_upto (ax_upto (ax_upto (ax_upto (ax_upto (ax_upto (ax_upto (ax_upto (ax_upto (ax_upto (ax_upto (ax_upto (ax_upto (ax_upto (ax_upto (ax_upto (ax_upto (ax_upto (ax_upto (ax_upto (ax_upto (ax_upto (ax_upto (ax_upto (ax_upto (ax_upto (ax_upto (ax_upto (ax_upto (ax_upto (ax_upto (ax_upto (ax_upto (ax_upto (ax_upto (ax_upto ax_XCa80 ax_XCo_80) ax_XCo_81) ax_XCo_82) ax_XCo_83) ax_XCo_84) ax_XCo_85) ax_XCo_86) ax_XCo_87) ax_XCo_88) ax_XCo_89) ax_XCo_90) ax_XCo_91) ax_XCo_92) ax_XCo_93) ax_XCo_94) ax_XCo_95) ax_XCo_96) ax_XCo_97) ax_XCo_98) ax_XCo_99) ax_XCo_100) ax_XCo_101) ax_XCo_102) ax_XCo_103) ax_XCo_104) ax_XCo_105) ax_XCo_106) ax_XCo_107) ax_XCo_108) ax_XCo_109) ax_XCo_110) ax_XCo_111) ax_XCo_112) ax_XCo_113) ax_XCo_114) ax_XCo_115) ax_XCo_116) ax_XCo_117) ax_XCo_118) ax_XCo_119
theorem ax_XCa128 : ∀ x, x < 128 → ax_XCd x := ax_upto (ax_upto (ax_upto (ax_upto (ax_upto (ax_upto (ax_upto (ax_upto ax_XCa120 ax_XCo_120) ax_XCo_121) ax_XCo_122) ax_XCo_123) ax_XCo_124) ax_XCo_125) ax_XCo_126) ax_XCo_127
theorem ax_XC_ok : ax_XD ax_wC ax_XC := fun x vs dl md hp hp' hdl => ax_XCa128 x (Nat.lt_of_lt_of_eq (List.getElem?_eq_some_iff.mp hdl).1 (show ax_wC.2.2.length = 128 by decide +kernel)) vs dl md hp hp' hdl
/-- done or undone is written -/
theorem ax_hsw {hp : rx_H} {j k k' v c d : Nat} (h256 : hp.1 ≤ 256) (h : ax_C0 k hp) {kk m : Nat} {l : List Nat} (f1 : rx_hg hp 49 = some (kk, m, l)) (f2 : l[j]? = some (4 * d)) (hv : v = 4 * c) (hj : (j = 2 ∨ j = 3)) (hs : ∀ u, d + u ≤ k / 4 → c + u ≤ k' / 4) : ax_C0 k' (ax_upd hp 206 (4 * j) v) := by
  obtain ⟨kk', n, d0, u0, f, e1, e2, e3, e4⟩ := h
  rw [f1] at e1
  cases e1
  have hg := ax_hg_upd (a := 206) (i := 4 * j) (v := v) h256 (show rx_hg hp (206 / 4 - 2) = _ from f1) 49
  rw [if_pos (show 49 = 206 / 4 - 2 from rfl), Nat.mul_div_cancel_left j (by decide)] at hg
  have hl : j < l.length := (List.getElem?_eq_some_iff.mp f2).1
  rcases hj with rfl | rfl
  · rw [e2] at f2
    have : d0 = d := by have := Option.some.inj f2; omega
    subst this
    exact ⟨_, _, c, u0, _, hg, by rw [List.getElem?_set_self hl, hv], by rw [List.getElem?_set_ne (by decide)]; exact e3, hs u0 e4⟩
  · rw [e3] at f2
    have : u0 = d := by have := Option.some.inj f2; omega
    subst this
    exact ⟨_, _, d0, c, _, hg, by rw [List.getElem?_set_ne (by decide)]; exact e2, by rw [List.getElem?_set_self hl, hv], by have := hs d0 (by omega); omega⟩
theorem axq_hsBd : ax_RO ax_wC ax_XC axu_hsBd := by
  intro ρ hp hE hT
  have x0 : ax_C0 80 hp := (ax_XF_lt (x := 0) (Nat.le_of_ble_eq_true rfl)).mp (ax_gx hE (0, [80]) ax_m1)
  obtain ⟨a, b, c, ha, hb, hc, la, lb, lc, hs⟩ := ax_gs hE 3 4 7 (by decide)
  obtain ⟨k, m, l, f1, f2⟩ := ax_gF hE 206 8 7 49 2 (ρ 1) (by decide) (by rw [ax_vl_c (by decide)]) (by rw [ax_vl_c (by decide)]) rfl
  obtain ⟨d, hd, d1, d2, d3⟩ := ax_gi hE 1 2147483649 2147483668 (by decide) rfl
  have hc' : ρ 1 = 4 * c := hc
  have hdc : d = c := by omega
  subst hdc
  have hb' : b = 1 := by have : (4 : Nat) = 4 * b := hb; omega
  subst hb'
  obtain ⟨p1, p2⟩ := ax_bi_pos lc (by omega)
  have had : d = a + 1 := by rw [p2, ax_bi_def, ax_bi_def] at hs; rw [p2] at d2 d3; omega
  refine ⟨(fun x hx => by cases hx), _, List.mem_cons_self, ρ, fun _ _ => rfl, ax_px hE rfl (fun x hx => ?_)⟩
  cases List.mem_singleton.mp hx
  show ax_XF ax_XC (500 + 0) [206, 8, ρ 0, 76] hp
  exact (ax_XF_wr (x := 0) (Nat.le_of_ble_eq_true rfl)).mpr (ax_hsw hT.1 x0 f1 (by rw [← hd]; exact f2) ha (Or.inl rfl) (fun u hu => by show _ ≤ 19; replace hu : _ ≤ 20 := hu; omega))
theorem axq_hsBu : ax_RO ax_wC ax_XC axu_hsBu := by
  intro ρ hp hE hT
  have x0 : ax_C0 76 hp := (ax_XF_lt (x := 0) (Nat.le_of_ble_eq_true rfl)).mp (ax_gx hE (0, [76]) ax_m1)
  obtain ⟨a, b, c, ha, hb, hc, la, lb, lc, hs⟩ := ax_gs hE 7 4 3 (by decide)
  obtain ⟨k, m, l, f1, f2⟩ := ax_gF hE 206 12 7 49 3 (ρ 1) (by decide) (by rw [ax_vl_c (by decide)]) (by rw [ax_vl_c (by decide)]) rfl
  obtain ⟨d, hd, d1, d2, d3⟩ := ax_gi hE 1 2147483648 2147483668 (by decide) rfl
  have ha' : ρ 1 = 4 * a := ha
  have hda : d = a := by omega
  subst hda
  have hb' : b = 1 := by have : (4 : Nat) = 4 * b := hb; omega
  obtain ⟨p1, p2⟩ := ax_bi_pos la d2
  have hcd := ax_sum1 hb' p1 lc hs
  have hu20 : d ≤ 19 := by
    obtain ⟨kk', n, d0, u0, f, e1, e2, e3, e4⟩ := x0
    rw [f1] at e1
    cases e1
    rw [e3] at f2
    have := Option.some.inj f2
    replace e4 : d0 + u0 ≤ 19 := e4
    omega
  refine ⟨fun x hx => ?_, _, List.mem_cons_self, ρ, fun _ _ => rfl, ax_px hE rfl (fun x hx => ?_)⟩
  · cases List.mem_singleton.mp hx
    have h0 : ρ 0 = 4 * c := hc
    show 2147483648 ≤ rx_bi (ρ 0 / 4) ∧ rx_bi (ρ 0 / 4) ≤ 2147483668
    rw [h0, Nat.mul_div_cancel_left c (by decide), ax_bi_nat (by omega)]
    omega
  · cases List.mem_singleton.mp hx
    show ax_XF ax_XC (500 + 0) [206, 12, ρ 0, 80] hp
    exact (ax_XF_wr (x := 0) (Nat.le_of_ble_eq_true rfl)).mpr (ax_hsw hT.1 x0 f1 (by rw [← hd]; exact f2) hc (Or.inr rfl) (fun u hu => by show _ ≤ 20; replace hu : _ ≤ 19 := hu; omega))
theorem axq_hsOd : ax_RO ax_wC ax_XC axu_hsOd := by
  intro ρ hp hE hT
  have x0 : ax_C0 80 hp := (ax_XF_lt (x := 0) (Nat.le_of_ble_eq_true rfl)).mp (ax_gx hE (0, [80]) ax_m2)
  obtain ⟨a, b, c, ha, hb, hc, la, lb, lc, hs⟩ := ax_gs hE 7 4 3 (by decide)
  obtain ⟨k, m, l, f1, f2⟩ := ax_gF hE 206 8 7 49 2 (ρ 1) (by decide) (by rw [ax_vl_c (by decide)]) (by rw [ax_vl_c (by decide)]) rfl
  obtain ⟨k', m', l', g1, g2⟩ := ax_gF hE 206 12 11 49 3 (ρ 2) (by decide) (by rw [ax_vl_c (by decide)]) (by rw [ax_vl_c (by decide)]) rfl
  obtain ⟨d, hd, d1, d2, d3⟩ := ax_gi hE 1 2147483648 2147483668 (by decide) rfl
  obtain ⟨u, hu, u1, u2, u3⟩ := ax_gi hE 2 2147483649 2147483668 (by decide) rfl
  have ha' : ρ 1 = 4 * a := ha
  have hda : d = a := by omega
  subst hda
  have hb' : b = 1 := by have : (4 : Nat) = 4 * b := hb; omega
  obtain ⟨p1, p2⟩ := ax_bi_pos la d2
  obtain ⟨v1, v2⟩ := ax_bi_pos u1 (by omega)
  have hcd := ax_sum1 hb' p1 lc hs
  have hd19 : d ≤ 19 := by
    obtain ⟨kk', n, d0, u0, f, e1, e2, e3, e4⟩ := x0
    rw [f1] at e1 g1
    cases e1
    cases g1
    rw [e2] at f2
    rw [e3] at g2
    have := Option.some.inj f2
    have := Option.some.inj g2
    replace e4 : d0 + u0 ≤ 20 := e4
    omega
  refine ⟨fun x hx => ?_, _, List.mem_cons_self, ρ, fun _ _ => rfl, ax_px hE rfl (fun x hx => ?_)⟩
  · cases List.mem_singleton.mp hx
    have h0 : ρ 0 = 4 * c := hc
    show 2147483648 ≤ rx_bi (ρ 0 / 4) ∧ rx_bi (ρ 0 / 4) ≤ 2147483668
    rw [h0, Nat.mul_div_cancel_left c (by decide), ax_bi_nat (by omega)]
    omega
  · cases List.mem_singleton.mp hx
    show ax_XF ax_XC (500 + 0) [206, 8, ρ 0, 84] hp
    exact (ax_XF_wr (x := 0) (Nat.le_of_ble_eq_true rfl)).mpr (ax_hsw hT.1 x0 f1 (by rw [← hd]; exact f2) hc (Or.inl rfl) (fun u hu => by show _ ≤ 21; replace hu : _ ≤ 20 := hu; omega))
theorem axq_hsOu : ax_RO ax_wC ax_XC axu_hsOu := by
  intro ρ hp hE hT
  have x0 : ax_C0 84 hp := (ax_XF_lt (x := 0) (Nat.le_of_ble_eq_true rfl)).mp (ax_gx hE (0, [84]) ax_m1)
  obtain ⟨a, b, c, ha, hb, hc, la, lb, lc, hs⟩ := ax_gs hE 3 4 7 (by decide)
  obtain ⟨k, m, l, f1, f2⟩ := ax_gF hE 206 12 7 49 3 (ρ 1) (by decide) (by rw [ax_vl_c (by decide)]) (by rw [ax_vl_c (by decide)]) rfl
  obtain ⟨d, hd, d1, d2, d3⟩ := ax_gi hE 1 2147483649 2147483668 (by decide) rfl
  have hc' : ρ 1 = 4 * c := hc
  have hdc : d = c := by omega
  subst hdc
  have hb' : b = 1 := by have : (4 : Nat) = 4 * b := hb; omega
  subst hb'
  obtain ⟨p1, p2⟩ := ax_bi_pos lc (by omega)
  have had : d = a + 1 := by rw [p2, ax_bi_def, ax_bi_def] at hs; rw [p2] at d2 d3; omega
  refine ⟨(fun x hx => by cases hx), _, List.mem_cons_self, ρ, fun _ _ => rfl, ax_px hE rfl (fun x hx => ?_)⟩
  cases List.mem_singleton.mp hx
  show ax_XF ax_XC (500 + 0) [206, 12, ρ 0, 80] hp
  exact (ax_XF_wr (x := 0) (Nat.le_of_ble_eq_true rfl)).mpr (ax_hsw hT.1 x0 f1 (by rw [← hd]; exact f2) ha (Or.inr rfl) (fun u hu => by show _ ≤ 20; replace hu : _ ≤ 21 := hu; omega))
/-- undone is 0 -/
theorem ax_hs0 {hp : rx_H} {d : Nat} (hT : ax_HT ax_wC hp) {kk m : Nat} {l : List Nat} (f1 : rx_hg hp 49 = some (kk, m, l)) (f2 : l[2]? = some (4 * d)) (hd : d ≤ 20) : ax_C0 80 (ax_upd hp 206 12 0) := by
  obtain ⟨k', n', tl, f, b1, b2, b3, b4⟩ := hT.2 49 9 rfl
  rw [f1] at b2
  cases b2
  have hg := ax_hg_upd (a := 206) (i := 12) (v := 0) hT.1 (show rx_hg hp (206 / 4 - 2) = _ from f1) 49
  rw [if_pos (show 49 = 206 / 4 - 2 from rfl)] at hg
  have hn : l.length = 4 := by
    rw [b3]
    have e : ax_wC.2.1[9]? = some (kk, m, tl) := b1
    have e2 : (ax_wC.2.1[9]?).map (fun z => z.2.1) = some 4 := rfl
    rw [e] at e2
    exact Option.some.inj e2
  exact ⟨_, _, d, 0, _, hg, by rw [List.getElem?_set_ne (by decide)]; exact f2, List.getElem?_set_self (by rw [hn]; decide), by show d + 0 ≤ 20; omega⟩
theorem axq_hsK : ax_RO ax_wC ax_XC axu_hsK := by
  intro ρ hp hE hT
  obtain ⟨k, m, l, f1, f2⟩ := ax_gF hE 206 8 3 49 2 (ρ 0) (by decide) (by rw [ax_vl_c (by decide)]) (by rw [ax_vl_c (by decide)]) rfl
  obtain ⟨d, hd, d1, d2, d3⟩ := ax_gi hE 0 2147483648 2147483668 (by decide) rfl
  obtain ⟨p1, p2⟩ := ax_bi_pos d1 d2
  refine ⟨(fun x hx => by cases hx), _, List.mem_cons_self, ρ, fun _ _ => rfl, ax_px hE rfl (fun x hx => ?_)⟩
  cases List.mem_singleton.mp hx
  show ax_XF ax_XC (500 + 0) [206, 12, 0, 80] hp
  exact (ax_XF_wr (x := 0) (Nat.le_of_ble_eq_true rfl)).mpr (ax_hs0 hT f1 (by rw [← hd]; exact f2) (by omega))
theorem axq_hsC : ax_RO ax_wC ax_XC axu_hsC := by
  intro ρ hp hE hT
  obtain ⟨k, m, l, f1, f2⟩ := ax_gF hE 206 8 0 49 2 0 (by decide) (by rw [ax_vl_c (by decide)]) (by rw [ax_vl_c (by decide)]) rfl
  refine ⟨(fun x hx => by cases hx), _, List.mem_cons_self, ρ, fun _ _ => rfl, ax_px hE rfl (fun x hx => ?_)⟩
  cases List.mem_singleton.mp hx
  show ax_XF ax_XC (500 + 0) [206, 12, 0, 80] hp
  exact (ax_XF_wr (x := 0) (Nat.le_of_ble_eq_true rfl)).mpr (ax_hs0 (d := 0) hT f1 f2 (by decide))
theorem axq_lc0 : ax_RO ax_wC ax_XC axu_lc0 := by
  intro ρ hp hE hT
  refine ⟨(fun x hx => by cases hx), _, List.mem_cons_self, ρ, fun _ _ => rfl, ax_px hE rfl (fun x hx => ?_)⟩
  cases List.mem_singleton.mp hx
  refine (ax_XF_lt (x := 1) (Nat.le_of_ble_eq_true rfl)).mpr ?_
  have h0 := hE.2.1 0 (2, 14, 0) (by decide) rfl
  rcases h0 with ⟨b, _⟩ | ⟨b, _⟩ | ⟨_, b1, b2, b3, b4⟩ | ⟨b, _⟩
  · cases b
  · cases b
  · obtain ⟨k', n', tl, f, c1, c2, c3, c4⟩ := hT.2 _ _ b4
    have e2 : (ax_wC.2.1[14]?).map (fun z => z.2.1) = some 40 := rfl
    rw [show ax_wC.2.1[14]? = some (k', n', tl) from c1] at e2
    exact ⟨b4, k', n', f, c2, by rw [c3]; exact Option.some.inj e2, by show 0 / 4 ≤ _; omega⟩
  · cases b
theorem axq_lcS : ax_RO ax_wC ax_XC axu_lcS := by
  intro ρ hp hE hT
  obtain ⟨hw, kk, m, f, e1, e2, e3⟩ : ax_C1 (ρ 0) (ρ 1) (ρ 2) (ρ 3) hp := (ax_XF_lt (x := 1) (Nat.le_of_ble_eq_true rfl)).mp (ax_gx hE (1, [3, 7, 11, 15]) ax_m0)
  obtain ⟨k, m', l, f1, f2⟩ := ax_gf hE (3, 15, 19) (by decide)
  have hq : rx_bi (ρ 4 / 4) = rx_bi (ρ 2 / 4) := ax_gc hE 0 19 11 (by decide) (by decide)
  obtain ⟨p, hp1, p2, p3, p4⟩ := ax_gi hE 1 2147483648 2147483688 (by decide) rfl
  obtain ⟨n, hn1, n2, n3, n4⟩ := ax_gi hE 2 2147483648 2147483658 (by decide) rfl
  obtain ⟨c, hc1, c2, c3, c4⟩ := ax_gi hE 3 2147483648 2147483687 (by decide) rfl
  obtain ⟨b, hb1, b2, b3, b4⟩ := ax_gi hE 4 2147483648 2147483657 (by decide) rfl
  obtain ⟨q1, q2⟩ := ax_bi_pos p2 p3
  obtain ⟨q3, q4⟩ := ax_bi_pos n2 n3
  obtain ⟨q5, q6⟩ := ax_bi_pos b2 b3
  have d4 : ∀ z : Nat, 4 * z / 4 = z := fun z => by omega
  rw [hb1, hn1, d4, d4] at hq
  have hbn : b = n := by omega
  replace f1 : rx_hg hp (ρ 0 / 4 - 2) = some (k, m', l) := f1
  replace f2 : l[ρ 3 / 4]? = some (ρ 4) := f2
  rw [e1] at f1
  cases f1
  have hst := ax_lc_step (n := ρ 2 / 4) (c := ρ 3 / 4) (b := ρ 4) (by omega) f 0 (ρ 3 / 4) f2 (by omega)
  have hle := ax_lc_le (n := ρ 2 / 4) (c := ρ 3 / 4 + 1) f 0
  refine ⟨fun x hx => ?_, _, List.mem_cons_self, ρ, fun _ _ => rfl, ax_px hE rfl (fun x hx => by cases hx)⟩
  cases List.mem_singleton.mp hx
  show 2147483648 ≤ rx_bi (ρ 1 / 4) ∧ rx_bi (ρ 1 / 4) ≤ 2147483687
  rw [hp1, d4] at e3 ⊢
  omega
theorem axq_lcN : ax_RO ax_wC ax_XC axu_lcN := by
  intro ρ hp hE hT
  obtain ⟨hw, kk, m, f, e1, e2, e3⟩ : ax_C1 (ρ 0) (ρ 1) (ρ 2) (ρ 3) hp := (ax_XF_lt (x := 1) (Nat.le_of_ble_eq_true rfl)).mp (ax_gx hE (1, [3, 7, 11, 15]) ax_m0)
  obtain ⟨a, b, c, ha, hb, hc, la, lb, lc, hs⟩ := ax_gs hE 15 4 19 (by decide)
  obtain ⟨c', hc1, c2, c3, c4⟩ := ax_gi hE 3 2147483648 2147483687 (by decide) rfl
  have ha' : ρ 3 = 4 * a := ha
  have hc' : ρ 4 = 4 * c := hc
  have hca : c' = a := by omega
  subst hca
  obtain ⟨q1, q2⟩ := ax_bi_pos la c3
  have hb' : b = 1 := by have : (4 : Nat) = 4 * b := hb; omega
  have hcd := ax_sum1 hb' q1 lc hs
  refine ⟨(fun x hx => by cases hx), _, List.mem_cons_self, ρ, fun _ _ => rfl, ax_px hE rfl (fun x hx => ?_)⟩
  cases List.mem_singleton.mp hx
  refine (ax_XF_lt (x := 1) (Nat.le_of_ble_eq_true rfl)).mpr ⟨hw, kk, m, f, e1, e2, ?_⟩
  show ρ 1 / 4 ≤ ax_lc (ρ 2 / 4) (ρ 4 / 4) f 0
  have e : ρ 4 / 4 = ρ 3 / 4 + 1 := by omega
  rw [e]
  exact Nat.le_trans e3 (ax_lc_mono f 0)
theorem axq_lcE : ax_RO ax_wC ax_XC axu_lcE := by
  intro ρ hp hE hT
  obtain ⟨hw, kk, m, f, e1, e2, e3⟩ : ax_C1 (ρ 0) (ρ 1) (ρ 2) (ρ 3) hp := (ax_XF_lt (x := 1) (Nat.le_of_ble_eq_true rfl)).mp (ax_gx hE (1, [3, 7, 11, 15]) ax_m0)
  obtain ⟨k, m', l, f1, f2⟩ := ax_gf hE (3, 15, 27) (by decide)
  have hq : rx_bi (ρ 6 / 4) = rx_bi (ρ 2 / 4) := ax_gc hE 0 27 11 (by decide) (by decide)
  obtain ⟨a, b, c, ha, hb, hc, la, lb, lc, hs⟩ := ax_gs hE 15 4 19 (by decide)
  obtain ⟨a2, b2, c2, ha2, hb2, hc2, la2, lb2, lc2, hs2⟩ := ax_gs hE 7 4 23 (by decide)
  obtain ⟨c', hc1, _, c3, c4⟩ := ax_gi hE 3 2147483648 2147483687 (by decide) rfl
  obtain ⟨p, hp1, p2, p3, p4⟩ := ax_gi hE 1 2147483648 2147483688 (by decide) rfl
  obtain ⟨n, hn1, n2, n3, n4⟩ := ax_gi hE 2 2147483648 2147483658 (by decide) rfl
  obtain ⟨bb, hbb1, bb2, bb3, bb4⟩ := ax_gi hE 6 2147483648 2147483657 (by decide) rfl
  have ha' : ρ 3 = 4 * a := ha
  have hc' : ρ 4 = 4 * c := hc
  have ha2' : ρ 1 = 4 * a2 := ha2
  have hc2' : ρ 5 = 4 * c2 := hc2
  have hca : c' = a := by omega
  subst hca
  have hpa : p = a2 := by omega
  subst hpa
  obtain ⟨q1, q2⟩ := ax_bi_pos la c3
  obtain ⟨r1, r2⟩ := ax_bi_pos la2 p3
  obtain ⟨q3, q4⟩ := ax_bi_pos n2 n3
  obtain ⟨q5, q6⟩ := ax_bi_pos bb2 bb3
  have hb' : b = 1 := by have : (4 : Nat) = 4 * b := hb; omega
  have hb2' : b2 = 1 := by have : (4 : Nat) = 4 * b2 := hb2; omega
  have hcd := ax_sum1 hb' q1 lc hs
  have hcd2 := ax_sum1 hb2' r1 lc2 hs2
  have d4 : ∀ z : Nat, 4 * z / 4 = z := fun z => by omega
  rw [hbb1, hn1, d4, d4] at hq
  replace f1 : rx_hg hp (ρ 0 / 4 - 2) = some (k, m', l) := f1
  replace f2 : l[ρ 3 / 4]? = some (ρ 6) := f2
  rw [e1] at f1
  cases f1
  have hst := ax_lc_step (n := ρ 2 / 4) (c := ρ 3 / 4) (b := ρ 6) (by omega) f 0 (ρ 3 / 4) f2 (by omega)
  refine ⟨(fun x hx => by cases hx), _, List.mem_cons_self, ρ, fun _ _ => rfl, ax_px hE rfl (fun x hx => ?_)⟩
  cases List.mem_singleton.mp hx
  refine (ax_XF_lt (x := 1) (Nat.le_of_ble_eq_true rfl)).mpr ⟨hw, kk, m, f, e1, e2, ?_⟩
  show ρ 5 / 4 ≤ ax_lc (ρ 2 / 4) (ρ 4 / 4) f 0
  have e : ρ 4 / 4 = ρ 3 / 4 + 1 := by omega
  rw [e]
  omega
theorem axq_lcO : ax_RO ax_wC ax_XC axu_lcO := by
  intro ρ hp hE hT
  obtain ⟨hw, kk, m, f, e1, e2, e3⟩ : ax_C1 (ρ 0) (ρ 1) (ρ 2) (ρ 3) hp := (ax_XF_lt (x := 1) (Nat.le_of_ble_eq_true rfl)).mp (ax_gx hE (1, [3, 7, 11, 15]) ax_m0)
  obtain ⟨a, b, c, ha, hb, hc, la, lb, lc, hs⟩ := ax_gs hE 11 4 19 (by decide)
  obtain ⟨n, hn1, n2, n3, n4⟩ := ax_gi hE 2 2147483648 2147483658 (by decide) rfl
  have ha' : ρ 2 = 4 * a := ha
  have hc' : ρ 4 = 4 * c := hc
  have hna : n = a := by omega
  subst hna
  obtain ⟨q1, q2⟩ := ax_bi_pos la n3
  have hb' : b = 1 := by have : (4 : Nat) = 4 * b := hb; omega
  have hcd := ax_sum1 hb' q1 lc hs
  refine ⟨(fun x hx => by cases hx), _, List.mem_cons_self, ρ, fun _ _ => rfl, ax_px hE rfl (fun x hx => ?_)⟩
  cases List.mem_singleton.mp hx
  refine (ax_XF_lt (x := 1) (Nat.le_of_ble_eq_true rfl)).mpr ⟨hw, kk, m, f, e1, e2, ?_⟩
  show ρ 1 / 4 ≤ ax_lc (ρ 4 / 4) (0 / 4) f 0
  have e : ρ 4 / 4 = ρ 2 / 4 + 1 := by omega
  rw [e]
  exact Nat.le_trans e3 (ax_lc_node f 0)
