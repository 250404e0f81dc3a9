/-! Class: what is named, and why the rules are right -/
noncomputable def ax_lc (n c : Nat) : List Nat → Nat → Nat
  | [], _ => 0
  | b :: t, i => (if b / 4 < n ∨ (b / 4 = n ∧ i < c) then 1 else 0) + ax_lc n c t (i + 1)
theorem ax_lc_le {n c : Nat} : ∀ (f : List Nat) (i : Nat), ax_lc n c f i ≤ f.length
  | [], _ => Nat.le_refl _
  | b :: t, i => by
    have := ax_lc_le (n := n) (c := c) t (i + 1)
    unfold ax_lc
    rw [List.length_cons]
    split <;> omega
theorem ax_lc_mono {n c : Nat} : ∀ (f : List Nat) (i : Nat), ax_lc n c f i ≤ ax_lc n (c + 1) f i
  | [], _ => Nat.le_refl _
  | b :: t, i => by
    have := ax_lc_mono (n := n) (c := c) t (i + 1)
    unfold ax_lc
    split <;> split <;> omega
theorem ax_lc_node {n c : Nat} : ∀ (f : List Nat) (i : Nat), ax_lc n c f i ≤ ax_lc (n + 1) 0 f i
  | [], _ => Nat.le_refl _
  | b :: t, i => by
    have := ax_lc_node (n := n) (c := c) t (i + 1)
    unfold ax_lc
    split <;> split <;> omega
theorem ax_lc_step {n c b : Nat} (hb : b / 4 = n) : ∀ (f : List Nat) (i j : Nat), f[j]? = some b → i + j = c → ax_lc n c f i + 1 ≤ ax_lc n (c + 1) f i
  | [], _, _, h, _ => by cases h
  | x :: t, i, 0, h, hc => by
    have h := Option.some.inj h
    subst h
    have := ax_lc_mono (n := n) (c := c) t (i + 1)
    unfold ax_lc
    rw [if_neg (by omega), if_pos (by omega)]
    omega
  | x :: t, i, j + 1, h, hc => by
    have := ax_lc_step (n := n) (c := c) hb t (i + 1) j h (by omega)
    unfold ax_lc
    split <;> split <;> omega
noncomputable def ax_C0 (k : Nat) (hp : rx_H) : Prop := ∃ (kk n d u : Nat) (f : List Nat), rx_hg hp 49 = some (kk, n, f) ∧ f[2]? = some (4 * d) ∧ f[3]? = some (4 * u) ∧ d + u ≤ k / 4
noncomputable def ax_C1 (a p n c : Nat) (hp : rx_H) : Prop := ax_wC.1[a / 4 - 2]? = some 14 ∧ ∃ (kk m : Nat) (f : List Nat), rx_hg hp (a / 4 - 2) = some (kk, m, f) ∧ f.length = 40 ∧ p / 4 ≤ ax_lc (n / 4) (c / 4) f 0
noncomputable def ax_XC : ax_X := fun x vs hp => match x, vs with
  | 0, [k] => ax_C0 k hp
  | 1, [a, p, n, c] => ax_C1 a p n c hp
  | 30, [g] => ay_ex hp 8 ∧ ay_ex hp 9 ∧ pz_x30 g (ay_at hp 8 1) (ay_at hp 9)
  | 31, [] => ay_ex hp 10 ∧ pz_x31 (ay_at hp 10 6) (ay_at hp 10 7) (ay_at hp 10 10) (ay_at hp 10 11)
  | 50, [g, n] => ay_ex hp 8 ∧ ay_ex hp 10 ∧ ay_ex hp 11 ∧ ay_ex hp 12 ∧ pz_x50 g n (ay_at hp 8 5) (ay_at hp 8 6) (ay_at hp 8 7) (ay_at hp 8 8) (ay_at hp 10 0) (ay_at hp 10 1) (ay_at hp 10 2) (ay_at hp 10 3) (ay_at hp 10 4) (ay_at hp 8 9) (ay_at hp 8 11) (ay_at hp 8 10) (ay_at hp 8 3) (ay_at hp 8 4) (ay_at hp 11) (ay_at hp 12)
  | 53, [g, n] => ay_ex hp 8 ∧ ay_ex hp 10 ∧ ay_ex hp 11 ∧ ay_ex hp 12 ∧ pz_x53 g n (ay_at hp 8 5) (ay_at hp 10 0) (ay_at hp 10 1) (ay_at hp 10 2) (ay_at hp 10 3) (ay_at hp 10 4) (ay_at hp 8 9) (ay_at hp 8 11) (ay_at hp 8 10) (ay_at hp 8 3) (ay_at hp 8 4) (ay_at hp 11) (ay_at hp 12)
  | 54, [g, n] => ay_ex hp 8 ∧ ay_ex hp 10 ∧ ay_ex hp 11 ∧ ay_ex hp 12 ∧ pz_x54 g n (ay_at hp 8 5) (ay_at hp 8 6) (ay_at hp 10 0) (ay_at hp 10 1) (ay_at hp 10 2) (ay_at hp 10 3) (ay_at hp 10 4) (ay_at hp 8 9) (ay_at hp 8 11) (ay_at hp 8 10) (ay_at hp 8 3) (ay_at hp 8 4) (ay_at hp 11) (ay_at hp 12)
  | 55, [g, n] => ay_ex hp 8 ∧ ay_ex hp 10 ∧ ay_ex hp 11 ∧ ay_ex hp 12 ∧ pz_x55 g n (ay_at hp 8 5) (ay_at hp 8 6) (ay_at hp 10 0) (ay_at hp 10 1) (ay_at hp 10 2) (ay_at hp 10 3) (ay_at hp 10 4) (ay_at hp 8 9) (ay_at hp 8 11) (ay_at hp 8 10) (ay_at hp 8 3) (ay_at hp 8 4) (ay_at hp 11) (ay_at hp 12)
  | 56, [g, n] => ay_ex hp 8 ∧ ay_ex hp 10 ∧ ay_ex hp 11 ∧ ay_ex hp 12 ∧ pz_x56 g n (ay_at hp 8 5) (ay_at hp 8 6) (ay_at hp 8 7) (ay_at hp 10 0) (ay_at hp 10 1) (ay_at hp 10 2) (ay_at hp 10 3) (ay_at hp 10 4) (ay_at hp 8 9) (ay_at hp 8 11) (ay_at hp 8 10) (ay_at hp 8 3) (ay_at hp 8 4) (ay_at hp 11) (ay_at hp 12)
  | 57, [g, n] => ay_ex hp 8 ∧ ay_ex hp 10 ∧ ay_ex hp 11 ∧ ay_ex hp 12 ∧ pz_x57 g n (ay_at hp 8 5) (ay_at hp 8 6) (ay_at hp 8 7) (ay_at hp 10 0) (ay_at hp 10 1) (ay_at hp 10 2) (ay_at hp 10 3) (ay_at hp 10 4) (ay_at hp 8 9) (ay_at hp 8 11) (ay_at hp 8 10) (ay_at hp 8 3) (ay_at hp 8 4) (ay_at hp 11) (ay_at hp 12)
  | 58, [g, n] => ay_ex hp 8 ∧ ay_ex hp 10 ∧ ay_ex hp 11 ∧ ay_ex hp 12 ∧ pz_x58 g n (ay_at hp 8 5) (ay_at hp 8 6) (ay_at hp 8 7) (ay_at hp 8 8) (ay_at hp 10 0) (ay_at hp 10 1) (ay_at hp 10 2) (ay_at hp 10 3) (ay_at hp 10 4) (ay_at hp 8 9) (ay_at hp 8 11) (ay_at hp 8 10) (ay_at hp 8 3) (ay_at hp 8 4) (ay_at hp 11) (ay_at hp 12)
  | 59, [g, n] => ay_ex hp 8 ∧ ay_ex hp 10 ∧ ay_ex hp 11 ∧ ay_ex hp 12 ∧ pz_x59 g n (ay_at hp 8 5) (ay_at hp 8 6) (ay_at hp 8 7) (ay_at hp 8 8) (ay_at hp 10 0) (ay_at hp 10 1) (ay_at hp 10 2) (ay_at hp 10 3) (ay_at hp 10 4) (ay_at hp 8 9) (ay_at hp 8 11) (ay_at hp 8 10) (ay_at hp 8 3) (ay_at hp 8 4) (ay_at hp 11) (ay_at hp 12)
  | 60, [g, n, w] => pz60 (pz_gt g) (pz_gN g) (n / 4) (w / 4 - 1000)
  | 61, [g, n, w] => pz61 (pz_gt g) (pz_gN g) (n / 4) (w / 4 - 1000)
  | 62, [g, n, w, i] => pz_x62 g n w i
  | 63, [g] => ay_ex hp 8 ∧ pz63 (pz_gt g) (pz_gN g) (ay_ln (ay_at hp 8 3)) (ay_ln (ay_at hp 8 4))
  | 64, [g, n, k] => pz64 (pz_gt g) (pz_gN g) (n / 4) (k / 4)
  | 65, [g, n, k] => ay_ex hp 8 ∧ pz_x65 g n k (ay_at hp 8 6) (ay_at hp 8 3)
  | 66, [g, n, v] => pz66 (pz_gt g) (pz_gN g) (n / 4) (v / 4)
  | 67, [g, n, a] => pz67 (pz_gt g) (pz_gN g) (n / 4) (a / 4)
  | 70, [g, n] => pz7 (pz_gt g) (pz_gN g) (n / 4) 0
  | 71, [g, n] => pz7 (pz_gt g) (pz_gN g) (n / 4) 1
  | 72, [g, n] => pz7 (pz_gt g) (pz_gN g) (n / 4) 2
  | 73, [g, n] => pz7 (pz_gt g) (pz_gN g) (n / 4) 3
  | 74, [g, n] => pz7 (pz_gt g) (pz_gN g) (n / 4) 4
  | 75, [g, n] => pz7 (pz_gt g) (pz_gN g) (n / 4) 5
  | 76, [g, n] => pz7 (pz_gt g) (pz_gN g) (n / 4) 6
  | 77, [g, n] => pz7 (pz_gt g) (pz_gN g) (n / 4) 7
  | 78, [g, n] => pz7 (pz_gt g) (pz_gN g) (n / 4) 8
  | 79, [g, n] => pz7 (pz_gt g) (pz_gN g) (n / 4) 9
  | 90, [g, n, s] => (pz90 (pz_gt g) (pz_gN g) (n / 4) (s / 4) ∧ 1 ≤ s / 4)
  | 91, [s, l] => pz_dp (s / 4) = l / 4
  | 92, [s, r] => pz_strip (s / 4) = r / 4
  | 93, [r, s] => r / 4 = 2 * (s / 4)
  | 94, [g, n] => pz94 (pz_gt g) (pz_gN g) (n / 4)
  | 95, [g, n] => pz95 (pz_gt g) (pz_gN g) (n / 4)
  | 97, [n, i] => i / 4 ≤ n / 4
  | 103, [g, n, m] => pz_x103 g n m
  | 104, [g, n, v] => pz104 (pz_gt g) (pz_gN g) (n / 4) (v / 4)
  | 106, [g, n, o] => pz106 (pz_gt g) (pz_gN g) (n / 4) (o / 4)
  | 107, [g, n, o] => pz107 (pz_gt g) (pz_gN g) (n / 4) (o / 4)
  | 108, [s, r] => (r / 4 = 2 * (s / 4) + 1 ∧ 1 ≤ s / 4)
  | 110, [g] => ay_ex hp 10 ∧ ay_ex hp 8 ∧ ay_ex hp 11 ∧ ay_ex hp 12 ∧ pz110 (pz_gt g) (pz_gN g) (ay_ln (ay_at hp 10 0)) (ay_ln (ay_at hp 10 1)) (ay_ln (ay_at hp 10 2)) (ay_ln (ay_at hp 10 3)) (ay_ln (ay_at hp 10 4)) (ay_ln (ay_at hp 8 9)) (ay_ln (ay_at hp 8 11)) (ay_ln (ay_at hp 8 10)) (ay_ln (ay_at hp 8 3)) (ay_ln (ay_at hp 8 4)) (ay_at hp 11) (ay_at hp 12)
  | 111, [g, n] => pz111 (pz_gt g) (pz_gN g) (n / 4)
  | 112, [g, n, a, b] => pz112 (pz_gt g) (pz_gN g) (n / 4) (a / 4) (b / 4)
  | 113, [g, n, a, b] => pz113 (pz_gt g) (pz_gN g) (n / 4) (a / 4) (b / 4)
  | 114, [g, n, a, b, i] => pz_x114 g n a b i
  | 116, [g, n, a, b, l] => ay_ex hp 8 ∧ ay_ex hp 10 ∧ ay_ex hp 11 ∧ ay_ex hp 12 ∧ pz_xal 1 g n a b l (ay_at hp 8 5) (ay_at hp 10 0) (ay_at hp 10 1) (ay_at hp 10 2) (ay_at hp 10 3) (ay_at hp 10 4) (ay_at hp 8 9) (ay_at hp 8 11) (ay_at hp 8 10) (ay_at hp 8 3) (ay_at hp 8 4) (ay_at hp 11) (ay_at hp 12)
  | 117, [g, n, a, b, l] => ay_ex hp 8 ∧ ay_ex hp 10 ∧ ay_ex hp 11 ∧ ay_ex hp 12 ∧ pz_xal 2 g n a b l (ay_at hp 8 5) (ay_at hp 10 0) (ay_at hp 10 1) (ay_at hp 10 2) (ay_at hp 10 3) (ay_at hp 10 4) (ay_at hp 8 9) (ay_at hp 8 11) (ay_at hp 8 10) (ay_at hp 8 3) (ay_at hp 8 4) (ay_at hp 11) (ay_at hp 12)
  | 118, [g, n, a, b, l] => ay_ex hp 8 ∧ ay_ex hp 10 ∧ ay_ex hp 11 ∧ ay_ex hp 12 ∧ pz_xal 3 g n a b l (ay_at hp 8 5) (ay_at hp 10 0) (ay_at hp 10 1) (ay_at hp 10 2) (ay_at hp 10 3) (ay_at hp 10 4) (ay_at hp 8 9) (ay_at hp 8 11) (ay_at hp 8 10) (ay_at hp 8 3) (ay_at hp 8 4) (ay_at hp 11) (ay_at hp 12)
  | 119, [g, n, a, b, l] => ay_ex hp 8 ∧ ay_ex hp 10 ∧ ay_ex hp 11 ∧ ay_ex hp 12 ∧ pz_xal 4 g n a b l (ay_at hp 8 5) (ay_at hp 10 0) (ay_at hp 10 1) (ay_at hp 10 2) (ay_at hp 10 3) (ay_at hp 10 4) (ay_at hp 8 9) (ay_at hp 8 11) (ay_at hp 8 10) (ay_at hp 8 3) (ay_at hp 8 4) (ay_at hp 11) (ay_at hp 12)
  | 122, [g, n] => ay_ex hp 8 ∧ (pz61 (pz_gt g) (pz_gN g) (n / 4) 2 ∨ ay_ln (ay_at hp 8 9) = 1)
  | 123, [g, n] => ay_ex hp 8 ∧ (pz61 (pz_gt g) (pz_gN g) (n / 4) 3 ∨ ay_ln (ay_at hp 8 11) = 1)
  | 124, [g, n] => ay_ex hp 8 ∧ (pz61 (pz_gt g) (pz_gN g) (n / 4) 4 ∨ ay_ln (ay_at hp 8 10) = 1)
  | 33, [g, a, r] => r = pz_apk (a / 4) g 4
  | 34, [g, a, h, r] => pz_x34 g a h r
  | 35, [g] => ay_ex hp 8 ∧ ay_ex hp 9 ∧ pz_x35 g (ay_at hp 8 1) (ay_at hp 9)
  | 36, [g, a, h, r] => pz_x36 g a h r
  | 37, [g, a, b, c, d, e, r] => r = pz_a20 (a / 4) (b / 4) (c / 4) (d / 4) (e / 4) g 20
  | 38, [g, n, r] => r = pz_cut g (n / 4)
  | 39, [g, s] => pz_gN g = s / 4
  | 126, [g, v] => pz_x126 g v
  | 127, [] => ay_ex hp 8 ∧ (ay_ln (ay_at hp 8 3) = 0 ∧ ay_ln (ay_at hp 8 4) = 4294967295)
  | 40, [l] => py_40 l
  | 41, [l] => ay_ex hp 10 ∧ ay_ex hp 15 ∧ ay_ex hp 16 ∧ py_x41 l (ay_at hp 10 5) (ay_at hp 15) (ay_at hp 16)
  | 42, [g, n, s, l, c] => py_42 (pz_gt g) (pz_gN g) (n / 4) s l c
  | 44, [s] => py_44 2 s
  | 45, [s] => py_44 1 s
  | 46, [g, n, s, l] => py_46 (pz_gt g) (pz_gN g) (n / 4) s l
  | 47, [g, n, s, l] => py_47 (pz_gt g) (pz_gN g) (n / 4) s l
  | 48, [g, n, s, l] => py_48 2 (pz_gt g) (pz_gN g) (n / 4) s l
  | 49, [g, n, s, l] => py_48 1 (pz_gt g) (pz_gN g) (n / 4) s l
  | 80, [l, o] => ay_ex hp 10 ∧ ay_ex hp 15 ∧ ay_ex hp 16 ∧ py_x80 l o (ay_at hp 10 5) (ay_at hp 15) (ay_at hp 16)
  | 81, [l, o, v] => ay_ex hp 10 ∧ ay_ex hp 15 ∧ ay_ex hp 16 ∧ py_x81 l o v (ay_at hp 10 5) (ay_at hp 15) (ay_at hp 16)
  | 82, [g, l] => py_82 g l
  | 98, [n, m] => m / 4 = n / 4 + 1
  | 99, [r, c, s] => py_99 r c s
  | _, _ => True
theorem ax_XC_ok : ax_XD ax_wC ax_XC := by
  intro x vs dl md hp hp' hdl hall hR hX
  match x, vs, hX with
  | 0, [k], hX =>
    have hdl : [(9, 2), (9, 3)] = dl := Option.some.inj hdl
    subst hdl
    obtain ⟨kk, n, d, u, f, e1, e2, e3, e4⟩ := hX
    obtain ⟨f', e5, e6⟩ := hR.2 49 9 rfl kk n f e1
    have hD := ax_mem_no (List.all_eq_true.mp hall (9, 2) List.mem_cons_self)
    have hU := ax_mem_no (List.all_eq_true.mp hall (9, 3) (List.mem_cons_of_mem _ List.mem_cons_self))
    exact ⟨kk, n, d, u, f', e5, (e6 _ hD).trans e2, (e6 _ hU).trans e3, e4⟩
  | 1, [a, p, n, c], hX =>
    have hdl : [(14, 999)] = dl := Option.some.inj hdl
    subst hdl
    obtain ⟨hw, kk, m, f, e1, e2, e3⟩ := hX
    obtain ⟨f', e5, e6⟩ := hR.2 _ _ hw kk m f e1
    have hA := List.all_eq_true.mp hall (14, 999) List.mem_cons_self
    have : f' = f := by
      apply List.ext_getElem?
      intro i
      refine e6 i (Bool.eq_false_iff.mpr (fun z => ?_))
      obtain ⟨y, hy, hb⟩ := List.any_eq_true.mp z
      obtain ⟨h2, h3⟩ := rx_and2.mp hb
      have h1 : md.any (fun y => Nat.beq y.1 14 && (Nat.beq y.2 999 || (Nat.beq y.2 999 || Nat.beq 999 999))) = true := List.any_eq_true.mpr ⟨y, hy, rx_and2.mpr ⟨h2, by rw [show Nat.beq 999 999 = true from rfl, Bool.or_true, Bool.or_true]⟩⟩
      replace hA : (!(md.any (fun y => Nat.beq y.1 14 && (Nat.beq y.2 999 || (Nat.beq y.2 999 || Nat.beq 999 999))))) = true := hA
      rw [h1] at hA
      cases hA
    subst this
    exact ⟨hw, kk, m, f', e5, e2, e3⟩
  | 30, [g], hX =>
    have hdl : [(2, 1), (20, 999)] = dl := Option.some.inj hdl
    subst hdl
    obtain ⟨x8, x9, hX⟩ := hX
    have e0 : ay_at hp' 8 1 = ay_at hp 8 1 := ay_same1 hR x8 (g := 2) rfl (List.all_eq_true.mp hall (2, 1) (by simp))
    have e1 : ay_at hp' 9 = ay_at hp 9 := ay_same hR x9 (g := 20) rfl (List.all_eq_true.mp hall (20, 999) (by simp))
    refine ⟨ay_ex_same hR x8 (g := 2) rfl, ay_ex_same hR x9 (g := 20) rfl, ?_⟩
    show pz_x30 g (ay_at hp' 8 1) (ay_at hp' 9)
    rw [e0, e1]
    exact hX
  | 31, [], hX =>
    have hdl : [(1, 6), (1, 7), (1, 10), (1, 11)] = dl := Option.some.inj hdl
    subst hdl
    obtain ⟨x10, hX⟩ := hX
    have e0 : ay_at hp' 10 6 = ay_at hp 10 6 := ay_same1 hR x10 (g := 1) rfl (List.all_eq_true.mp hall (1, 6) (by simp))
    have e1 : ay_at hp' 10 7 = ay_at hp 10 7 := ay_same1 hR x10 (g := 1) rfl (List.all_eq_true.mp hall (1, 7) (by simp))
    have e2 : ay_at hp' 10 10 = ay_at hp 10 10 := ay_same1 hR x10 (g := 1) rfl (List.all_eq_true.mp hall (1, 10) (by simp))
    have e3 : ay_at hp' 10 11 = ay_at hp 10 11 := ay_same1 hR x10 (g := 1) rfl (List.all_eq_true.mp hall (1, 11) (by simp))
    refine ⟨ay_ex_same hR x10 (g := 1) rfl, ?_⟩
    show pz_x31 (ay_at hp' 10 6) (ay_at hp' 10 7) (ay_at hp' 10 10) (ay_at hp' 10 11)
    rw [e0, e1, e2, e3]
    exact hX
  | 50, [g, n], hX =>
    have hdl : [(2, 5), (2, 6), (2, 7), (2, 8), (1, 0), (1, 1), (1, 2), (1, 3), (1, 4), (2, 9), (2, 11), (2, 10), (2, 3), (2, 4), (14, 999), (15, 999)] = dl := Option.some.inj hdl
    subst hdl
    obtain ⟨x8, x10, x11, x12, hX⟩ := hX
    have e0 : ay_at hp' 8 5 = ay_at hp 8 5 := ay_same1 hR x8 (g := 2) rfl (List.all_eq_true.mp hall (2, 5) (by simp))
    have e1 : ay_at hp' 8 6 = ay_at hp 8 6 := ay_same1 hR x8 (g := 2) rfl (List.all_eq_true.mp hall (2, 6) (by simp))
    have e2 : ay_at hp' 8 7 = ay_at hp 8 7 := ay_same1 hR x8 (g := 2) rfl (List.all_eq_true.mp hall (2, 7) (by simp))
    have e3 : ay_at hp' 8 8 = ay_at hp 8 8 := ay_same1 hR x8 (g := 2) rfl (List.all_eq_true.mp hall (2, 8) (by simp))
    have e4 : ay_at hp' 10 0 = ay_at hp 10 0 := ay_same1 hR x10 (g := 1) rfl (List.all_eq_true.mp hall (1, 0) (by simp))
    have e5 : ay_at hp' 10 1 = ay_at hp 10 1 := ay_same1 hR x10 (g := 1) rfl (List.all_eq_true.mp hall (1, 1) (by simp))
    have e6 : ay_at hp' 10 2 = ay_at hp 10 2 := ay_same1 hR x10 (g := 1) rfl (List.all_eq_true.mp hall (1, 2) (by simp))
    have e7 : ay_at hp' 10 3 = ay_at hp 10 3 := ay_same1 hR x10 (g := 1) rfl (List.all_eq_true.mp hall (1, 3) (by simp))
    have e8 : ay_at hp' 10 4 = ay_at hp 10 4 := ay_same1 hR x10 (g := 1) rfl (List.all_eq_true.mp hall (1, 4) (by simp))
    have e9 : ay_at hp' 8 9 = ay_at hp 8 9 := ay_same1 hR x8 (g := 2) rfl (List.all_eq_true.mp hall (2, 9) (by simp))
    have e10 : ay_at hp' 8 11 = ay_at hp 8 11 := ay_same1 hR x8 (g := 2) rfl (List.all_eq_true.mp hall (2, 11) (by simp))
    have e11 : ay_at hp' 8 10 = ay_at hp 8 10 := ay_same1 hR x8 (g := 2) rfl (List.all_eq_true.mp hall (2, 10) (by simp))
    have e12 : ay_at hp' 8 3 = ay_at hp 8 3 := ay_same1 hR x8 (g := 2) rfl (List.all_eq_true.mp hall (2, 3) (by simp))
    have e13 : ay_at hp' 8 4 = ay_at hp 8 4 := ay_same1 hR x8 (g := 2) rfl (List.all_eq_true.mp hall (2, 4) (by simp))
    have e14 : ay_at hp' 11 = ay_at hp 11 := ay_same hR x11 (g := 14) rfl (List.all_eq_true.mp hall (14, 999) (by simp))
    have e15 : ay_at hp' 12 = ay_at hp 12 := ay_same hR x12 (g := 15) rfl (List.all_eq_true.mp hall (15, 999) (by simp))
    refine ⟨ay_ex_same hR x8 (g := 2) rfl, ay_ex_same hR x10 (g := 1) rfl, ay_ex_same hR x11 (g := 14) rfl, ay_ex_same hR x12 (g := 15) rfl, ?_⟩
    show pz_x50 g n (ay_at hp' 8 5) (ay_at hp' 8 6) (ay_at hp' 8 7) (ay_at hp' 8 8) (ay_at hp' 10 0) (ay_at hp' 10 1) (ay_at hp' 10 2) (ay_at hp' 10 3) (ay_at hp' 10 4) (ay_at hp' 8 9) (ay_at hp' 8 11) (ay_at hp' 8 10) (ay_at hp' 8 3) (ay_at hp' 8 4) (ay_at hp' 11) (ay_at hp' 12)
    rw [e0, e1, e2, e3, e4, e5, e6, e7, e8, e9, e10, e11, e12, e13, e14, e15]
    exact hX
  | 53, [g, n], hX =>
    have hdl : [(2, 5), (1, 0), (1, 1), (1, 2), (1, 3), (1, 4), (2, 9), (2, 11), (2, 10), (2, 3), (2, 4), (14, 999), (15, 999)] = dl := Option.some.inj hdl
    subst hdl
    obtain ⟨x8, x10, x11, x12, hX⟩ := hX
    have e0 : ay_at hp' 8 5 = ay_at hp 8 5 := ay_same1 hR x8 (g := 2) rfl (List.all_eq_true.mp hall (2, 5) (by simp))
    have e1 : ay_at hp' 10 0 = ay_at hp 10 0 := ay_same1 hR x10 (g := 1) rfl (List.all_eq_true.mp hall (1, 0) (by simp))
    have e2 : ay_at hp' 10 1 = ay_at hp 10 1 := ay_same1 hR x10 (g := 1) rfl (List.all_eq_true.mp hall (1, 1) (by simp))
    have e3 : ay_at hp' 10 2 = ay_at hp 10 2 := ay_same1 hR x10 (g := 1) rfl (List.all_eq_true.mp hall (1, 2) (by simp))
    have e4 : ay_at hp' 10 3 = ay_at hp 10 3 := ay_same1 hR x10 (g := 1) rfl (List.all_eq_true.mp hall (1, 3) (by simp))
    have e5 : ay_at hp' 10 4 = ay_at hp 10 4 := ay_same1 hR x10 (g := 1) rfl (List.all_eq_true.mp hall (1, 4) (by simp))
    have e6 : ay_at hp' 8 9 = ay_at hp 8 9 := ay_same1 hR x8 (g := 2) rfl (List.all_eq_true.mp hall (2, 9) (by simp))
    have e7 : ay_at hp' 8 11 = ay_at hp 8 11 := ay_same1 hR x8 (g := 2) rfl (List.all_eq_true.mp hall (2, 11) (by simp))
    have e8 : ay_at hp' 8 10 = ay_at hp 8 10 := ay_same1 hR x8 (g := 2) rfl (List.all_eq_true.mp hall (2, 10) (by simp))
    have e9 : ay_at hp' 8 3 = ay_at hp 8 3 := ay_same1 hR x8 (g := 2) rfl (List.all_eq_true.mp hall (2, 3) (by simp))
    have e10 : ay_at hp' 8 4 = ay_at hp 8 4 := ay_same1 hR x8 (g := 2) rfl (List.all_eq_true.mp hall (2, 4) (by simp))
    have e11 : ay_at hp' 11 = ay_at hp 11 := ay_same hR x11 (g := 14) rfl (List.all_eq_true.mp hall (14, 999) (by simp))
    have e12 : ay_at hp' 12 = ay_at hp 12 := ay_same hR x12 (g := 15) rfl (List.all_eq_true.mp hall (15, 999) (by simp))
    refine ⟨ay_ex_same hR x8 (g := 2) rfl, ay_ex_same hR x10 (g := 1) rfl, ay_ex_same hR x11 (g := 14) rfl, ay_ex_same hR x12 (g := 15) rfl, ?_⟩
    show pz_x53 g n (ay_at hp' 8 5) (ay_at hp' 10 0) (ay_at hp' 10 1) (ay_at hp' 10 2) (ay_at hp' 10 3) (ay_at hp' 10 4) (ay_at hp' 8 9) (ay_at hp' 8 11) (ay_at hp' 8 10) (ay_at hp' 8 3) (ay_at hp' 8 4) (ay_at hp' 11) (ay_at hp' 12)
    rw [e0, e1, e2, e3, e4, e5, e6, e7, e8, e9, e10, e11, e12]
    exact hX
  | 54, [g, n], hX =>
    have hdl : [(2, 5), (2, 6), (1, 0), (1, 1), (1, 2), (1, 3), (1, 4), (2, 9), (2, 11), (2, 10), (2, 3), (2, 4), (14, 999), (15, 999)] = dl := Option.some.inj hdl
    subst hdl
    obtain ⟨x8, x10, x11, x12, hX⟩ := hX
    have e0 : ay_at hp' 8 5 = ay_at hp 8 5 := ay_same1 hR x8 (g := 2) rfl (List.all_eq_true.mp hall (2, 5) (by simp))
    have e1 : ay_at hp' 8 6 = ay_at hp 8 6 := ay_same1 hR x8 (g := 2) rfl (List.all_eq_true.mp hall (2, 6) (by simp))
    have e2 : ay_at hp' 10 0 = ay_at hp 10 0 := ay_same1 hR x10 (g := 1) rfl (List.all_eq_true.mp hall (1, 0) (by simp))
    have e3 : ay_at hp' 10 1 = ay_at hp 10 1 := ay_same1 hR x10 (g := 1) rfl (List.all_eq_true.mp hall (1, 1) (by simp))
    have e4 : ay_at hp' 10 2 = ay_at hp 10 2 := ay_same1 hR x10 (g := 1) rfl (List.all_eq_true.mp hall (1, 2) (by simp))
    have e5 : ay_at hp' 10 3 = ay_at hp 10 3 := ay_same1 hR x10 (g := 1) rfl (List.all_eq_true.mp hall (1, 3) (by simp))
    have e6 : ay_at hp' 10 4 = ay_at hp 10 4 := ay_same1 hR x10 (g := 1) rfl (List.all_eq_true.mp hall (1, 4) (by simp))
    have e7 : ay_at hp' 8 9 = ay_at hp 8 9 := ay_same1 hR x8 (g := 2) rfl (List.all_eq_true.mp hall (2, 9) (by simp))
    have e8 : ay_at hp' 8 11 = ay_at hp 8 11 := ay_same1 hR x8 (g := 2) rfl (List.all_eq_true.mp hall (2, 11) (by simp))
    have e9 : ay_at hp' 8 10 = ay_at hp 8 10 := ay_same1 hR x8 (g := 2) rfl (List.all_eq_true.mp hall (2, 10) (by simp))
    have e10 : ay_at hp' 8 3 = ay_at hp 8 3 := ay_same1 hR x8 (g := 2) rfl (List.all_eq_true.mp hall (2, 3) (by simp))
    have e11 : ay_at hp' 8 4 = ay_at hp 8 4 := ay_same1 hR x8 (g := 2) rfl (List.all_eq_true.mp hall (2, 4) (by simp))
    have e12 : ay_at hp' 11 = ay_at hp 11 := ay_same hR x11 (g := 14) rfl (List.all_eq_true.mp hall (14, 999) (by simp))
    have e13 : ay_at hp' 12 = ay_at hp 12 := ay_same hR x12 (g := 15) rfl (List.all_eq_true.mp hall (15, 999) (by simp))
    refine ⟨ay_ex_same hR x8 (g := 2) rfl, ay_ex_same hR x10 (g := 1) rfl, ay_ex_same hR x11 (g := 14) rfl, ay_ex_same hR x12 (g := 15) rfl, ?_⟩
    show pz_x54 g n (ay_at hp' 8 5) (ay_at hp' 8 6) (ay_at hp' 10 0) (ay_at hp' 10 1) (ay_at hp' 10 2) (ay_at hp' 10 3) (ay_at hp' 10 4) (ay_at hp' 8 9) (ay_at hp' 8 11) (ay_at hp' 8 10) (ay_at hp' 8 3) (ay_at hp' 8 4) (ay_at hp' 11) (ay_at hp' 12)
    rw [e0, e1, e2, e3, e4, e5, e6, e7, e8, e9, e10, e11, e12, e13]
    exact hX
  | 55, [g, n], hX =>
    have hdl : [(2, 5), (2, 6), (1, 0), (1, 1), (1, 2), (1, 3), (1, 4), (2, 9), (2, 11), (2, 10), (2, 3), (2, 4), (14, 999), (15, 999)] = dl := Option.some.inj hdl
    subst hdl
    obtain ⟨x8, x10, x11, x12, hX⟩ := hX
    have e0 : ay_at hp' 8 5 = ay_at hp 8 5 := ay_same1 hR x8 (g := 2) rfl (List.all_eq_true.mp hall (2, 5) (by simp))
    have e1 : ay_at hp' 8 6 = ay_at hp 8 6 := ay_same1 hR x8 (g := 2) rfl (List.all_eq_true.mp hall (2, 6) (by simp))
    have e2 : ay_at hp' 10 0 = ay_at hp 10 0 := ay_same1 hR x10 (g := 1) rfl (List.all_eq_true.mp hall (1, 0) (by simp))
    have e3 : ay_at hp' 10 1 = ay_at hp 10 1 := ay_same1 hR x10 (g := 1) rfl (List.all_eq_true.mp hall (1, 1) (by simp))
    have e4 : ay_at hp' 10 2 = ay_at hp 10 2 := ay_same1 hR x10 (g := 1) rfl (List.all_eq_true.mp hall (1, 2) (by simp))
    have e5 : ay_at hp' 10 3 = ay_at hp 10 3 := ay_same1 hR x10 (g := 1) rfl (List.all_eq_true.mp hall (1, 3) (by simp))
    have e6 : ay_at hp' 10 4 = ay_at hp 10 4 := ay_same1 hR x10 (g := 1) rfl (List.all_eq_true.mp hall (1, 4) (by simp))
    have e7 : ay_at hp' 8 9 = ay_at hp 8 9 := ay_same1 hR x8 (g := 2) rfl (List.all_eq_true.mp hall (2, 9) (by simp))
    have e8 : ay_at hp' 8 11 = ay_at hp 8 11 := ay_same1 hR x8 (g := 2) rfl (List.all_eq_true.mp hall (2, 11) (by simp))
    have e9 : ay_at hp' 8 10 = ay_at hp 8 10 := ay_same1 hR x8 (g := 2) rfl (List.all_eq_true.mp hall (2, 10) (by simp))
    have e10 : ay_at hp' 8 3 = ay_at hp 8 3 := ay_same1 hR x8 (g := 2) rfl (List.all_eq_true.mp hall (2, 3) (by simp))
    have e11 : ay_at hp' 8 4 = ay_at hp 8 4 := ay_same1 hR x8 (g := 2) rfl (List.all_eq_true.mp hall (2, 4) (by simp))
    have e12 : ay_at hp' 11 = ay_at hp 11 := ay_same hR x11 (g := 14) rfl (List.all_eq_true.mp hall (14, 999) (by simp))
    have e13 : ay_at hp' 12 = ay_at hp 12 := ay_same hR x12 (g := 15) rfl (List.all_eq_true.mp hall (15, 999) (by simp))
    refine ⟨ay_ex_same hR x8 (g := 2) rfl, ay_ex_same hR x10 (g := 1) rfl, ay_ex_same hR x11 (g := 14) rfl, ay_ex_same hR x12 (g := 15) rfl, ?_⟩
    show pz_x55 g n (ay_at hp' 8 5) (ay_at hp' 8 6) (ay_at hp' 10 0) (ay_at hp' 10 1) (ay_at hp' 10 2) (ay_at hp' 10 3) (ay_at hp' 10 4) (ay_at hp' 8 9) (ay_at hp' 8 11) (ay_at hp' 8 10) (ay_at hp' 8 3) (ay_at hp' 8 4) (ay_at hp' 11) (ay_at hp' 12)
    rw [e0, e1, e2, e3, e4, e5, e6, e7, e8, e9, e10, e11, e12, e13]
    exact hX
  | 56, [g, n], hX =>
    have hdl : [(2, 5), (2, 6), (2, 7), (1, 0), (1, 1), (1, 2), (1, 3), (1, 4), (2, 9), (2, 11), (2, 10), (2, 3), (2, 4), (14, 999), (15, 999)] = dl := Option.some.inj hdl
    subst hdl
    obtain ⟨x8, x10, x11, x12, hX⟩ := hX
    have e0 : ay_at hp' 8 5 = ay_at hp 8 5 := ay_same1 hR x8 (g := 2) rfl (List.all_eq_true.mp hall (2, 5) (by simp))
    have e1 : ay_at hp' 8 6 = ay_at hp 8 6 := ay_same1 hR x8 (g := 2) rfl (List.all_eq_true.mp hall (2, 6) (by simp))
    have e2 : ay_at hp' 8 7 = ay_at hp 8 7 := ay_same1 hR x8 (g := 2) rfl (List.all_eq_true.mp hall (2, 7) (by simp))
    have e3 : ay_at hp' 10 0 = ay_at hp 10 0 := ay_same1 hR x10 (g := 1) rfl (List.all_eq_true.mp hall (1, 0) (by simp))
    have e4 : ay_at hp' 10 1 = ay_at hp 10 1 := ay_same1 hR x10 (g := 1) rfl (List.all_eq_true.mp hall (1, 1) (by simp))
    have e5 : ay_at hp' 10 2 = ay_at hp 10 2 := ay_same1 hR x10 (g := 1) rfl (List.all_eq_true.mp hall (1, 2) (by simp))
    have e6 : ay_at hp' 10 3 = ay_at hp 10 3 := ay_same1 hR x10 (g := 1) rfl (List.all_eq_true.mp hall (1, 3) (by simp))
    have e7 : ay_at hp' 10 4 = ay_at hp 10 4 := ay_same1 hR x10 (g := 1) rfl (List.all_eq_true.mp hall (1, 4) (by simp))
    have e8 : ay_at hp' 8 9 = ay_at hp 8 9 := ay_same1 hR x8 (g := 2) rfl (List.all_eq_true.mp hall (2, 9) (by simp))
    have e9 : ay_at hp' 8 11 = ay_at hp 8 11 := ay_same1 hR x8 (g := 2) rfl (List.all_eq_true.mp hall (2, 11) (by simp))
    have e10 : ay_at hp' 8 10 = ay_at hp 8 10 := ay_same1 hR x8 (g := 2) rfl (List.all_eq_true.mp hall (2, 10) (by simp))
    have e11 : ay_at hp' 8 3 = ay_at hp 8 3 := ay_same1 hR x8 (g := 2) rfl (List.all_eq_true.mp hall (2, 3) (by simp))
    have e12 : ay_at hp' 8 4 = ay_at hp 8 4 := ay_same1 hR x8 (g := 2) rfl (List.all_eq_true.mp hall (2, 4) (by simp))
    have e13 : ay_at hp' 11 = ay_at hp 11 := ay_same hR x11 (g := 14) rfl (List.all_eq_true.mp hall (14, 999) (by simp))
    have e14 : ay_at hp' 12 = ay_at hp 12 := ay_same hR x12 (g := 15) rfl (List.all_eq_true.mp hall (15, 999) (by simp))
    refine ⟨ay_ex_same hR x8 (g := 2) rfl, ay_ex_same hR x10 (g := 1) rfl, ay_ex_same hR x11 (g := 14) rfl, ay_ex_same hR x12 (g := 15) rfl, ?_⟩
    show pz_x56 g n (ay_at hp' 8 5) (ay_at hp' 8 6) (ay_at hp' 8 7) (ay_at hp' 10 0) (ay_at hp' 10 1) (ay_at hp' 10 2) (ay_at hp' 10 3) (ay_at hp' 10 4) (ay_at hp' 8 9) (ay_at hp' 8 11) (ay_at hp' 8 10) (ay_at hp' 8 3) (ay_at hp' 8 4) (ay_at hp' 11) (ay_at hp' 12)
    rw [e0, e1, e2, e3, e4, e5, e6, e7, e8, e9, e10, e11, e12, e13, e14]
    exact hX
  | 57, [g, n], hX =>
    have hdl : [(2, 5), (2, 6), (2, 7), (1, 0), (1, 1), (1, 2), (1, 3), (1, 4), (2, 9), (2, 11), (2, 10), (2, 3), (2, 4), (14, 999), (15, 999)] = dl := Option.some.inj hdl
    subst hdl
    obtain ⟨x8, x10, x11, x12, hX⟩ := hX
    have e0 : ay_at hp' 8 5 = ay_at hp 8 5 := ay_same1 hR x8 (g := 2) rfl (List.all_eq_true.mp hall (2, 5) (by simp))
    have e1 : ay_at hp' 8 6 = ay_at hp 8 6 := ay_same1 hR x8 (g := 2) rfl (List.all_eq_true.mp hall (2, 6) (by simp))
    have e2 : ay_at hp' 8 7 = ay_at hp 8 7 := ay_same1 hR x8 (g := 2) rfl (List.all_eq_true.mp hall (2, 7) (by simp))
    have e3 : ay_at hp' 10 0 = ay_at hp 10 0 := ay_same1 hR x10 (g := 1) rfl (List.all_eq_true.mp hall (1, 0) (by simp))
    have e4 : ay_at hp' 10 1 = ay_at hp 10 1 := ay_same1 hR x10 (g := 1) rfl (List.all_eq_true.mp hall (1, 1) (by simp))
    have e5 : ay_at hp' 10 2 = ay_at hp 10 2 := ay_same1 hR x10 (g := 1) rfl (List.all_eq_true.mp hall (1, 2) (by simp))
    have e6 : ay_at hp' 10 3 = ay_at hp 10 3 := ay_same1 hR x10 (g := 1) rfl (List.all_eq_true.mp hall (1, 3) (by simp))
    have e7 : ay_at hp' 10 4 = ay_at hp 10 4 := ay_same1 hR x10 (g := 1) rfl (List.all_eq_true.mp hall (1, 4) (by simp))
    have e8 : ay_at hp' 8 9 = ay_at hp 8 9 := ay_same1 hR x8 (g := 2) rfl (List.all_eq_true.mp hall (2, 9) (by simp))
    have e9 : ay_at hp' 8 11 = ay_at hp 8 11 := ay_same1 hR x8 (g := 2) rfl (List.all_eq_true.mp hall (2, 11) (by simp))
    have e10 : ay_at hp' 8 10 = ay_at hp 8 10 := ay_same1 hR x8 (g := 2) rfl (List.all_eq_true.mp hall (2, 10) (by simp))
    have e11 : ay_at hp' 8 3 = ay_at hp 8 3 := ay_same1 hR x8 (g := 2) rfl (List.all_eq_true.mp hall (2, 3) (by simp))
    have e12 : ay_at hp' 8 4 = ay_at hp 8 4 := ay_same1 hR x8 (g := 2) rfl (List.all_eq_true.mp hall (2, 4) (by simp))
    have e13 : ay_at hp' 11 = ay_at hp 11 := ay_same hR x11 (g := 14) rfl (List.all_eq_true.mp hall (14, 999) (by simp))
    have e14 : ay_at hp' 12 = ay_at hp 12 := ay_same hR x12 (g := 15) rfl (List.all_eq_true.mp hall (15, 999) (by simp))
    refine ⟨ay_ex_same hR x8 (g := 2) rfl, ay_ex_same hR x10 (g := 1) rfl, ay_ex_same hR x11 (g := 14) rfl, ay_ex_same hR x12 (g := 15) rfl, ?_⟩
    show pz_x57 g n (ay_at hp' 8 5) (ay_at hp' 8 6) (ay_at hp' 8 7) (ay_at hp' 10 0) (ay_at hp' 10 1) (ay_at hp' 10 2) (ay_at hp' 10 3) (ay_at hp' 10 4) (ay_at hp' 8 9) (ay_at hp' 8 11) (ay_at hp' 8 10) (ay_at hp' 8 3) (ay_at hp' 8 4) (ay_at hp' 11) (ay_at hp' 12)
    rw [e0, e1, e2, e3, e4, e5, e6, e7, e8, e9, e10, e11, e12, e13, e14]
    exact hX
  | 58, [g, n], hX =>
    have hdl : [(2, 5), (2, 6), (2, 7), (2, 8), (1, 0), (1, 1), (1, 2), (1, 3), (1, 4), (2, 9), (2, 11), (2, 10), (2, 3), (2, 4), (14, 999), (15, 999)] = dl := Option.some.inj hdl
    subst hdl
    obtain ⟨x8, x10, x11, x12, hX⟩ := hX
    have e0 : ay_at hp' 8 5 = ay_at hp 8 5 := ay_same1 hR x8 (g := 2) rfl (List.all_eq_true.mp hall (2, 5) (by simp))
    have e1 : ay_at hp' 8 6 = ay_at hp 8 6 := ay_same1 hR x8 (g := 2) rfl (List.all_eq_true.mp hall (2, 6) (by simp))
    have e2 : ay_at hp' 8 7 = ay_at hp 8 7 := ay_same1 hR x8 (g := 2) rfl (List.all_eq_true.mp hall (2, 7) (by simp))
    have e3 : ay_at hp' 8 8 = ay_at hp 8 8 := ay_same1 hR x8 (g := 2) rfl (List.all_eq_true.mp hall (2, 8) (by simp))
    have e4 : ay_at hp' 10 0 = ay_at hp 10 0 := ay_same1 hR x10 (g := 1) rfl (List.all_eq_true.mp hall (1, 0) (by simp))
    have e5 : ay_at hp' 10 1 = ay_at hp 10 1 := ay_same1 hR x10 (g := 1) rfl (List.all_eq_true.mp hall (1, 1) (by simp))
    have e6 : ay_at hp' 10 2 = ay_at hp 10 2 := ay_same1 hR x10 (g := 1) rfl (List.all_eq_true.mp hall (1, 2) (by simp))
    have e7 : ay_at hp' 10 3 = ay_at hp 10 3 := ay_same1 hR x10 (g := 1) rfl (List.all_eq_true.mp hall (1, 3) (by simp))
    have e8 : ay_at hp' 10 4 = ay_at hp 10 4 := ay_same1 hR x10 (g := 1) rfl (List.all_eq_true.mp hall (1, 4) (by simp))
    have e9 : ay_at hp' 8 9 = ay_at hp 8 9 := ay_same1 hR x8 (g := 2) rfl (List.all_eq_true.mp hall (2, 9) (by simp))
    have e10 : ay_at hp' 8 11 = ay_at hp 8 11 := ay_same1 hR x8 (g := 2) rfl (List.all_eq_true.mp hall (2, 11) (by simp))
    have e11 : ay_at hp' 8 10 = ay_at hp 8 10 := ay_same1 hR x8 (g := 2) rfl (List.all_eq_true.mp hall (2, 10) (by simp))
    have e12 : ay_at hp' 8 3 = ay_at hp 8 3 := ay_same1 hR x8 (g := 2) rfl (List.all_eq_true.mp hall (2, 3) (by simp))
    have e13 : ay_at hp' 8 4 = ay_at hp 8 4 := ay_same1 hR x8 (g := 2) rfl (List.all_eq_true.mp hall (2, 4) (by simp))
    have e14 : ay_at hp' 11 = ay_at hp 11 := ay_same hR x11 (g := 14) rfl (List.all_eq_true.mp hall (14, 999) (by simp))
    have e15 : ay_at hp' 12 = ay_at hp 12 := ay_same hR x12 (g := 15) rfl (List.all_eq_true.mp hall (15, 999) (by simp))
    refine ⟨ay_ex_same hR x8 (g := 2) rfl, ay_ex_same hR x10 (g := 1) rfl, ay_ex_same hR x11 (g := 14) rfl, ay_ex_same hR x12 (g := 15) rfl, ?_⟩
    show pz_x58 g n (ay_at hp' 8 5) (ay_at hp' 8 6) (ay_at hp' 8 7) (ay_at hp' 8 8) (ay_at hp' 10 0) (ay_at hp' 10 1) (ay_at hp' 10 2) (ay_at hp' 10 3) (ay_at hp' 10 4) (ay_at hp' 8 9) (ay_at hp' 8 11) (ay_at hp' 8 10) (ay_at hp' 8 3) (ay_at hp' 8 4) (ay_at hp' 11) (ay_at hp' 12)
    rw [e0, e1, e2, e3, e4, e5, e6, e7, e8, e9, e10, e11, e12, e13, e14, e15]
    exact hX
  | 59, [g, n], hX =>
    have hdl : [(2, 5), (2, 6), (2, 7), (2, 8), (1, 0), (1, 1), (1, 2), (1, 3), (1, 4), (2, 9), (2, 11), (2, 10), (2, 3), (2, 4), (14, 999), (15, 999)] = dl := Option.some.inj hdl
    subst hdl
    obtain ⟨x8, x10, x11, x12, hX⟩ := hX
    have e0 : ay_at hp' 8 5 = ay_at hp 8 5 := ay_same1 hR x8 (g := 2) rfl (List.all_eq_true.mp hall (2, 5) (by simp))
    have e1 : ay_at hp' 8 6 = ay_at hp 8 6 := ay_same1 hR x8 (g := 2) rfl (List.all_eq_true.mp hall (2, 6) (by simp))
    have e2 : ay_at hp' 8 7 = ay_at hp 8 7 := ay_same1 hR x8 (g := 2) rfl (List.all_eq_true.mp hall (2, 7) (by simp))
    have e3 : ay_at hp' 8 8 = ay_at hp 8 8 := ay_same1 hR x8 (g := 2) rfl (List.all_eq_true.mp hall (2, 8) (by simp))
    have e4 : ay_at hp' 10 0 = ay_at hp 10 0 := ay_same1 hR x10 (g := 1) rfl (List.all_eq_true.mp hall (1, 0) (by simp))
    have e5 : ay_at hp' 10 1 = ay_at hp 10 1 := ay_same1 hR x10 (g := 1) rfl (List.all_eq_true.mp hall (1, 1) (by simp))
    have e6 : ay_at hp' 10 2 = ay_at hp 10 2 := ay_same1 hR x10 (g := 1) rfl (List.all_eq_true.mp hall (1, 2) (by simp))
    have e7 : ay_at hp' 10 3 = ay_at hp 10 3 := ay_same1 hR x10 (g := 1) rfl (List.all_eq_true.mp hall (1, 3) (by simp))
    have e8 : ay_at hp' 10 4 = ay_at hp 10 4 := ay_same1 hR x10 (g := 1) rfl (List.all_eq_true.mp hall (1, 4) (by simp))
    have e9 : ay_at hp' 8 9 = ay_at hp 8 9 := ay_same1 hR x8 (g := 2) rfl (List.all_eq_true.mp hall (2, 9) (by simp))
    have e10 : ay_at hp' 8 11 = ay_at hp 8 11 := ay_same1 hR x8 (g := 2) rfl (List.all_eq_true.mp hall (2, 11) (by simp))
    have e11 : ay_at hp' 8 10 = ay_at hp 8 10 := ay_same1 hR x8 (g := 2) rfl (List.all_eq_true.mp hall (2, 10) (by simp))
    have e12 : ay_at hp' 8 3 = ay_at hp 8 3 := ay_same1 hR x8 (g := 2) rfl (List.all_eq_true.mp hall (2, 3) (by simp))
    have e13 : ay_at hp' 8 4 = ay_at hp 8 4 := ay_same1 hR x8 (g := 2) rfl (List.all_eq_true.mp hall (2, 4) (by simp))
    have e14 : ay_at hp' 11 = ay_at hp 11 := ay_same hR x11 (g := 14) rfl (List.all_eq_true.mp hall (14, 999) (by simp))
    have e15 : ay_at hp' 12 = ay_at hp 12 := ay_same hR x12 (g := 15) rfl (List.all_eq_true.mp hall (15, 999) (by simp))
    refine ⟨ay_ex_same hR x8 (g := 2) rfl, ay_ex_same hR x10 (g := 1) rfl, ay_ex_same hR x11 (g := 14) rfl, ay_ex_same hR x12 (g := 15) rfl, ?_⟩
    show pz_x59 g n (ay_at hp' 8 5) (ay_at hp' 8 6) (ay_at hp' 8 7) (ay_at hp' 8 8) (ay_at hp' 10 0) (ay_at hp' 10 1) (ay_at hp' 10 2) (ay_at hp' 10 3) (ay_at hp' 10 4) (ay_at hp' 8 9) (ay_at hp' 8 11) (ay_at hp' 8 10) (ay_at hp' 8 3) (ay_at hp' 8 4) (ay_at hp' 11) (ay_at hp' 12)
    rw [e0, e1, e2, e3, e4, e5, e6, e7, e8, e9, e10, e11, e12, e13, e14, e15]
    exact hX
  | 60, [g, n, w], hX => exact hX
  | 61, [g, n, w], hX => exact hX
  | 62, [g, n, w, i], hX => exact hX
  | 63, [g], hX =>
    have hdl : [(2, 3), (2, 4)] = dl := Option.some.inj hdl
    subst hdl
    obtain ⟨x8, hX⟩ := hX
    have e0 : ay_at hp' 8 3 = ay_at hp 8 3 := ay_same1 hR x8 (g := 2) rfl (List.all_eq_true.mp hall (2, 3) (by simp))
    have e1 : ay_at hp' 8 4 = ay_at hp 8 4 := ay_same1 hR x8 (g := 2) rfl (List.all_eq_true.mp hall (2, 4) (by simp))
    refine ⟨ay_ex_same hR x8 (g := 2) rfl, ?_⟩
    show pz63 (pz_gt g) (pz_gN g) (ay_ln (ay_at hp' 8 3)) (ay_ln (ay_at hp' 8 4))
    rw [e0, e1]
    exact hX
  | 64, [g, n, k], hX => exact hX
  | 65, [g, n, k], hX =>
    have hdl : [(2, 6), (2, 3)] = dl := Option.some.inj hdl
    subst hdl
    obtain ⟨x8, hX⟩ := hX
    have e0 : ay_at hp' 8 6 = ay_at hp 8 6 := ay_same1 hR x8 (g := 2) rfl (List.all_eq_true.mp hall (2, 6) (by simp))
    have e1 : ay_at hp' 8 3 = ay_at hp 8 3 := ay_same1 hR x8 (g := 2) rfl (List.all_eq_true.mp hall (2, 3) (by simp))
    refine ⟨ay_ex_same hR x8 (g := 2) rfl, ?_⟩
    show pz_x65 g n k (ay_at hp' 8 6) (ay_at hp' 8 3)
    rw [e0, e1]
    exact hX
  | 66, [g, n, v], hX => exact hX
  | 67, [g, n, a], hX => exact hX
  | 70, [g, n], hX => exact hX
  | 71, [g, n], hX => exact hX
  | 72, [g, n], hX => exact hX
  | 73, [g, n], hX => exact hX
  | 74, [g, n], hX => exact hX
  | 75, [g, n], hX => exact hX
  | 76, [g, n], hX => exact hX
  | 77, [g, n], hX => exact hX
  | 78, [g, n], hX => exact hX
  | 79, [g, n], hX => exact hX
  | 90, [g, n, s], hX => exact hX
  | 91, [s, l], hX => exact hX
  | 92, [s, r], hX => exact hX
  | 93, [r, s], hX => exact hX
  | 94, [g, n], hX => exact hX
  | 95, [g, n], hX => exact hX
  | 97, [n, i], hX => exact hX
  | 103, [g, n, m], hX => exact hX
  | 104, [g, n, v], hX => exact hX
  | 106, [g, n, o], hX => exact hX
  | 107, [g, n, o], hX => exact hX
  | 108, [s, r], hX => exact hX
  | 110, [g], hX =>
    have hdl : [(1, 0), (1, 1), (1, 2), (1, 3), (1, 4), (2, 9), (2, 11), (2, 10), (2, 3), (2, 4), (14, 999), (15, 999)] = dl := Option.some.inj hdl
    subst hdl
    obtain ⟨x10, x8, x11, x12, hX⟩ := hX
    have e0 : ay_at hp' 10 0 = ay_at hp 10 0 := ay_same1 hR x10 (g := 1) rfl (List.all_eq_true.mp hall (1, 0) (by simp))
    have e1 : ay_at hp' 10 1 = ay_at hp 10 1 := ay_same1 hR x10 (g := 1) rfl (List.all_eq_true.mp hall (1, 1) (by simp))
    have e2 : ay_at hp' 10 2 = ay_at hp 10 2 := ay_same1 hR x10 (g := 1) rfl (List.all_eq_true.mp hall (1, 2) (by simp))
    have e3 : ay_at hp' 10 3 = ay_at hp 10 3 := ay_same1 hR x10 (g := 1) rfl (List.all_eq_true.mp hall (1, 3) (by simp))
    have e4 : ay_at hp' 10 4 = ay_at hp 10 4 := ay_same1 hR x10 (g := 1) rfl (List.all_eq_true.mp hall (1, 4) (by simp))
    have e5 : ay_at hp' 8 9 = ay_at hp 8 9 := ay_same1 hR x8 (g := 2) rfl (List.all_eq_true.mp hall (2, 9) (by simp))
    have e6 : ay_at hp' 8 11 = ay_at hp 8 11 := ay_same1 hR x8 (g := 2) rfl (List.all_eq_true.mp hall (2, 11) (by simp))
    have e7 : ay_at hp' 8 10 = ay_at hp 8 10 := ay_same1 hR x8 (g := 2) rfl (List.all_eq_true.mp hall (2, 10) (by simp))
    have e8 : ay_at hp' 8 3 = ay_at hp 8 3 := ay_same1 hR x8 (g := 2) rfl (List.all_eq_true.mp hall (2, 3) (by simp))
    have e9 : ay_at hp' 8 4 = ay_at hp 8 4 := ay_same1 hR x8 (g := 2) rfl (List.all_eq_true.mp hall (2, 4) (by simp))
    have e10 : ay_at hp' 11 = ay_at hp 11 := ay_same hR x11 (g := 14) rfl (List.all_eq_true.mp hall (14, 999) (by simp))
    have e11 : ay_at hp' 12 = ay_at hp 12 := ay_same hR x12 (g := 15) rfl (List.all_eq_true.mp hall (15, 999) (by simp))
    refine ⟨ay_ex_same hR x10 (g := 1) rfl, ay_ex_same hR x8 (g := 2) rfl, ay_ex_same hR x11 (g := 14) rfl, ay_ex_same hR x12 (g := 15) rfl, ?_⟩
    show pz110 (pz_gt g) (pz_gN g) (ay_ln (ay_at hp' 10 0)) (ay_ln (ay_at hp' 10 1)) (ay_ln (ay_at hp' 10 2)) (ay_ln (ay_at hp' 10 3)) (ay_ln (ay_at hp' 10 4)) (ay_ln (ay_at hp' 8 9)) (ay_ln (ay_at hp' 8 11)) (ay_ln (ay_at hp' 8 10)) (ay_ln (ay_at hp' 8 3)) (ay_ln (ay_at hp' 8 4)) (ay_at hp' 11) (ay_at hp' 12)
    rw [e0, e1, e2, e3, e4, e5, e6, e7, e8, e9, e10, e11]
    exact hX
  | 111, [g, n], hX => exact hX
  | 112, [g, n, a, b], hX => exact hX
  | 113, [g, n, a, b], hX => exact hX
  | 114, [g, n, a, b, i], hX => exact hX
  | 116, [g, n, a, b, l], hX =>
    have hdl : [(2, 5), (1, 0), (1, 1), (1, 2), (1, 3), (1, 4), (2, 9), (2, 11), (2, 10), (2, 3), (2, 4), (14, 999), (15, 999)] = dl := Option.some.inj hdl
    subst hdl
    obtain ⟨x8, x10, x11, x12, hX⟩ := hX
    have e0 : ay_at hp' 8 5 = ay_at hp 8 5 := ay_same1 hR x8 (g := 2) rfl (List.all_eq_true.mp hall (2, 5) (by simp))
    have e1 : ay_at hp' 10 0 = ay_at hp 10 0 := ay_same1 hR x10 (g := 1) rfl (List.all_eq_true.mp hall (1, 0) (by simp))
    have e2 : ay_at hp' 10 1 = ay_at hp 10 1 := ay_same1 hR x10 (g := 1) rfl (List.all_eq_true.mp hall (1, 1) (by simp))
    have e3 : ay_at hp' 10 2 = ay_at hp 10 2 := ay_same1 hR x10 (g := 1) rfl (List.all_eq_true.mp hall (1, 2) (by simp))
    have e4 : ay_at hp' 10 3 = ay_at hp 10 3 := ay_same1 hR x10 (g := 1) rfl (List.all_eq_true.mp hall (1, 3) (by simp))
    have e5 : ay_at hp' 10 4 = ay_at hp 10 4 := ay_same1 hR x10 (g := 1) rfl (List.all_eq_true.mp hall (1, 4) (by simp))
    have e6 : ay_at hp' 8 9 = ay_at hp 8 9 := ay_same1 hR x8 (g := 2) rfl (List.all_eq_true.mp hall (2, 9) (by simp))
    have e7 : ay_at hp' 8 11 = ay_at hp 8 11 := ay_same1 hR x8 (g := 2) rfl (List.all_eq_true.mp hall (2, 11) (by simp))
    have e8 : ay_at hp' 8 10 = ay_at hp 8 10 := ay_same1 hR x8 (g := 2) rfl (List.all_eq_true.mp hall (2, 10) (by simp))
    have e9 : ay_at hp' 8 3 = ay_at hp 8 3 := ay_same1 hR x8 (g := 2) rfl (List.all_eq_true.mp hall (2, 3) (by simp))
    have e10 : ay_at hp' 8 4 = ay_at hp 8 4 := ay_same1 hR x8 (g := 2) rfl (List.all_eq_true.mp hall (2, 4) (by simp))
    have e11 : ay_at hp' 11 = ay_at hp 11 := ay_same hR x11 (g := 14) rfl (List.all_eq_true.mp hall (14, 999) (by simp))
    have e12 : ay_at hp' 12 = ay_at hp 12 := ay_same hR x12 (g := 15) rfl (List.all_eq_true.mp hall (15, 999) (by simp))
    refine ⟨ay_ex_same hR x8 (g := 2) rfl, ay_ex_same hR x10 (g := 1) rfl, ay_ex_same hR x11 (g := 14) rfl, ay_ex_same hR x12 (g := 15) rfl, ?_⟩
    show pz_xal 1 g n a b l (ay_at hp' 8 5) (ay_at hp' 10 0) (ay_at hp' 10 1) (ay_at hp' 10 2) (ay_at hp' 10 3) (ay_at hp' 10 4) (ay_at hp' 8 9) (ay_at hp' 8 11) (ay_at hp' 8 10) (ay_at hp' 8 3) (ay_at hp' 8 4) (ay_at hp' 11) (ay_at hp' 12)
    rw [e0, e1, e2, e3, e4, e5, e6, e7, e8, e9, e10, e11, e12]
    exact hX
  | 117, [g, n, a, b, l], hX =>
    have hdl : [(2, 5), (1, 0), (1, 1), (1, 2), (1, 3), (1, 4), (2, 9), (2, 11), (2, 10), (2, 3), (2, 4), (14, 999), (15, 999)] = dl := Option.some.inj hdl
    subst hdl
    obtain ⟨x8, x10, x11, x12, hX⟩ := hX
    have e0 : ay_at hp' 8 5 = ay_at hp 8 5 := ay_same1 hR x8 (g := 2) rfl (List.all_eq_true.mp hall (2, 5) (by simp))
    have e1 : ay_at hp' 10 0 = ay_at hp 10 0 := ay_same1 hR x10 (g := 1) rfl (List.all_eq_true.mp hall (1, 0) (by simp))
    have e2 : ay_at hp' 10 1 = ay_at hp 10 1 := ay_same1 hR x10 (g := 1) rfl (List.all_eq_true.mp hall (1, 1) (by simp))
    have e3 : ay_at hp' 10 2 = ay_at hp 10 2 := ay_same1 hR x10 (g := 1) rfl (List.all_eq_true.mp hall (1, 2) (by simp))
    have e4 : ay_at hp' 10 3 = ay_at hp 10 3 := ay_same1 hR x10 (g := 1) rfl (List.all_eq_true.mp hall (1, 3) (by simp))
    have e5 : ay_at hp' 10 4 = ay_at hp 10 4 := ay_same1 hR x10 (g := 1) rfl (List.all_eq_true.mp hall (1, 4) (by simp))
    have e6 : ay_at hp' 8 9 = ay_at hp 8 9 := ay_same1 hR x8 (g := 2) rfl (List.all_eq_true.mp hall (2, 9) (by simp))
    have e7 : ay_at hp' 8 11 = ay_at hp 8 11 := ay_same1 hR x8 (g := 2) rfl (List.all_eq_true.mp hall (2, 11) (by simp))
    have e8 : ay_at hp' 8 10 = ay_at hp 8 10 := ay_same1 hR x8 (g := 2) rfl (List.all_eq_true.mp hall (2, 10) (by simp))
    have e9 : ay_at hp' 8 3 = ay_at hp 8 3 := ay_same1 hR x8 (g := 2) rfl (List.all_eq_true.mp hall (2, 3) (by simp))
    have e10 : ay_at hp' 8 4 = ay_at hp 8 4 := ay_same1 hR x8 (g := 2) rfl (List.all_eq_true.mp hall (2, 4) (by simp))
    have e11 : ay_at hp' 11 = ay_at hp 11 := ay_same hR x11 (g := 14) rfl (List.all_eq_true.mp hall (14, 999) (by simp))
    have e12 : ay_at hp' 12 = ay_at hp 12 := ay_same hR x12 (g := 15) rfl (List.all_eq_true.mp hall (15, 999) (by simp))
    refine ⟨ay_ex_same hR x8 (g := 2) rfl, ay_ex_same hR x10 (g := 1) rfl, ay_ex_same hR x11 (g := 14) rfl, ay_ex_same hR x12 (g := 15) rfl, ?_⟩
    show pz_xal 2 g n a b l (ay_at hp' 8 5) (ay_at hp' 10 0) (ay_at hp' 10 1) (ay_at hp' 10 2) (ay_at hp' 10 3) (ay_at hp' 10 4) (ay_at hp' 8 9) (ay_at hp' 8 11) (ay_at hp' 8 10) (ay_at hp' 8 3) (ay_at hp' 8 4) (ay_at hp' 11) (ay_at hp' 12)
    rw [e0, e1, e2, e3, e4, e5, e6, e7, e8, e9, e10, e11, e12]
    exact hX
  | 118, [g, n, a, b, l], hX =>
    have hdl : [(2, 5), (1, 0), (1, 1), (1, 2), (1, 3), (1, 4), (2, 9), (2, 11), (2, 10), (2, 3), (2, 4), (14, 999), (15, 999)] = dl := Option.some.inj hdl
    subst hdl
    obtain ⟨x8, x10, x11, x12, hX⟩ := hX
    have e0 : ay_at hp' 8 5 = ay_at hp 8 5 := ay_same1 hR x8 (g := 2) rfl (List.all_eq_true.mp hall (2, 5) (by simp))
    have e1 : ay_at hp' 10 0 = ay_at hp 10 0 := ay_same1 hR x10 (g := 1) rfl (List.all_eq_true.mp hall (1, 0) (by simp))
    have e2 : ay_at hp' 10 1 = ay_at hp 10 1 := ay_same1 hR x10 (g := 1) rfl (List.all_eq_true.mp hall (1, 1) (by simp))
    have e3 : ay_at hp' 10 2 = ay_at hp 10 2 := ay_same1 hR x10 (g := 1) rfl (List.all_eq_true.mp hall (1, 2) (by simp))
    have e4 : ay_at hp' 10 3 = ay_at hp 10 3 := ay_same1 hR x10 (g := 1) rfl (List.all_eq_true.mp hall (1, 3) (by simp))
    have e5 : ay_at hp' 10 4 = ay_at hp 10 4 := ay_same1 hR x10 (g := 1) rfl (List.all_eq_true.mp hall (1, 4) (by simp))
    have e6 : ay_at hp' 8 9 = ay_at hp 8 9 := ay_same1 hR x8 (g := 2) rfl (List.all_eq_true.mp hall (2, 9) (by simp))
    have e7 : ay_at hp' 8 11 = ay_at hp 8 11 := ay_same1 hR x8 (g := 2) rfl (List.all_eq_true.mp hall (2, 11) (by simp))
    have e8 : ay_at hp' 8 10 = ay_at hp 8 10 := ay_same1 hR x8 (g := 2) rfl (List.all_eq_true.mp hall (2, 10) (by simp))
    have e9 : ay_at hp' 8 3 = ay_at hp 8 3 := ay_same1 hR x8 (g := 2) rfl (List.all_eq_true.mp hall (2, 3) (by simp))
    have e10 : ay_at hp' 8 4 = ay_at hp 8 4 := ay_same1 hR x8 (g := 2) rfl (List.all_eq_true.mp hall (2, 4) (by simp))
    have e11 : ay_at hp' 11 = ay_at hp 11 := ay_same hR x11 (g := 14) rfl (List.all_eq_true.mp hall (14, 999) (by simp))
    have e12 : ay_at hp' 12 = ay_at hp 12 := ay_same hR x12 (g := 15) rfl (List.all_eq_true.mp hall (15, 999) (by simp))
    refine ⟨ay_ex_same hR x8 (g := 2) rfl, ay_ex_same hR x10 (g := 1) rfl, ay_ex_same hR x11 (g := 14) rfl, ay_ex_same hR x12 (g := 15) rfl, ?_⟩
    show pz_xal 3 g n a b l (ay_at hp' 8 5) (ay_at hp' 10 0) (ay_at hp' 10 1) (ay_at hp' 10 2) (ay_at hp' 10 3) (ay_at hp' 10 4) (ay_at hp' 8 9) (ay_at hp' 8 11) (ay_at hp' 8 10) (ay_at hp' 8 3) (ay_at hp' 8 4) (ay_at hp' 11) (ay_at hp' 12)
    rw [e0, e1, e2, e3, e4, e5, e6, e7, e8, e9, e10, e11, e12]
    exact hX
  | 119, [g, n, a, b, l], hX =>
    have hdl : [(2, 5), (1, 0), (1, 1), (1, 2), (1, 3), (1, 4), (2, 9), (2, 11), (2, 10), (2, 3), (2, 4), (14, 999), (15, 999)] = dl := Option.some.inj hdl
    subst hdl
    obtain ⟨x8, x10, x11, x12, hX⟩ := hX
    have e0 : ay_at hp' 8 5 = ay_at hp 8 5 := ay_same1 hR x8 (g := 2) rfl (List.all_eq_true.mp hall (2, 5) (by simp))
    have e1 : ay_at hp' 10 0 = ay_at hp 10 0 := ay_same1 hR x10 (g := 1) rfl (List.all_eq_true.mp hall (1, 0) (by simp))
    have e2 : ay_at hp' 10 1 = ay_at hp 10 1 := ay_same1 hR x10 (g := 1) rfl (List.all_eq_true.mp hall (1, 1) (by simp))
    have e3 : ay_at hp' 10 2 = ay_at hp 10 2 := ay_same1 hR x10 (g := 1) rfl (List.all_eq_true.mp hall (1, 2) (by simp))
    have e4 : ay_at hp' 10 3 = ay_at hp 10 3 := ay_same1 hR x10 (g := 1) rfl (List.all_eq_true.mp hall (1, 3) (by simp))
    have e5 : ay_at hp' 10 4 = ay_at hp 10 4 := ay_same1 hR x10 (g := 1) rfl (List.all_eq_true.mp hall (1, 4) (by simp))
    have e6 : ay_at hp' 8 9 = ay_at hp 8 9 := ay_same1 hR x8 (g := 2) rfl (List.all_eq_true.mp hall (2, 9) (by simp))
    have e7 : ay_at hp' 8 11 = ay_at hp 8 11 := ay_same1 hR x8 (g := 2) rfl (List.all_eq_true.mp hall (2, 11) (by simp))
    have e8 : ay_at hp' 8 10 = ay_at hp 8 10 := ay_same1 hR x8 (g := 2) rfl (List.all_eq_true.mp hall (2, 10) (by simp))
    have e9 : ay_at hp' 8 3 = ay_at hp 8 3 := ay_same1 hR x8 (g := 2) rfl (List.all_eq_true.mp hall (2, 3) (by simp))
    have e10 : ay_at hp' 8 4 = ay_at hp 8 4 := ay_same1 hR x8 (g := 2) rfl (List.all_eq_true.mp hall (2, 4) (by simp))
    have e11 : ay_at hp' 11 = ay_at hp 11 := ay_same hR x11 (g := 14) rfl (List.all_eq_true.mp hall (14, 999) (by simp))
    have e12 : ay_at hp' 12 = ay_at hp 12 := ay_same hR x12 (g := 15) rfl (List.all_eq_true.mp hall (15, 999) (by simp))
    refine ⟨ay_ex_same hR x8 (g := 2) rfl, ay_ex_same hR x10 (g := 1) rfl, ay_ex_same hR x11 (g := 14) rfl, ay_ex_same hR x12 (g := 15) rfl, ?_⟩
    show pz_xal 4 g n a b l (ay_at hp' 8 5) (ay_at hp' 10 0) (ay_at hp' 10 1) (ay_at hp' 10 2) (ay_at hp' 10 3) (ay_at hp' 10 4) (ay_at hp' 8 9) (ay_at hp' 8 11) (ay_at hp' 8 10) (ay_at hp' 8 3) (ay_at hp' 8 4) (ay_at hp' 11) (ay_at hp' 12)
    rw [e0, e1, e2, e3, e4, e5, e6, e7, e8, e9, e10, e11, e12]
    exact hX
  | 122, [g, n], hX =>
    have hdl : [(2, 9)] = dl := Option.some.inj hdl
    subst hdl
    obtain ⟨x8, hX⟩ := hX
    have e0 : ay_at hp' 8 9 = ay_at hp 8 9 := ay_same1 hR x8 (g := 2) rfl (List.all_eq_true.mp hall (2, 9) (by simp))
    refine ⟨ay_ex_same hR x8 (g := 2) rfl, ?_⟩
    show (pz61 (pz_gt g) (pz_gN g) (n / 4) 2 ∨ ay_ln (ay_at hp' 8 9) = 1)
    rw [e0]
    exact hX
  | 123, [g, n], hX =>
    have hdl : [(2, 11)] = dl := Option.some.inj hdl
    subst hdl
    obtain ⟨x8, hX⟩ := hX
    have e0 : ay_at hp' 8 11 = ay_at hp 8 11 := ay_same1 hR x8 (g := 2) rfl (List.all_eq_true.mp hall (2, 11) (by simp))
    refine ⟨ay_ex_same hR x8 (g := 2) rfl, ?_⟩
    show (pz61 (pz_gt g) (pz_gN g) (n / 4) 3 ∨ ay_ln (ay_at hp' 8 11) = 1)
    rw [e0]
    exact hX
  | 124, [g, n], hX =>
    have hdl : [(2, 10)] = dl := Option.some.inj hdl
    subst hdl
    obtain ⟨x8, hX⟩ := hX
    have e0 : ay_at hp' 8 10 = ay_at hp 8 10 := ay_same1 hR x8 (g := 2) rfl (List.all_eq_true.mp hall (2, 10) (by simp))
    refine ⟨ay_ex_same hR x8 (g := 2) rfl, ?_⟩
    show (pz61 (pz_gt g) (pz_gN g) (n / 4) 4 ∨ ay_ln (ay_at hp' 8 10) = 1)
    rw [e0]
    exact hX
  | 33, [g, a, r], hX => exact hX
  | 34, [g, a, h, r], hX => exact hX
  | 35, [g], hX =>
    have hdl : [(2, 1), (20, 999)] = dl := Option.some.inj hdl
    subst hdl
    obtain ⟨x8, x9, hX⟩ := hX
    have e0 : ay_at hp' 8 1 = ay_at hp 8 1 := ay_same1 hR x8 (g := 2) rfl (List.all_eq_true.mp hall (2, 1) (by simp))
    have e1 : ay_at hp' 9 = ay_at hp 9 := ay_same hR x9 (g := 20) rfl (List.all_eq_true.mp hall (20, 999) (by simp))
    refine ⟨ay_ex_same hR x8 (g := 2) rfl, ay_ex_same hR x9 (g := 20) rfl, ?_⟩
    show pz_x35 g (ay_at hp' 8 1) (ay_at hp' 9)
    rw [e0, e1]
    exact hX
  | 36, [g, a, h, r], hX => exact hX
  | 37, [g, a, b, c, d, e, r], hX => exact hX
  | 38, [g, n, r], hX => exact hX
  | 39, [g, s], hX => exact hX
  | 126, [g, v], hX => exact hX
  | 127, [], hX =>
    have hdl : [(2, 3), (2, 4)] = dl := Option.some.inj hdl
    subst hdl
    obtain ⟨x8, hX⟩ := hX
    have e0 : ay_at hp' 8 3 = ay_at hp 8 3 := ay_same1 hR x8 (g := 2) rfl (List.all_eq_true.mp hall (2, 3) (by simp))
    have e1 : ay_at hp' 8 4 = ay_at hp 8 4 := ay_same1 hR x8 (g := 2) rfl (List.all_eq_true.mp hall (2, 4) (by simp))
    refine ⟨ay_ex_same hR x8 (g := 2) rfl, ?_⟩
    show (ay_ln (ay_at hp' 8 3) = 0 ∧ ay_ln (ay_at hp' 8 4) = 4294967295)
    rw [e0, e1]
    exact hX
  | 40, [l], hX => exact hX
  | 41, [l], hX =>
    have hdl : [(1, 5), (18, 999), (19, 999)] = dl := Option.some.inj hdl
    subst hdl
    obtain ⟨x10, x15, x16, hX⟩ := hX
    have e0 : ay_at hp' 10 5 = ay_at hp 10 5 := ay_same1 hR x10 (g := 1) rfl (List.all_eq_true.mp hall (1, 5) (by simp))
    have e1 : ay_at hp' 15 = ay_at hp 15 := ay_same hR x15 (g := 18) rfl (List.all_eq_true.mp hall (18, 999) (by simp))
    have e2 : ay_at hp' 16 = ay_at hp 16 := ay_same hR x16 (g := 19) rfl (List.all_eq_true.mp hall (19, 999) (by simp))
    refine ⟨ay_ex_same hR x10 (g := 1) rfl, ay_ex_same hR x15 (g := 18) rfl, ay_ex_same hR x16 (g := 19) rfl, ?_⟩
    show py_x41 l (ay_at hp' 10 5) (ay_at hp' 15) (ay_at hp' 16)
    rw [e0, e1, e2]
    exact hX
  | 42, [g, n, s, l, c], hX => exact hX
  | 44, [s], hX => exact hX
  | 45, [s], hX => exact hX
  | 46, [g, n, s, l], hX => exact hX
  | 47, [g, n, s, l], hX => exact hX
  | 48, [g, n, s, l], hX => exact hX
  | 49, [g, n, s, l], hX => exact hX
  | 80, [l, o], hX =>
    have hdl : [(1, 5), (18, 999), (19, 999)] = dl := Option.some.inj hdl
    subst hdl
    obtain ⟨x10, x15, x16, hX⟩ := hX
    have e0 : ay_at hp' 10 5 = ay_at hp 10 5 := ay_same1 hR x10 (g := 1) rfl (List.all_eq_true.mp hall (1, 5) (by simp))
    have e1 : ay_at hp' 15 = ay_at hp 15 := ay_same hR x15 (g := 18) rfl (List.all_eq_true.mp hall (18, 999) (by simp))
    have e2 : ay_at hp' 16 = ay_at hp 16 := ay_same hR x16 (g := 19) rfl (List.all_eq_true.mp hall (19, 999) (by simp))
    refine ⟨ay_ex_same hR x10 (g := 1) rfl, ay_ex_same hR x15 (g := 18) rfl, ay_ex_same hR x16 (g := 19) rfl, ?_⟩
    show py_x80 l o (ay_at hp' 10 5) (ay_at hp' 15) (ay_at hp' 16)
    rw [e0, e1, e2]
    exact hX
  | 81, [l, o, v], hX =>
    have hdl : [(1, 5), (18, 999), (19, 999)] = dl := Option.some.inj hdl
    subst hdl
    obtain ⟨x10, x15, x16, hX⟩ := hX
    have e0 : ay_at hp' 10 5 = ay_at hp 10 5 := ay_same1 hR x10 (g := 1) rfl (List.all_eq_true.mp hall (1, 5) (by simp))
    have e1 : ay_at hp' 15 = ay_at hp 15 := ay_same hR x15 (g := 18) rfl (List.all_eq_true.mp hall (18, 999) (by simp))
    have e2 : ay_at hp' 16 = ay_at hp 16 := ay_same hR x16 (g := 19) rfl (List.all_eq_true.mp hall (19, 999) (by simp))
    refine ⟨ay_ex_same hR x10 (g := 1) rfl, ay_ex_same hR x15 (g := 18) rfl, ay_ex_same hR x16 (g := 19) rfl, ?_⟩
    show py_x81 l o v (ay_at hp' 10 5) (ay_at hp' 15) (ay_at hp' 16)
    rw [e0, e1, e2]
    exact hX
  | 82, [g, l], hX => exact hX
  | 98, [n, m], hX => exact hX
  | 99, [r, c, s], hX => exact hX
  | 0, [], _ => trivial
  | 0, _ :: _ :: _, _ => trivial
  | 1, [], _ => trivial
  | 1, [_], _ => trivial
  | 1, [_, _], _ => trivial
  | 1, [_, _, _], _ => trivial
  | 1, _ :: _ :: _ :: _ :: _ :: _, _ => trivial
  | 2, _, _ => trivial
  | 3, _, _ => trivial
  | 4, _, _ => trivial
  | 5, _, _ => trivial
  | 6, _, _ => trivial
  | 7, _, _ => trivial
  | 8, _, _ => trivial
  | 9, _, _ => trivial
  | 10, _, _ => trivial
  | 11, _, _ => trivial
  | 12, _, _ => trivial
  | 13, _, _ => trivial
  | 14, _, _ => trivial
  | 15, _, _ => trivial
  | 16, _, _ => trivial
  | 17, _, _ => trivial
  | 18, _, _ => trivial
  | 19, _, _ => trivial
  | 20, _, _ => trivial
  | 21, _, _ => trivial
  | 22, _, _ => trivial
  | 23, _, _ => trivial
  | 24, _, _ => trivial
  | 25, _, _ => trivial
  | 26, _, _ => trivial
  | 27, _, _ => trivial
  | 28, _, _ => trivial
  | 29, _, _ => trivial
  | 30, [], _ => trivial
  | 30, _ :: _ :: _, _ => trivial
  | 31, _ :: _, _ => trivial
  | 32, _, _ => trivial
  | 33, [], _ => trivial
  | 33, [_], _ => trivial
  | 33, [_, _], _ => trivial
  | 33, _ :: _ :: _ :: _ :: _, _ => trivial
  | 34, [], _ => trivial
  | 34, [_], _ => trivial
  | 34, [_, _], _ => trivial
  | 34, [_, _, _], _ => trivial
  | 34, _ :: _ :: _ :: _ :: _ :: _, _ => trivial
  | 35, [], _ => trivial
  | 35, _ :: _ :: _, _ => trivial
  | 36, [], _ => trivial
  | 36, [_], _ => trivial
  | 36, [_, _], _ => trivial
  | 36, [_, _, _], _ => trivial
  | 36, _ :: _ :: _ :: _ :: _ :: _, _ => trivial
  | 37, [], _ => trivial
  | 37, [_], _ => trivial
  | 37, [_, _], _ => trivial
  | 37, [_, _, _], _ => trivial
  | 37, [_, _, _, _], _ => trivial
  | 37, [_, _, _, _, _], _ => trivial
  | 37, [_, _, _, _, _, _], _ => trivial
  | 37, _ :: _ :: _ :: _ :: _ :: _ :: _ :: _ :: _, _ => trivial
  | 38, [], _ => trivial
  | 38, [_], _ => trivial
  | 38, [_, _], _ => trivial
  | 38, _ :: _ :: _ :: _ :: _, _ => trivial
  | 39, [], _ => trivial
  | 39, [_], _ => trivial
  | 39, _ :: _ :: _ :: _, _ => trivial
  | 40, [], _ => trivial
  | 40, _ :: _ :: _, _ => trivial
  | 41, [], _ => trivial
  | 41, _ :: _ :: _, _ => trivial
  | 42, [], _ => trivial
  | 42, [_], _ => trivial
  | 42, [_, _], _ => trivial
  | 42, [_, _, _], _ => trivial
  | 42, [_, _, _, _], _ => trivial
  | 42, _ :: _ :: _ :: _ :: _ :: _ :: _, _ => trivial
  | 43, _, _ => trivial
  | 44, [], _ => trivial
  | 44, _ :: _ :: _, _ => trivial
  | 45, [], _ => trivial
  | 45, _ :: _ :: _, _ => trivial
  | 46, [], _ => trivial
  | 46, [_], _ => trivial
  | 46, [_, _], _ => trivial
  | 46, [_, _, _], _ => trivial
  | 46, _ :: _ :: _ :: _ :: _ :: _, _ => trivial
  | 47, [], _ => trivial
  | 47, [_], _ => trivial
  | 47, [_, _], _ => trivial
  | 47, [_, _, _], _ => trivial
  | 47, _ :: _ :: _ :: _ :: _ :: _, _ => trivial
  | 48, [], _ => trivial
  | 48, [_], _ => trivial
  | 48, [_, _], _ => trivial
  | 48, [_, _, _], _ => trivial
  | 48, _ :: _ :: _ :: _ :: _ :: _, _ => trivial
  | 49, [], _ => trivial
  | 49, [_], _ => trivial
  | 49, [_, _], _ => trivial
  | 49, [_, _, _], _ => trivial
  | 49, _ :: _ :: _ :: _ :: _ :: _, _ => trivial
  | 50, [], _ => trivial
  | 50, [_], _ => trivial
  | 50, _ :: _ :: _ :: _, _ => trivial
  | 51, _, _ => trivial
  | 52, _, _ => trivial
  | 53, [], _ => trivial
  | 53, [_], _ => trivial
  | 53, _ :: _ :: _ :: _, _ => trivial
  | 54, [], _ => trivial
  | 54, [_], _ => trivial
  | 54, _ :: _ :: _ :: _, _ => trivial
  | 55, [], _ => trivial
  | 55, [_], _ => trivial
  | 55, _ :: _ :: _ :: _, _ => trivial
  | 56, [], _ => trivial
  | 56, [_], _ => trivial
  | 56, _ :: _ :: _ :: _, _ => trivial
  | 57, [], _ => trivial
  | 57, [_], _ => trivial
  | 57, _ :: _ :: _ :: _, _ => trivial
  | 58, [], _ => trivial
  | 58, [_], _ => trivial
  | 58, _ :: _ :: _ :: _, _ => trivial
  | 59, [], _ => trivial
  | 59, [_], _ => trivial
  | 59, _ :: _ :: _ :: _, _ => trivial
  | 60, [], _ => trivial
  | 60, [_], _ => trivial
  | 60, [_, _], _ => trivial
  | 60, _ :: _ :: _ :: _ :: _, _ => trivial
  | 61, [], _ => trivial
  | 61, [_], _ => trivial
  | 61, [_, _], _ => trivial
  | 61, _ :: _ :: _ :: _ :: _, _ => trivial
  | 62, [], _ => trivial
  | 62, [_], _ => trivial
  | 62, [_, _], _ => trivial
  | 62, [_, _, _], _ => trivial
  | 62, _ :: _ :: _ :: _ :: _ :: _, _ => trivial
  | 63, [], _ => trivial
  | 63, _ :: _ :: _, _ => trivial
  | 64, [], _ => trivial
  | 64, [_], _ => trivial
  | 64, [_, _], _ => trivial
  | 64, _ :: _ :: _ :: _ :: _, _ => trivial
  | 65, [], _ => trivial
  | 65, [_], _ => trivial
  | 65, [_, _], _ => trivial
  | 65, _ :: _ :: _ :: _ :: _, _ => trivial
  | 66, [], _ => trivial
  | 66, [_], _ => trivial
  | 66, [_, _], _ => trivial
  | 66, _ :: _ :: _ :: _ :: _, _ => trivial
  | 67, [], _ => trivial
  | 67, [_], _ => trivial
  | 67, [_, _], _ => trivial
  | 67, _ :: _ :: _ :: _ :: _, _ => trivial
  | 68, _, _ => trivial
  | 69, _, _ => trivial
  | 70, [], _ => trivial
  | 70, [_], _ => trivial
  | 70, _ :: _ :: _ :: _, _ => trivial
  | 71, [], _ => trivial
  | 71, [_], _ => trivial
  | 71, _ :: _ :: _ :: _, _ => trivial
  | 72, [], _ => trivial
  | 72, [_], _ => trivial
  | 72, _ :: _ :: _ :: _, _ => trivial
  | 73, [], _ => trivial
  | 73, [_], _ => trivial
  | 73, _ :: _ :: _ :: _, _ => trivial
  | 74, [], _ => trivial
  | 74, [_], _ => trivial
  | 74, _ :: _ :: _ :: _, _ => trivial
  | 75, [], _ => trivial
  | 75, [_], _ => trivial
  | 75, _ :: _ :: _ :: _, _ => trivial
  | 76, [], _ => trivial
  | 76, [_], _ => trivial
  | 76, _ :: _ :: _ :: _, _ => trivial
  | 77, [], _ => trivial
  | 77, [_], _ => trivial
  | 77, _ :: _ :: _ :: _, _ => trivial
  | 78, [], _ => trivial
  | 78, [_], _ => trivial
  | 78, _ :: _ :: _ :: _, _ => trivial
  | 79, [], _ => trivial
  | 79, [_], _ => trivial
  | 79, _ :: _ :: _ :: _, _ => trivial
  | 80, [], _ => trivial
  | 80, [_], _ => trivial
  | 80, _ :: _ :: _ :: _, _ => trivial
  | 81, [], _ => trivial
  | 81, [_], _ => trivial
  | 81, [_, _], _ => trivial
  | 81, _ :: _ :: _ :: _ :: _, _ => trivial
  | 82, [], _ => trivial
  | 82, [_], _ => trivial
  | 82, _ :: _ :: _ :: _, _ => trivial
  | 83, _, _ => trivial
  | 84, _, _ => trivial
  | 85, _, _ => trivial
  | 86, _, _ => trivial
  | 87, _, _ => trivial
  | 88, _, _ => trivial
  | 89, _, _ => trivial
  | 90, [], _ => trivial
  | 90, [_], _ => trivial
  | 90, [_, _], _ => trivial
  | 90, _ :: _ :: _ :: _ :: _, _ => trivial
  | 91, [], _ => trivial
  | 91, [_], _ => trivial
  | 91, _ :: _ :: _ :: _, _ => trivial
  | 92, [], _ => trivial
  | 92, [_], _ => trivial
  | 92, _ :: _ :: _ :: _, _ => trivial
  | 93, [], _ => trivial
  | 93, [_], _ => trivial
  | 93, _ :: _ :: _ :: _, _ => trivial
  | 94, [], _ => trivial
  | 94, [_], _ => trivial
  | 94, _ :: _ :: _ :: _, _ => trivial
  | 95, [], _ => trivial
  | 95, [_], _ => trivial
  | 95, _ :: _ :: _ :: _, _ => trivial
  | 96, _, _ => trivial
  | 97, [], _ => trivial
  | 97, [_], _ => trivial
  | 97, _ :: _ :: _ :: _, _ => trivial
  | 98, [], _ => trivial
  | 98, [_], _ => trivial
  | 98, _ :: _ :: _ :: _, _ => trivial
  | 99, [], _ => trivial
  | 99, [_], _ => trivial
  | 99, [_, _], _ => trivial
  | 99, _ :: _ :: _ :: _ :: _, _ => trivial
  | 100, _, _ => trivial
  | 101, _, _ => trivial
  | 102, _, _ => trivial
  | 103, [], _ => trivial
  | 103, [_], _ => trivial
  | 103, [_, _], _ => trivial
  | 103, _ :: _ :: _ :: _ :: _, _ => trivial
  | 104, [], _ => trivial
  | 104, [_], _ => trivial
  | 104, [_, _], _ => trivial
  | 104, _ :: _ :: _ :: _ :: _, _ => trivial
  | 105, _, _ => trivial
  | 106, [], _ => trivial
  | 106, [_], _ => trivial
  | 106, [_, _], _ => trivial
  | 106, _ :: _ :: _ :: _ :: _, _ => trivial
  | 107, [], _ => trivial
  | 107, [_], _ => trivial
  | 107, [_, _], _ => trivial
  | 107, _ :: _ :: _ :: _ :: _, _ => trivial
  | 108, [], _ => trivial
  | 108, [_], _ => trivial
  | 108, _ :: _ :: _ :: _, _ => trivial
  | 109, _, _ => trivial
  | 110, [], _ => trivial
  | 110, _ :: _ :: _, _ => trivial
  | 111, [], _ => trivial
  | 111, [_], _ => trivial
  | 111, _ :: _ :: _ :: _, _ => trivial
  | 112, [], _ => trivial
  | 112, [_], _ => trivial
  | 112, [_, _], _ => trivial
  | 112, [_, _, _], _ => trivial
  | 112, _ :: _ :: _ :: _ :: _ :: _, _ => trivial
  | 113, [], _ => trivial
  | 113, [_], _ => trivial
  | 113, [_, _], _ => trivial
  | 113, [_, _, _], _ => trivial
  | 113, _ :: _ :: _ :: _ :: _ :: _, _ => trivial
  | 114, [], _ => trivial
  | 114, [_], _ => trivial
  | 114, [_, _], _ => trivial
  | 114, [_, _, _], _ => trivial
  | 114, [_, _, _, _], _ => trivial
  | 114, _ :: _ :: _ :: _ :: _ :: _ :: _, _ => trivial
  | 115, _, _ => trivial
  | 116, [], _ => trivial
  | 116, [_], _ => trivial
  | 116, [_, _], _ => trivial
  | 116, [_, _, _], _ => trivial
  | 116, [_, _, _, _], _ => trivial
  | 116, _ :: _ :: _ :: _ :: _ :: _ :: _, _ => trivial
  | 117, [], _ => trivial
  | 117, [_], _ => trivial
  | 117, [_, _], _ => trivial
  | 117, [_, _, _], _ => trivial
  | 117, [_, _, _, _], _ => trivial
  | 117, _ :: _ :: _ :: _ :: _ :: _ :: _, _ => trivial
  | 118, [], _ => trivial
  | 118, [_], _ => trivial
  | 118, [_, _], _ => trivial
  | 118, [_, _, _], _ => trivial
  | 118, [_, _, _, _], _ => trivial
  | 118, _ :: _ :: _ :: _ :: _ :: _ :: _, _ => trivial
  | 119, [], _ => trivial
  | 119, [_], _ => trivial
  | 119, [_, _], _ => trivial
  | 119, [_, _, _], _ => trivial
  | 119, [_, _, _, _], _ => trivial
  | 119, _ :: _ :: _ :: _ :: _ :: _ :: _, _ => trivial
  | 120, _, _ => trivial
  | 121, _, _ => trivial
  | 122, [], _ => trivial
  | 122, [_], _ => trivial
  | 122, _ :: _ :: _ :: _, _ => trivial
  | 123, [], _ => trivial
  | 123, [_], _ => trivial
  | 123, _ :: _ :: _ :: _, _ => trivial
  | 124, [], _ => trivial
  | 124, [_], _ => trivial
  | 124, _ :: _ :: _ :: _, _ => trivial
  | 125, _, _ => trivial
  | 126, [], _ => trivial
  | 126, [_], _ => trivial
  | 126, _ :: _ :: _ :: _, _ => trivial
  | 127, _ :: _, _ => trivial
  | _ + 128, _, _ => trivial
/-- done or undone is written -/
theorem ax_hsw {hp : rx_H} {j k k' v c d : Nat} (h256 : hp.1 ≤ 256) (h : ax_C0 k hp) {kk m : Nat} {l : List Nat} (f1 : rx_hg hp 49 = some (kk, m, l)) (f2 : l[j]? = some (4 * d)) (hv : v = 4 * c) (hj : (j = 2 ∨ j = 3)) (hs : ∀ u, d + u ≤ k / 4 → c + u ≤ k' / 4) : ax_C0 k' (ax_upd hp 206 (4 * j) v) := by
  obtain ⟨kk', n, d0, u0, f, e1, e2, e3, e4⟩ := h
  rw [f1] at e1
  cases e1
  have hg := ax_hg_upd (a := 206) (i := 4 * j) (v := v) h256 (show rx_hg hp (206 / 4 - 2) = _ from f1) 49
  rw [if_pos (show 49 = 206 / 4 - 2 from rfl), Nat.mul_div_cancel_left j (by decide)] at hg
  have hl : j < l.length := (List.getElem?_eq_some_iff.mp f2).1
  rcases hj with rfl | rfl
  · rw [e2] at f2
    have : d0 = d := by have := Option.some.inj f2; omega
    subst this
    exact ⟨_, _, c, u0, _, hg, by rw [List.getElem?_set_self hl, hv], by rw [List.getElem?_set_ne (by decide)]; exact e3, hs u0 e4⟩
  · rw [e3] at f2
    have : u0 = d := by have := Option.some.inj f2; omega
    subst this
    exact ⟨_, _, d0, c, _, hg, by rw [List.getElem?_set_ne (by decide)]; exact e2, by rw [List.getElem?_set_self hl, hv], by have := hs d0 (by omega); omega⟩
theorem axq_hsBd : ax_RO ax_wC ax_XC axu_hsBd := by
  intro ρ hp hE hT
  have x0 : ax_C0 80 hp := (ax_XF_lt (by decide)).mp (ax_gx hE (0, [80]) (by decide))
  obtain ⟨a, b, c, ha, hb, hc, la, lb, lc, hs⟩ := ax_gs hE 3 4 7 (by decide)
  obtain ⟨k, m, l, f1, f2⟩ := ax_gF hE 206 8 7 49 2 (ρ 1) (by decide) (by rw [ax_vl_c (by decide)]) (by rw [ax_vl_c (by decide)]) rfl
  obtain ⟨d, hd, d1, d2, d3⟩ := ax_gi hE 1 2147483649 2147483668 (by decide) rfl
  have hc' : ρ 1 = 4 * c := hc
  have hdc : d = c := by omega
  subst hdc
  have hb' : b = 1 := by have : (4 : Nat) = 4 * b := hb; omega
  subst hb'
  obtain ⟨p1, p2⟩ := ax_bi_pos lc (by omega)
  have had : d = a + 1 := by rw [p2, ax_bi_def, ax_bi_def] at hs; rw [p2] at d2 d3; omega
  refine ⟨(fun x hx => by cases hx), _, List.mem_cons_self, ρ, fun _ _ => rfl, ax_px hE (by decide) (fun x hx => ?_)⟩
  cases List.mem_singleton.mp hx
  show ax_XF ax_XC (500 + 0) [206, 8, ρ 0, 76] hp
  exact (ax_XF_wr (x := 0) (by decide)).mpr (ax_hsw hT.1 x0 f1 (by rw [← hd]; exact f2) ha (Or.inl rfl) (fun u hu => by show _ ≤ 19; replace hu : _ ≤ 20 := hu; omega))
theorem axq_hsBu : ax_RO ax_wC ax_XC axu_hsBu := by
  intro ρ hp hE hT
  have x0 : ax_C0 76 hp := (ax_XF_lt (by decide)).mp (ax_gx hE (0, [76]) (by decide))
  obtain ⟨a, b, c, ha, hb, hc, la, lb, lc, hs⟩ := ax_gs hE 7 4 3 (by decide)
  obtain ⟨k, m, l, f1, f2⟩ := ax_gF hE 206 12 7 49 3 (ρ 1) (by decide) (by rw [ax_vl_c (by decide)]) (by rw [ax_vl_c (by decide)]) rfl
  obtain ⟨d, hd, d1, d2, d3⟩ := ax_gi hE 1 2147483648 2147483668 (by decide) rfl
  have ha' : ρ 1 = 4 * a := ha
  have hda : d = a := by omega
  subst hda
  have hb' : b = 1 := by have : (4 : Nat) = 4 * b := hb; omega
  obtain ⟨p1, p2⟩ := ax_bi_pos la d2
  have hcd := ax_sum1 hb' p1 lc hs
  have hu20 : d ≤ 19 := by
    obtain ⟨kk', n, d0, u0, f, e1, e2, e3, e4⟩ := x0
    rw [f1] at e1
    cases e1
    rw [e3] at f2
    have := Option.some.inj f2
    replace e4 : d0 + u0 ≤ 19 := e4
    omega
  refine ⟨fun x hx => ?_, _, List.mem_cons_self, ρ, fun _ _ => rfl, ax_px hE (by decide) (fun x hx => ?_)⟩
  · cases List.mem_singleton.mp hx
    have h0 : ρ 0 = 4 * c := hc
    show 2147483648 ≤ rx_bi (ρ 0 / 4) ∧ rx_bi (ρ 0 / 4) ≤ 2147483668
    rw [h0, Nat.mul_div_cancel_left c (by decide), ax_bi_nat (by omega)]
    omega
  · cases List.mem_singleton.mp hx
    show ax_XF ax_XC (500 + 0) [206, 12, ρ 0, 80] hp
    exact (ax_XF_wr (x := 0) (by decide)).mpr (ax_hsw hT.1 x0 f1 (by rw [← hd]; exact f2) hc (Or.inr rfl) (fun u hu => by show _ ≤ 20; replace hu : _ ≤ 19 := hu; omega))
theorem axq_hsOd : ax_RO ax_wC ax_XC axu_hsOd := by
  intro ρ hp hE hT
  have x0 : ax_C0 80 hp := (ax_XF_lt (by decide)).mp (ax_gx hE (0, [80]) (by decide))
  obtain ⟨a, b, c, ha, hb, hc, la, lb, lc, hs⟩ := ax_gs hE 7 4 3 (by decide)
  obtain ⟨k, m, l, f1, f2⟩ := ax_gF hE 206 8 7 49 2 (ρ 1) (by decide) (by rw [ax_vl_c (by decide)]) (by rw [ax_vl_c (by decide)]) rfl
  obtain ⟨k', m', l', g1, g2⟩ := ax_gF hE 206 12 11 49 3 (ρ 2) (by decide) (by rw [ax_vl_c (by decide)]) (by rw [ax_vl_c (by decide)]) rfl
  obtain ⟨d, hd, d1, d2, d3⟩ := ax_gi hE 1 2147483648 2147483668 (by decide) rfl
  obtain ⟨u, hu, u1, u2, u3⟩ := ax_gi hE 2 2147483649 2147483668 (by decide) rfl
  have ha' : ρ 1 = 4 * a := ha
  have hda : d = a := by omega
  subst hda
  have hb' : b = 1 := by have : (4 : Nat) = 4 * b := hb; omega
  obtain ⟨p1, p2⟩ := ax_bi_pos la d2
  obtain ⟨v1, v2⟩ := ax_bi_pos u1 (by omega)
  have hcd := ax_sum1 hb' p1 lc hs
  have hd19 : d ≤ 19 := by
    obtain ⟨kk', n, d0, u0, f, e1, e2, e3, e4⟩ := x0
    rw [f1] at e1 g1
    cases e1
    cases g1
    rw [e2] at f2
    rw [e3] at g2
    have := Option.some.inj f2
    have := Option.some.inj g2
    replace e4 : d0 + u0 ≤ 20 := e4
    omega
  refine ⟨fun x hx => ?_, _, List.mem_cons_self, ρ, fun _ _ => rfl, ax_px hE (by decide) (fun x hx => ?_)⟩
  · cases List.mem_singleton.mp hx
    have h0 : ρ 0 = 4 * c := hc
    show 2147483648 ≤ rx_bi (ρ 0 / 4) ∧ rx_bi (ρ 0 / 4) ≤ 2147483668
    rw [h0, Nat.mul_div_cancel_left c (by decide), ax_bi_nat (by omega)]
    omega
  · cases List.mem_singleton.mp hx
    show ax_XF ax_XC (500 + 0) [206, 8, ρ 0, 84] hp
    exact (ax_XF_wr (x := 0) (by decide)).mpr (ax_hsw hT.1 x0 f1 (by rw [← hd]; exact f2) hc (Or.inl rfl) (fun u hu => by show _ ≤ 21; replace hu : _ ≤ 20 := hu; omega))
theorem axq_hsOu : ax_RO ax_wC ax_XC axu_hsOu := by
  intro ρ hp hE hT
  have x0 : ax_C0 84 hp := (ax_XF_lt (by decide)).mp (ax_gx hE (0, [84]) (by decide))
  obtain ⟨a, b, c, ha, hb, hc, la, lb, lc, hs⟩ := ax_gs hE 3 4 7 (by decide)
  obtain ⟨k, m, l, f1, f2⟩ := ax_gF hE 206 12 7 49 3 (ρ 1) (by decide) (by rw [ax_vl_c (by decide)]) (by rw [ax_vl_c (by decide)]) rfl
  obtain ⟨d, hd, d1, d2, d3⟩ := ax_gi hE 1 2147483649 2147483668 (by decide) rfl
  have hc' : ρ 1 = 4 * c := hc
  have hdc : d = c := by omega
  subst hdc
  have hb' : b = 1 := by have : (4 : Nat) = 4 * b := hb; omega
  subst hb'
  obtain ⟨p1, p2⟩ := ax_bi_pos lc (by omega)
  have had : d = a + 1 := by rw [p2, ax_bi_def, ax_bi_def] at hs; rw [p2] at d2 d3; omega
  refine ⟨(fun x hx => by cases hx), _, List.mem_cons_self, ρ, fun _ _ => rfl, ax_px hE (by decide) (fun x hx => ?_)⟩
  cases List.mem_singleton.mp hx
  show ax_XF ax_XC (500 + 0) [206, 12, ρ 0, 80] hp
  exact (ax_XF_wr (x := 0) (by decide)).mpr (ax_hsw hT.1 x0 f1 (by rw [← hd]; exact f2) ha (Or.inr rfl) (fun u hu => by show _ ≤ 20; replace hu : _ ≤ 21 := hu; omega))
/-- undone is 0 -/
theorem ax_hs0 {hp : rx_H} {d : Nat} (hT : ax_HT ax_wC hp) {kk m : Nat} {l : List Nat} (f1 : rx_hg hp 49 = some (kk, m, l)) (f2 : l[2]? = some (4 * d)) (hd : d ≤ 20) : ax_C0 80 (ax_upd hp 206 12 0) := by
  obtain ⟨k', n', tl, f, b1, b2, b3, b4⟩ := hT.2 49 9 rfl
  rw [f1] at b2
  cases b2
  have hg := ax_hg_upd (a := 206) (i := 12) (v := 0) hT.1 (show rx_hg hp (206 / 4 - 2) = _ from f1) 49
  rw [if_pos (show 49 = 206 / 4 - 2 from rfl)] at hg
  have hn : l.length = 4 := by
    rw [b3]
    have e : ax_wC.2.1[9]? = some (kk, m, tl) := b1
    have e2 : (ax_wC.2.1[9]?).map (fun z => z.2.1) = some 4 := rfl
    rw [e] at e2
    exact Option.some.inj e2
  exact ⟨_, _, d, 0, _, hg, by rw [List.getElem?_set_ne (by decide)]; exact f2, List.getElem?_set_self (by rw [hn]; decide), by show d + 0 ≤ 20; omega⟩
theorem axq_hsK : ax_RO ax_wC ax_XC axu_hsK := by
  intro ρ hp hE hT
  obtain ⟨k, m, l, f1, f2⟩ := ax_gF hE 206 8 3 49 2 (ρ 0) (by decide) (by rw [ax_vl_c (by decide)]) (by rw [ax_vl_c (by decide)]) rfl
  obtain ⟨d, hd, d1, d2, d3⟩ := ax_gi hE 0 2147483648 2147483668 (by decide) rfl
  obtain ⟨p1, p2⟩ := ax_bi_pos d1 d2
  refine ⟨(fun x hx => by cases hx), _, List.mem_cons_self, ρ, fun _ _ => rfl, ax_px hE (by decide) (fun x hx => ?_)⟩
  cases List.mem_singleton.mp hx
  show ax_XF ax_XC (500 + 0) [206, 12, 0, 80] hp
  exact (ax_XF_wr (x := 0) (by decide)).mpr (ax_hs0 hT f1 (by rw [← hd]; exact f2) (by omega))
theorem axq_hsC : ax_RO ax_wC ax_XC axu_hsC := by
  intro ρ hp hE hT
  obtain ⟨k, m, l, f1, f2⟩ := ax_gF hE 206 8 0 49 2 0 (by decide) (by rw [ax_vl_c (by decide)]) (by rw [ax_vl_c (by decide)]) rfl
  refine ⟨(fun x hx => by cases hx), _, List.mem_cons_self, ρ, fun _ _ => rfl, ax_px hE (by decide) (fun x hx => ?_)⟩
  cases List.mem_singleton.mp hx
  show ax_XF ax_XC (500 + 0) [206, 12, 0, 80] hp
  exact (ax_XF_wr (x := 0) (by decide)).mpr (ax_hs0 (d := 0) hT f1 f2 (by decide))
theorem axq_lc0 : ax_RO ax_wC ax_XC axu_lc0 := by
  intro ρ hp hE hT
  refine ⟨(fun x hx => by cases hx), _, List.mem_cons_self, ρ, fun _ _ => rfl, ax_px hE (by decide) (fun x hx => ?_)⟩
  cases List.mem_singleton.mp hx
  refine (ax_XF_lt (x := 1) (by decide)).mpr ?_
  have h0 := hE.2.1 0 (2, 14, 0) (by decide) rfl
  rcases h0 with ⟨b, _⟩ | ⟨b, _⟩ | ⟨_, b1, b2, b3, b4⟩ | ⟨b, _⟩
  · cases b
  · cases b
  · obtain ⟨k', n', tl, f, c1, c2, c3, c4⟩ := hT.2 _ _ b4
    have e2 : (ax_wC.2.1[14]?).map (fun z => z.2.1) = some 40 := rfl
    rw [show ax_wC.2.1[14]? = some (k', n', tl) from c1] at e2
    exact ⟨b4, k', n', f, c2, by rw [c3]; exact Option.some.inj e2, by show 0 / 4 ≤ _; omega⟩
  · cases b
theorem axq_lcS : ax_RO ax_wC ax_XC axu_lcS := by
  intro ρ hp hE hT
  obtain ⟨hw, kk, m, f, e1, e2, e3⟩ : ax_C1 (ρ 0) (ρ 1) (ρ 2) (ρ 3) hp := (ax_XF_lt (x := 1) (by decide)).mp (ax_gx hE (1, [3, 7, 11, 15]) (by decide))
  obtain ⟨k, m', l, f1, f2⟩ := ax_gf hE (3, 15, 19) (by decide)
  have hq : rx_bi (ρ 4 / 4) = rx_bi (ρ 2 / 4) := ax_gc hE 0 19 11 (by decide) (by decide)
  obtain ⟨p, hp1, p2, p3, p4⟩ := ax_gi hE 1 2147483648 2147483688 (by decide) rfl
  obtain ⟨n, hn1, n2, n3, n4⟩ := ax_gi hE 2 2147483648 2147483658 (by decide) rfl
  obtain ⟨c, hc1, c2, c3, c4⟩ := ax_gi hE 3 2147483648 2147483687 (by decide) rfl
  obtain ⟨b, hb1, b2, b3, b4⟩ := ax_gi hE 4 2147483648 2147483657 (by decide) rfl
  obtain ⟨q1, q2⟩ := ax_bi_pos p2 p3
  obtain ⟨q3, q4⟩ := ax_bi_pos n2 n3
  obtain ⟨q5, q6⟩ := ax_bi_pos b2 b3
  have d4 : ∀ z : Nat, 4 * z / 4 = z := fun z => by omega
  rw [hb1, hn1, d4, d4] at hq
  have hbn : b = n := by omega
  replace f1 : rx_hg hp (ρ 0 / 4 - 2) = some (k, m', l) := f1
  replace f2 : l[ρ 3 / 4]? = some (ρ 4) := f2
  rw [e1] at f1
  cases f1
  have hst := ax_lc_step (n := ρ 2 / 4) (c := ρ 3 / 4) (b := ρ 4) (by omega) f 0 (ρ 3 / 4) f2 (by omega)
  have hle := ax_lc_le (n := ρ 2 / 4) (c := ρ 3 / 4 + 1) f 0
  refine ⟨fun x hx => ?_, _, List.mem_cons_self, ρ, fun _ _ => rfl, ax_px hE (by decide) (fun x hx => by cases hx)⟩
  cases List.mem_singleton.mp hx
  show 2147483648 ≤ rx_bi (ρ 1 / 4) ∧ rx_bi (ρ 1 / 4) ≤ 2147483687
  rw [hp1, d4] at e3 ⊢
  omega
theorem axq_lcN : ax_RO ax_wC ax_XC axu_lcN := by
  intro ρ hp hE hT
  obtain ⟨hw, kk, m, f, e1, e2, e3⟩ : ax_C1 (ρ 0) (ρ 1) (ρ 2) (ρ 3) hp := (ax_XF_lt (x := 1) (by decide)).mp (ax_gx hE (1, [3, 7, 11, 15]) (by decide))
  obtain ⟨a, b, c, ha, hb, hc, la, lb, lc, hs⟩ := ax_gs hE 15 4 19 (by decide)
  obtain ⟨c', hc1, c2, c3, c4⟩ := ax_gi hE 3 2147483648 2147483687 (by decide) rfl
  have ha' : ρ 3 = 4 * a := ha
  have hc' : ρ 4 = 4 * c := hc
  have hca : c' = a := by omega
  subst hca
  obtain ⟨q1, q2⟩ := ax_bi_pos la c3
  have hb' : b = 1 := by have : (4 : Nat) = 4 * b := hb; omega
  have hcd := ax_sum1 hb' q1 lc hs
  refine ⟨(fun x hx => by cases hx), _, List.mem_cons_self, ρ, fun _ _ => rfl, ax_px hE (by decide) (fun x hx => ?_)⟩
  cases List.mem_singleton.mp hx
  refine (ax_XF_lt (x := 1) (by decide)).mpr ⟨hw, kk, m, f, e1, e2, ?_⟩
  show ρ 1 / 4 ≤ ax_lc (ρ 2 / 4) (ρ 4 / 4) f 0
  have e : ρ 4 / 4 = ρ 3 / 4 + 1 := by omega
  rw [e]
  exact Nat.le_trans e3 (ax_lc_mono f 0)
theorem axq_lcE : ax_RO ax_wC ax_XC axu_lcE := by
  intro ρ hp hE hT
  obtain ⟨hw, kk, m, f, e1, e2, e3⟩ : ax_C1 (ρ 0) (ρ 1) (ρ 2) (ρ 3) hp := (ax_XF_lt (x := 1) (by decide)).mp (ax_gx hE (1, [3, 7, 11, 15]) (by decide))
  obtain ⟨k, m', l, f1, f2⟩ := ax_gf hE (3, 15, 27) (by decide)
  have hq : rx_bi (ρ 6 / 4) = rx_bi (ρ 2 / 4) := ax_gc hE 0 27 11 (by decide) (by decide)
  obtain ⟨a, b, c, ha, hb, hc, la, lb, lc, hs⟩ := ax_gs hE 15 4 19 (by decide)
  obtain ⟨a2, b2, c2, ha2, hb2, hc2, la2, lb2, lc2, hs2⟩ := ax_gs hE 7 4 23 (by decide)
  obtain ⟨c', hc1, _, c3, c4⟩ := ax_gi hE 3 2147483648 2147483687 (by decide) rfl
  obtain ⟨p, hp1, p2, p3, p4⟩ := ax_gi hE 1 2147483648 2147483688 (by decide) rfl
  obtain ⟨n, hn1, n2, n3, n4⟩ := ax_gi hE 2 2147483648 2147483658 (by decide) rfl
  obtain ⟨bb, hbb1, bb2, bb3, bb4⟩ := ax_gi hE 6 2147483648 2147483657 (by decide) rfl
  have ha' : ρ 3 = 4 * a := ha
  have hc' : ρ 4 = 4 * c := hc
  have ha2' : ρ 1 = 4 * a2 := ha2
  have hc2' : ρ 5 = 4 * c2 := hc2
  have hca : c' = a := by omega
  subst hca
  have hpa : p = a2 := by omega
  subst hpa
  obtain ⟨q1, q2⟩ := ax_bi_pos la c3
  obtain ⟨r1, r2⟩ := ax_bi_pos la2 p3
  obtain ⟨q3, q4⟩ := ax_bi_pos n2 n3
  obtain ⟨q5, q6⟩ := ax_bi_pos bb2 bb3
  have hb' : b = 1 := by have : (4 : Nat) = 4 * b := hb; omega
  have hb2' : b2 = 1 := by have : (4 : Nat) = 4 * b2 := hb2; omega
  have hcd := ax_sum1 hb' q1 lc hs
  have hcd2 := ax_sum1 hb2' r1 lc2 hs2
  have d4 : ∀ z : Nat, 4 * z / 4 = z := fun z => by omega
  rw [hbb1, hn1, d4, d4] at hq
  replace f1 : rx_hg hp (ρ 0 / 4 - 2) = some (k, m', l) := f1
  replace f2 : l[ρ 3 / 4]? = some (ρ 6) := f2
  rw [e1] at f1
  cases f1
  have hst := ax_lc_step (n := ρ 2 / 4) (c := ρ 3 / 4) (b := ρ 6) (by omega) f 0 (ρ 3 / 4) f2 (by omega)
  refine ⟨(fun x hx => by cases hx), _, List.mem_cons_self, ρ, fun _ _ => rfl, ax_px hE (by decide) (fun x hx => ?_)⟩
  cases List.mem_singleton.mp hx
  refine (ax_XF_lt (x := 1) (by decide)).mpr ⟨hw, kk, m, f, e1, e2, ?_⟩
  show ρ 5 / 4 ≤ ax_lc (ρ 2 / 4) (ρ 4 / 4) f 0
  have e : ρ 4 / 4 = ρ 3 / 4 + 1 := by omega
  rw [e]
  omega
theorem axq_lcO : ax_RO ax_wC ax_XC axu_lcO := by
  intro ρ hp hE hT
  obtain ⟨hw, kk, m, f, e1, e2, e3⟩ : ax_C1 (ρ 0) (ρ 1) (ρ 2) (ρ 3) hp := (ax_XF_lt (x := 1) (by decide)).mp (ax_gx hE (1, [3, 7, 11, 15]) (by decide))
  obtain ⟨a, b, c, ha, hb, hc, la, lb, lc, hs⟩ := ax_gs hE 11 4 19 (by decide)
  obtain ⟨n, hn1, n2, n3, n4⟩ := ax_gi hE 2 2147483648 2147483658 (by decide) rfl
  have ha' : ρ 2 = 4 * a := ha
  have hc' : ρ 4 = 4 * c := hc
  have hna : n = a := by omega
  subst hna
  obtain ⟨q1, q2⟩ := ax_bi_pos la n3
  have hb' : b = 1 := by have : (4 : Nat) = 4 * b := hb; omega
  have hcd := ax_sum1 hb' q1 lc hs
  refine ⟨(fun x hx => by cases hx), _, List.mem_cons_self, ρ, fun _ _ => rfl, ax_px hE (by decide) (fun x hx => ?_)⟩
  cases List.mem_singleton.mp hx
  refine (ax_XF_lt (x := 1) (by decide)).mpr ⟨hw, kk, m, f, e1, e2, ?_⟩
  show ρ 1 / 4 ≤ ax_lc (ρ 4 / 4) (0 / 4) f 0
  have e : ρ 4 / 4 = ρ 2 / 4 + 1 := by omega
  rw [e]
  exact Nat.le_trans e3 (ax_lc_node f 0)
