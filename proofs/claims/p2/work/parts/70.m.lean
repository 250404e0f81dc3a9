/-! Reference: what is named -/
noncomputable def ax_rng (lo hi v : Nat) : Prop := lo ≤ rx_bi (v / 4) ∧ rx_bi (v / 4) ≤ hi
/-- a number of a state, by its place -/
noncomputable def ax_sg (k v : Nat) : Prop := (41 ≤ k → k ≤ 52 → ax_rng 2147483648 2147483649 v) ∧ (53 ≤ k → k ≤ 76 → ax_rng 2147483648 2147483657 v) ∧ (77 ≤ k → k ≤ 88 → ax_rng 2147483647 2147483687 v)
/-- kept states are states -/
noncomputable def ax_M1 (q : Nat) (hp : rx_H) : Prop := ∃ (kk m : Nat) (f : List Nat), rx_hg hp q = some (kk, m, f) ∧ ∀ i v : Nat, f[i]? = some v → ax_sg (i % 103) v
noncomputable def ax_M0 (k : Nat) (hp : rx_H) : Prop := ∃ (kk n d u : Nat) (f : List Nat), rx_hg hp 173 = some (kk, n, f) ∧ f[56]? = some (4 * d) ∧ f[57]? = some (4 * u) ∧ d + u ≤ k / 4
noncomputable def ax_M3 (hp : rx_H) : Prop := ∃ (kk m : Nat) (f : List Nat), rx_hg hp 174 = some (kk, m, f) ∧ ∃ p, p < 12 ∧ f[41 + p]? = some 0
noncomputable def ax_M4 (p : Nat) (hp : rx_H) : Prop := ∃ (kk m : Nat) (f : List Nat), rx_hg hp 174 = some (kk, m, f) ∧ ∀ q, q < 12 → q < p / 4 → f[41 + q]? ≠ some 0
noncomputable def ax_sum : List Nat → Nat
  | [] => 0
  | v :: t => v / 4 + ax_sum t
noncomputable def ax_M5 (s c : Nat) (hp : rx_H) : Prop := ∃ (kk m : Nat) (f : List Nat), rx_hg hp 191 = some (kk, m, f) ∧ ax_sum f + c / 4 ≤ s / 4
noncomputable def ax_w64 (v : Nat) : Nat := (v / 4) % 2 ^ 64
noncomputable def ax_M6 (k s n : Nat) : Prop := ax_w64 s &&& ax_w64 n = 0 ∧ 2 ^ 64 - ax_w64 s ≤ k / 4
noncomputable def ax_M7 (k s : Nat) : Prop := 2 ^ 64 - ax_w64 s ≤ k / 4
noncomputable def ax_XM : ax_X := fun x vs hp => match x, vs with
  | 0, [k] => ax_M0 k hp
  | 1, [] => ax_M1 202 hp
  | 2, [] => ax_M1 203 hp
  | 3, [] => ax_M3 hp
  | 4, [p] => ax_M4 p hp
  | 5, [s, c] => ax_M5 s c hp
  | 6, [k, s, n] => ax_M6 k s n
  | 7, [k, s] => ax_M7 k s
  | _, _ => True
theorem ax_sum_set : ∀ (f : List Nat) (j o x : Nat), f[j]? = some o → ax_sum (f.set j x) + o / 4 = ax_sum f + x / 4
  | [], _, _, _, h => by cases h
  | v :: t, 0, o, x, h => by
    have h := Option.some.inj h
    subst h
    show x / 4 + ax_sum t + v / 4 = v / 4 + ax_sum t + x / 4
    omega
  | v :: t, j + 1, o, x, h => by
    have := ax_sum_set t j o x h
    show v / 4 + ax_sum (t.set j x) + o / 4 = v / 4 + ax_sum t + x / 4
    omega
theorem ax_M1_set {hp : rx_H} {q a i v : Nat} (h256 : hp.1 ≤ 256) (hM : ax_M1 q hp) (ha : a / 4 - 2 = q) (hv : ax_sg (i / 4 % 103) v) : ax_M1 q (ax_upd hp a i v) := by
  obtain ⟨kk, m, f, e1, e2⟩ := hM
  have hg := ax_hg_upd (a := a) (i := i) (v := v) h256 (by rw [ha]; exact e1) q
  rw [if_pos ha.symm] at hg
  refine ⟨kk, m, _, hg, fun j x hj => ?_⟩
  by_cases e : i / 4 = j
  · subst e
    rcases Nat.lt_or_ge (i / 4) f.length with hl | hl
    · rw [List.getElem?_set_self hl] at hj
      cases hj
      exact hv
    · rw [List.getElem?_eq_none_iff.mpr (by rw [List.length_set]; exact hl)] at hj
      cases hj
  · rw [List.getElem?_set_ne e] at hj
    exact e2 j x hj
/-- one place of a cell is written: the cell -/
theorem ax_sum3 {a b c : Nat} (ha : a < 4294967296) (hb : b < 2147483648) (hc : c < 4294967296) (h1 : a < 2147483648) (h : rx_bi a + rx_bi b = rx_bi c + 2147483648) : c = a + b := by
  rw [ax_bi_nat h1, ax_bi_nat hb, ax_bi_def] at h
  omega
theorem ax_j_or (x y : Nat) : rx_j_or x y = (x % 2 ^ 64) ||| (y % 2 ^ 64) := by
  show (Int64.ofNat x ||| Int64.ofNat y).toBitVec.toNat = _
  rw [Int64.toBitVec_or, BitVec.toNat_or]
  show (BitVec.ofNat 64 x).toNat ||| (BitVec.ofNat 64 y).toNat = _
  rw [BitVec.toNat_ofNat, BitVec.toNat_ofNat]
theorem ax_j_and (x y : Nat) : rx_j_and x y = (x % 2 ^ 64) &&& (y % 2 ^ 64) := by
  show (Int64.ofNat x &&& Int64.ofNat y).toBitVec.toNat = _
  rw [Int64.toBitVec_and, BitVec.toNat_and]
  show (BitVec.ofNat 64 x).toNat &&& (BitVec.ofNat 64 y).toNat = _
  rw [BitVec.toNat_ofNat, BitVec.toNat_ofNat]
theorem ax_j_xor (x y : Nat) : rx_j_xor x y = (x % 2 ^ 64) ^^^ (y % 2 ^ 64) := by
  show (Int64.ofNat x ^^^ Int64.ofNat y).toBitVec.toNat = _
  rw [Int64.toBitVec_xor, BitVec.toNat_xor]
  show (BitVec.ofNat 64 x).toNat ^^^ (BitVec.ofNat 64 y).toNat = _
  rw [BitVec.toNat_ofNat, BitVec.toNat_ofNat]
theorem ax_lcmp_0 {x : Nat} (h : x % 2 ^ 64 = 0) : rx_f_lcmp x 0 = 0 := by
  have e : Int64.ofNat x = Int64.ofNat 0 := by
    have e1 : BitVec.ofNat 64 x = BitVec.ofNat 64 0 := by
      apply BitVec.eq_of_toNat_eq
      rw [BitVec.toNat_ofNat, BitVec.toNat_ofNat, h]
    show (⟨⟨BitVec.ofNat 64 x⟩⟩ : Int64) = ⟨⟨BitVec.ofNat 64 0⟩⟩
    rw [e1]
  unfold rx_f_lcmp lg_cmp
  rw [e]
  decide
/-- more bits: a greater number -/
theorem ax_or_gt {s n : Nat} (h : s &&& n = 0) (hn : n ≠ 0) : s < s ||| n := by
  refine Nat.lt_of_le_of_ne Nat.left_le_or (fun e => hn ?_)
  apply Nat.eq_of_testBit_eq
  intro i
  rw [Nat.zero_testBit]
  have h1 : (s &&& n).testBit i = false := by rw [h, Nat.zero_testBit]
  have h2 : (s ||| n).testBit i = s.testBit i := by rw [← e]
  rw [Nat.testBit_and] at h1
  rw [Nat.testBit_or] at h2
  cases a : s.testBit i <;> cases b : n.testBit i
  · rfl
  · rw [a, b] at h2; cases h2
  · rfl
  · rw [a, b] at h1; cases h1
theorem ax_and_not (s m : Nat) : s % 2 ^ 64 &&& (m &&& (s % 2 ^ 64 ^^^ (2 ^ 64 - 1))) = 0 := by
  apply Nat.eq_of_testBit_eq
  intro i
  rw [Nat.zero_testBit, Nat.testBit_and, Nat.testBit_and, Nat.testBit_xor, Nat.testBit_two_pow_sub_one]
  rcases Nat.lt_or_ge i 64 with h | h
  · rw [decide_eq_true h]
    cases (s % 2 ^ 64).testBit i <;> cases m.testBit i <;> rfl
  · have : (s % 2 ^ 64).testBit i = false := Nat.testBit_lt_two_pow (Nat.lt_of_lt_of_le (Nat.mod_lt _ (by decide)) (Nat.pow_le_pow_right (by decide) h))
    rw [this]
    rfl
/-- what is concluded of a cell: a new symbol for its content -/
theorem ax_pf {w : ax_W} {X : ax_X} {ρ : Nat → Nat} {hp : rx_H} {n q j v k m a i : Nat} {ty : List ax_Y} {t : ax_Y} {f : List Nat} {e : List (Nat × Nat × Nat) × List (Nat × Nat × Nat) × List ax_N} (hE : ax_EO w X ρ (n, ty, e) hp) (sa : ax_sc n a = true) (si : ax_sc n i = true) (ea : ax_vl ρ a = 4 * (q + 2) + 2) (ei : ax_vl ρ i = 4 * j) (hg : rx_hg hp q = some (k, m, f)) (hv : f[j]? = some v) (ht : ax_ok w t v) : ∃ ρ' : Nat → Nat, (∀ k, k < n → ρ' k = ρ k) ∧ ax_EO w X ρ' (n + 1, t :: ty, [(a, i, 4 * n + 3)], [], []) hp := by
  obtain ⟨ρ', h1, h2, h3⟩ := ax_new_ok hE ht
  refine ⟨ρ', h1, ⟨h2.1, h2.2.1, fun g hg' => ?_, fun d hd => (by cases hd), fun x hx => (by cases hx)⟩⟩
  rw [List.mem_singleton.mp hg']
  have e1 : ax_ev (n + 1) ρ' a = some (4 * (q + 2) + 2) := ax_ev_mono (Nat.le_succ n) h1 (by rw [ax_ev_vl sa, ea])
  have e2 : ax_ev (n + 1) ρ' i = some (4 * j) := ax_ev_mono (Nat.le_succ n) h1 (by rw [ax_ev_vl si, ei])
  have d1 : (4 * (q + 2) + 2) / 4 - 2 = q := by omega
  have d2 : 4 * j / 4 = j := by omega
  exact ⟨_, _, v, k, m, f, e1, e2, h3, by omega, by omega, by omega, by rw [d1]; exact hg, by rw [d2]; exact hv⟩
/-- acts or undone is written -/
theorem ax_huw {hp : rx_H} {j k k' v c d : Nat} (h256 : hp.1 ≤ 256) (h : ax_M0 k hp) {kk m : Nat} {l : List Nat} (f1 : rx_hg hp 173 = some (kk, m, l)) (f2 : l[j]? = some (4 * d)) (hv : v = 4 * c) (hj : (j = 56 ∨ j = 57)) (hs : ∀ u, d + u ≤ k / 4 → c + u ≤ k' / 4) : ax_M0 k' (ax_upd hp 702 (4 * j) v) := by
  obtain ⟨kk', n, d0, u0, f, e1, e2, e3, e4⟩ := h
  rw [f1] at e1
  cases e1
  have hg := ax_hg_upd (a := 702) (i := 4 * j) (v := v) h256 (show rx_hg hp (702 / 4 - 2) = _ from f1) 173
  rw [if_pos (show 173 = 702 / 4 - 2 from rfl), Nat.mul_div_cancel_left j (by decide)] at hg
  have hl : j < l.length := (List.getElem?_eq_some_iff.mp f2).1
  rcases hj with rfl | rfl
  · rw [e2] at f2
    have : d0 = d := by have := Option.some.inj f2; omega
    subst this
    exact ⟨_, _, c, u0, _, hg, by rw [List.getElem?_set_self hl, hv], by rw [List.getElem?_set_ne (by decide)]; exact e3, hs u0 e4⟩
  · rw [e3] at f2
    have : u0 = d := by have := Option.some.inj f2; omega
    subst this
    exact ⟨_, _, d0, c, _, hg, by rw [List.getElem?_set_ne (by decide)]; exact e2, by rw [List.getElem?_set_self hl, hv], by have := hs d0 (by omega); omega⟩
/-- undone is 0 -/
theorem ax_hu0 {hp : rx_H} {d : Nat} (h256 : hp.1 ≤ 256) {kk m : Nat} {l : List Nat} (f1 : rx_hg hp 173 = some (kk, m, l)) (hl : 57 < l.length) (f2 : l[56]? = some (4 * d)) (hd : d ≤ 20) : ax_M0 80 (ax_upd hp 702 228 0) := by
  have hg := ax_hg_upd (a := 702) (i := 228) (v := 0) h256 (show rx_hg hp (702 / 4 - 2) = _ from f1) 173
  rw [if_pos (show 173 = 702 / 4 - 2 from rfl)] at hg
  exact ⟨_, _, d, 0, _, hg, by rw [List.getElem?_set_ne (by decide)]; exact f2, List.getElem?_set_self hl, by show d + 0 ≤ 20; omega⟩
/-- named facts that stand on cells of whole regions -/
theorem ax_same {w : ax_W} {md : List (Nat × Nat)} {hp hp' : rx_H} {q g kk m : Nat} {f : List Nat} (hR : ax_HR w md hp hp') (hw : w.1[q]? = some g) (hA : (!(md.any (fun y => Nat.beq y.1 g && (Nat.beq y.2 999 || (Nat.beq y.2 999 || Nat.beq 999 999))))) = true) (e1 : rx_hg hp q = some (kk, m, f)) : rx_hg hp' q = some (kk, m, f) := by
  obtain ⟨f', e5, e6⟩ := hR.2 _ _ hw kk m f e1
  have : f' = f := by
    apply List.ext_getElem?
    intro i
    refine e6 i (Bool.eq_false_iff.mpr (fun z => ?_))
    obtain ⟨y, hy, hb⟩ := List.any_eq_true.mp z
    obtain ⟨h2, h3⟩ := rx_and2.mp hb
    have h1 : md.any (fun y => Nat.beq y.1 g && (Nat.beq y.2 999 || (Nat.beq y.2 999 || Nat.beq 999 999))) = true := List.any_eq_true.mpr ⟨y, hy, rx_and2.mpr ⟨h2, by rw [show Nat.beq 999 999 = true from rfl, Bool.or_true, Bool.or_true]⟩⟩
    rw [h1] at hA
    cases hA
  rw [← this]
  exact e5
/-- 103 a + k -/
theorem ax_gi3 {w : ax_W} {X : ax_X} {ρ : Nat → Nat} {E : ax_E} {hp : rx_H} (hE : ax_EO w X ρ E hp) (ca cp ck ci : Nat) (h1 : (1002, [412, ca, cp]) ∈ E.2.2.2.2) (h2 : (1015, [cp, ck, ci, 0]) ∈ E.2.2.2.2) {a k : Nat} (ea : ax_vl ρ ca = 4 * a) (ha : a ≤ 20) (ek : ax_vl ρ ck = 4 * k) (hk : k ≤ 102) : ax_vl ρ ci = 4 * (103 * a + k) := by
  have h := (ax_XF_bi (o := 2) (by decide)).mp (ax_gx hE _ h1)
  replace h : ax_BI 2 [412, ax_vl ρ ca, ax_vl ρ cp] := h
  rw [ea] at h
  obtain ⟨p', k', i', e1, e2, e3, l1, l2, l3, hs⟩ := ax_gs hE cp ck ci h2
  rcases h with ⟨-, -, -, r, s1, s2, s3⟩ | ⟨j, j1, j2, -⟩ | ⟨z, -⟩
  · replace s1 : some (412 / 4 * (4 * a / 4) % 4294967296) = some r := s1
    have s1 := Option.some.inj s1
    have s3 : ax_vl ρ cp = 4 * r := s3
    have hr : r = 103 * a := by omega
    have hp' : p' = r := by omega
    have hk' : k' = k := by omega
    subst hp' hk'
    have := ax_sum3 l1 (by omega) l3 (by omega) hs
    omega
  · omega
  · omega
theorem ax_sg_none {k v : Nat} (h : k ≤ 40 ∨ 89 ≤ k) : ax_sg k v := ⟨fun h1 h2 => by omega, fun h1 h2 => by omega, fun h1 h2 => by omega⟩
theorem ax_len {w : ax_W} {hp : rx_H} {q g kk m n : Nat} {f : List Nat} (hT : ax_HT w hp) (hw : w.1[q]? = some g) (hn : (w.2.1[g]?).map (fun z => z.2.1) = some n) (e1 : rx_hg hp q = some (kk, m, f)) : f.length = n := by
  obtain ⟨k', n', tl, f', b1, b2, b3, b4⟩ := hT.2 q g hw
  rw [e1] at b2
  cases b2
  rw [b1] at hn
  rw [b3]
  exact Option.some.inj hn
theorem ax_cellT {w : ax_W} {hp : rx_H} {q g : Nat} (hT : ax_HT w hp) (hw : w.1[q]? = some g) : ∃ (k m : Nat) (l : List Nat), rx_hg hp q = some (k, m, l) := by
  obtain ⟨k', n', tl, f', b1, b2, b3, b4⟩ := hT.2 q g hw
  exact ⟨k', n', f', b2⟩
/-- a cell's ints -/
theorem ax_cellI {w : ax_W} {hp : rx_H} {q g kk m n lo hi i v : Nat} {f : List Nat} (hT : ax_HT w hp) (hw : w.1[q]? = some g) (ht : w.2.1[g]? = some (13, n, [(0, (0, lo, hi))])) (e1 : rx_hg hp q = some (kk, m, f)) (hv : f[i]? = some v) : v % 4 = 0 ∧ v / 4 < 4294967296 ∧ lo ≤ rx_bi (v / 4) ∧ rx_bi (v / 4) ≤ hi := by
  obtain ⟨k', n', tl, f', b1, b2, b3, b4⟩ := hT.2 q g hw
  rw [e1] at b2
  cases b2
  rw [ht] at b1
  cases b1
  obtain ⟨t, t1, t2⟩ := b4 i v hv
  have : t = (0, lo, hi) := by
    have t1 : (bif Nat.ble 0 i then some ((0, lo, hi) : ax_Y) else none) = some t := t1
    rw [rx_ble.mpr (Nat.zero_le i)] at t1
    exact (Option.some.inj t1).symm
  subst this
  rcases t2 with ⟨-, h⟩ | ⟨h, -⟩ | ⟨h, -⟩ | ⟨h, -⟩
  · exact h
  · cases h
  · cases h
  · cases h
theorem ax_get_some {f : List Nat} {i : Nat} (h : i < f.length) : ∃ v, f[i]? = some v := by
  cases e : f[i]? with
  | some v => exact ⟨v, rfl⟩
  | none =>
    have := List.getElem?_eq_none_iff.mp e
    omega
