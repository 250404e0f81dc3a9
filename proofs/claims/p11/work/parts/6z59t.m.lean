/-! Reference: what is named -/
noncomputable def ax_rng (lo hi v : Nat) : Prop := lo ≤ rx_bi (v / 4) ∧ rx_bi (v / 4) ≤ hi
/-- a number of a state, by its place -/
noncomputable def ax_sg (k v : Nat) : Prop := (41 ≤ k → k ≤ 52 → ax_rng 2147483648 2147483649 v) ∧ (53 ≤ k → k ≤ 76 → ax_rng 2147483648 2147483657 v) ∧ (77 ≤ k → k ≤ 88 → ax_rng 2147483647 2147483687 v)
/-- kept states are states -/
noncomputable def ax_M1 (q : Nat) (hp : rx_H) : Prop := ∃ (kk m : Nat) (f : List Nat), rx_hg hp q = some (kk, m, f) ∧ ∀ i v : Nat, f[i]? = some v → ax_sg (i % 103) v
noncomputable def ax_M0 (k : Nat) (hp : rx_H) : Prop := ∃ (kk n d u : Nat) (f : List Nat), rx_hg hp 173 = some (kk, n, f) ∧ f[56]? = some (4 * d) ∧ f[57]? = some (4 * u) ∧ d + u ≤ k / 4
noncomputable def ax_M3 (hp : rx_H) : Prop := ∃ (kk m : Nat) (f : List Nat), rx_hg hp 174 = some (kk, m, f) ∧ ∃ p, p < 12 ∧ f[41 + p]? = some 0
noncomputable def ax_M4 (p : Nat) (hp : rx_H) : Prop := ∃ (kk m : Nat) (f : List Nat), rx_hg hp 174 = some (kk, m, f) ∧ ∀ q, q < 12 → q < p / 4 → f[41 + q]? ≠ some 0
noncomputable def ax_sum : List Nat → Nat
  | [] => 0
  | v :: t => v / 4 + ax_sum t
noncomputable def ax_M5 (s c : Nat) (hp : rx_H) : Prop := ∃ (kk m : Nat) (f : List Nat), rx_hg hp 191 = some (kk, m, f) ∧ ax_sum f + c / 4 ≤ s / 4
noncomputable def ax_w64 (v : Nat) : Nat := (v / 4) % 2 ^ 64
noncomputable def ax_M6 (k s n : Nat) : Prop := ax_w64 s &&& ax_w64 n = 0 ∧ 2 ^ 64 - ax_w64 s ≤ k / 4
noncomputable def ax_M7 (k s : Nat) : Prop := 2 ^ 64 - ax_w64 s ≤ k / 4
theorem ax_sum_set : ∀ (f : List Nat) (j o x : Nat), f[j]? = some o → ax_sum (f.set j x) + o / 4 = ax_sum f + x / 4
  | [], _, _, _, h => by cases h
  | v :: t, 0, o, x, h => by
    have h := Option.some.inj h
    subst h
    show x / 4 + ax_sum t + v / 4 = v / 4 + ax_sum t + x / 4
    omega
  | v :: t, j + 1, o, x, h => by
    have := ax_sum_set t j o x h
    show v / 4 + ax_sum (t.set j x) + o / 4 = v / 4 + ax_sum t + x / 4
    omega
theorem ax_M1_set {hp : rx_H} {q a i v : Nat} (h256 : hp.1 ≤ 256) (hM : ax_M1 q hp) (ha : a / 4 - 2 = q) (hv : ax_sg (i / 4 % 103) v) : ax_M1 q (ax_upd hp a i v) := by
  obtain ⟨kk, m, f, e1, e2⟩ := hM
  have hg := ax_hg_upd (a := a) (i := i) (v := v) h256 (by rw [ha]; exact e1) q
  rw [if_pos ha.symm] at hg
  refine ⟨kk, m, _, hg, fun j x hj => ?_⟩
  by_cases e : i / 4 = j
  · subst e
    rcases Nat.lt_or_ge (i / 4) f.length with hl | hl
    · rw [List.getElem?_set_self hl] at hj
      cases hj
      exact hv
    · rw [List.getElem?_eq_none_iff.mpr (by rw [List.length_set]; exact hl)] at hj
      cases hj
  · rw [List.getElem?_set_ne e] at hj
    exact e2 j x hj
/-- one place of a cell is written: the cell -/
theorem ax_sum3 {a b c : Nat} (ha : a < 4294967296) (hb : b < 2147483648) (hc : c < 4294967296) (h1 : a < 2147483648) (h : rx_bi a + rx_bi b = rx_bi c + 2147483648) : c = a + b := by
  rw [ax_bi_nat h1, ax_bi_nat hb, ax_bi_def] at h
  omega
theorem ax_j_or (x y : Nat) : rx_j_or x y = (x % 2 ^ 64) ||| (y % 2 ^ 64) := by
  show (Int64.ofNat x ||| Int64.ofNat y).toBitVec.toNat = _
  rw [Int64.toBitVec_or, BitVec.toNat_or]
  show (BitVec.ofNat 64 x).toNat ||| (BitVec.ofNat 64 y).toNat = _
  rw [BitVec.toNat_ofNat, BitVec.toNat_ofNat]
theorem ax_j_and (x y : Nat) : rx_j_and x y = (x % 2 ^ 64) &&& (y % 2 ^ 64) := by
  show (Int64.ofNat x &&& Int64.ofNat y).toBitVec.toNat = _
  rw [Int64.toBitVec_and, BitVec.toNat_and]
  show (BitVec.ofNat 64 x).toNat &&& (BitVec.ofNat 64 y).toNat = _
  rw [BitVec.toNat_ofNat, BitVec.toNat_ofNat]
theorem ax_j_xor (x y : Nat) : rx_j_xor x y = (x % 2 ^ 64) ^^^ (y % 2 ^ 64) := by
  show (Int64.ofNat x ^^^ Int64.ofNat y).toBitVec.toNat = _
  rw [Int64.toBitVec_xor, BitVec.toNat_xor]
  show (BitVec.ofNat 64 x).toNat ^^^ (BitVec.ofNat 64 y).toNat = _
  rw [BitVec.toNat_ofNat, BitVec.toNat_ofNat]
theorem ax_lcmp_0 {x : Nat} (h : x % 2 ^ 64 = 0) : rx_f_lcmp x 0 = 0 := by
  have e : Int64.ofNat x = Int64.ofNat 0 := by
    have e1 : BitVec.ofNat 64 x = BitVec.ofNat 64 0 := by
      apply BitVec.eq_of_toNat_eq
      rw [BitVec.toNat_ofNat, BitVec.toNat_ofNat, h]
    show (⟨⟨BitVec.ofNat 64 x⟩⟩ : Int64) = ⟨⟨BitVec.ofNat 64 0⟩⟩
    rw [e1]
  unfold rx_f_lcmp lg_cmp
  rw [e]
  decide
/-- more bits: a greater number -/
theorem ax_or_gt {s n : Nat} (h : s &&& n = 0) (hn : n ≠ 0) : s < s ||| n := by
  refine Nat.lt_of_le_of_ne Nat.left_le_or (fun e => hn ?_)
  apply Nat.eq_of_testBit_eq
  intro i
  rw [Nat.zero_testBit]
  have h1 : (s &&& n).testBit i = false := by rw [h, Nat.zero_testBit]
  have h2 : (s ||| n).testBit i = s.testBit i := by rw [← e]
  rw [Nat.testBit_and] at h1
  rw [Nat.testBit_or] at h2
  cases a : s.testBit i <;> cases b : n.testBit i
  · rfl
  · rw [a, b] at h2; cases h2
  · rfl
  · rw [a, b] at h1; cases h1
theorem ax_and_not (s m : Nat) : s % 2 ^ 64 &&& (m &&& (s % 2 ^ 64 ^^^ (2 ^ 64 - 1))) = 0 := by
  apply Nat.eq_of_testBit_eq
  intro i
  rw [Nat.zero_testBit, Nat.testBit_and, Nat.testBit_and, Nat.testBit_xor, Nat.testBit_two_pow_sub_one]
  rcases Nat.lt_or_ge i 64 with h | h
  · rw [decide_eq_true h]
    cases (s % 2 ^ 64).testBit i <;> cases m.testBit i <;> rfl
  · have : (s % 2 ^ 64).testBit i = false := Nat.testBit_lt_two_pow (Nat.lt_of_lt_of_le (Nat.mod_lt _ (by decide)) (Nat.pow_le_pow_right (by decide) h))
    rw [this]
    rfl
/-- what is concluded of a cell: a new symbol for its content -/
theorem ax_pf {w : ax_W} {X : ax_X} {ρ : Nat → Nat} {hp : rx_H} {n q j v k m a i : Nat} {ty : List ax_Y} {t : ax_Y} {f : List Nat} {e : List (Nat × Nat × Nat) × List (Nat × Nat × Nat) × List ax_N} (hE : ax_EO w X ρ (n, ty, e) hp) (sa : ax_sc n a = true) (si : ax_sc n i = true) (ea : ax_vl ρ a = 4 * (q + 2) + 2) (ei : ax_vl ρ i = 4 * j) (hg : rx_hg hp q = some (k, m, f)) (hv : f[j]? = some v) (ht : ax_ok w t v) : ∃ ρ' : Nat → Nat, (∀ k, k < n → ρ' k = ρ k) ∧ ax_EO w X ρ' (n + 1, t :: ty, [(a, i, 4 * n + 3)], [], []) hp := by
  obtain ⟨ρ', h1, h2, h3⟩ := ax_new_ok hE ht
  refine ⟨ρ', h1, ⟨h2.1, h2.2.1, fun g hg' => ?_, fun d hd => (by cases hd), fun x hx => (by cases hx)⟩⟩
  rw [List.mem_singleton.mp hg']
  have e1 : ax_ev (n + 1) ρ' a = some (4 * (q + 2) + 2) := ax_ev_mono (Nat.le_succ n) h1 (by rw [ax_ev_vl sa, ea])
  have e2 : ax_ev (n + 1) ρ' i = some (4 * j) := ax_ev_mono (Nat.le_succ n) h1 (by rw [ax_ev_vl si, ei])
  have d1 : (4 * (q + 2) + 2) / 4 - 2 = q := by omega
  have d2 : 4 * j / 4 = j := by omega
  exact ⟨_, _, v, k, m, f, e1, e2, h3, by omega, by omega, by omega, by rw [d1]; exact hg, by rw [d2]; exact hv⟩
/-- acts or undone is written -/
theorem ax_huw {hp : rx_H} {j k k' v c d : Nat} (h256 : hp.1 ≤ 256) (h : ax_M0 k hp) {kk m : Nat} {l : List Nat} (f1 : rx_hg hp 173 = some (kk, m, l)) (f2 : l[j]? = some (4 * d)) (hv : v = 4 * c) (hj : (j = 56 ∨ j = 57)) (hs : ∀ u, d + u ≤ k / 4 → c + u ≤ k' / 4) : ax_M0 k' (ax_upd hp 702 (4 * j) v) := by
  obtain ⟨kk', n, d0, u0, f, e1, e2, e3, e4⟩ := h
  rw [f1] at e1
  cases e1
  have hg := ax_hg_upd (a := 702) (i := 4 * j) (v := v) h256 (show rx_hg hp (702 / 4 - 2) = _ from f1) 173
  rw [if_pos (show 173 = 702 / 4 - 2 from rfl), Nat.mul_div_cancel_left j (by decide)] at hg
  have hl : j < l.length := (List.getElem?_eq_some_iff.mp f2).1
  rcases hj with rfl | rfl
  · rw [e2] at f2
    have : d0 = d := by have := Option.some.inj f2; omega
    subst this
    exact ⟨_, _, c, u0, _, hg, by rw [List.getElem?_set_self hl, hv], by rw [List.getElem?_set_ne (by decide)]; exact e3, hs u0 e4⟩
  · rw [e3] at f2
    have : u0 = d := by have := Option.some.inj f2; omega
    subst this
    exact ⟨_, _, d0, c, _, hg, by rw [List.getElem?_set_ne (by decide)]; exact e2, by rw [List.getElem?_set_self hl, hv], by have := hs d0 (by omega); omega⟩
/-- undone is 0 -/
theorem ax_hu0 {hp : rx_H} {d : Nat} (h256 : hp.1 ≤ 256) {kk m : Nat} {l : List Nat} (f1 : rx_hg hp 173 = some (kk, m, l)) (hl : 57 < l.length) (f2 : l[56]? = some (4 * d)) (hd : d ≤ 20) : ax_M0 80 (ax_upd hp 702 228 0) := by
  have hg := ax_hg_upd (a := 702) (i := 228) (v := 0) h256 (show rx_hg hp (702 / 4 - 2) = _ from f1) 173
  rw [if_pos (show 173 = 702 / 4 - 2 from rfl)] at hg
  exact ⟨_, _, d, 0, _, hg, by rw [List.getElem?_set_ne (by decide)]; exact f2, List.getElem?_set_self hl, by show d + 0 ≤ 20; omega⟩
/-- named facts that stand on cells of whole regions -/
theorem ax_same {w : ax_W} {md : List (Nat × Nat)} {hp hp' : rx_H} {q g kk m : Nat} {f : List Nat} (hR : ax_HR w md hp hp') (hw : w.1[q]? = some g) (hA : (!(md.any (fun y => Nat.beq y.1 g && (Nat.beq y.2 999 || (Nat.beq y.2 999 || Nat.beq 999 999))))) = true) (e1 : rx_hg hp q = some (kk, m, f)) : rx_hg hp' q = some (kk, m, f) := by
  obtain ⟨f', e5, e6⟩ := hR.2 _ _ hw kk m f e1
  have : f' = f := by
    apply List.ext_getElem?
    intro i
    refine e6 i (Bool.eq_false_iff.mpr (fun z => ?_))
    obtain ⟨y, hy, hb⟩ := List.any_eq_true.mp z
    obtain ⟨h2, h3⟩ := rx_and2.mp hb
    have h1 : md.any (fun y => Nat.beq y.1 g && (Nat.beq y.2 999 || (Nat.beq y.2 999 || Nat.beq 999 999))) = true := List.any_eq_true.mpr ⟨y, hy, rx_and2.mpr ⟨h2, by rw [show Nat.beq 999 999 = true from rfl, Bool.or_true, Bool.or_true]⟩⟩
    rw [h1] at hA
    cases hA
  rw [← this]
  exact e5
/-- 103 a + k -/
theorem ax_gi3 {w : ax_W} {X : ax_X} {ρ : Nat → Nat} {E : ax_E} {hp : rx_H} (hE : ax_EO w X ρ E hp) (ca cp ck ci : Nat) (h1 : (1002, [412, ca, cp]) ∈ E.2.2.2.2) (h2 : (1015, [cp, ck, ci, 0]) ∈ E.2.2.2.2) {a k : Nat} (ea : ax_vl ρ ca = 4 * a) (ha : a ≤ 20) (ek : ax_vl ρ ck = 4 * k) (hk : k ≤ 102) : ax_vl ρ ci = 4 * (103 * a + k) := by
  have h := (ax_XF_bi (o := 2) (by decide)).mp (ax_gx hE _ h1)
  replace h : ax_BI 2 [412, ax_vl ρ ca, ax_vl ρ cp] := h
  rw [ea] at h
  obtain ⟨p', k', i', e1, e2, e3, l1, l2, l3, hs⟩ := ax_gs hE cp ck ci h2
  rcases h with ⟨-, -, -, r, s1, s2, s3⟩ | ⟨j, j1, j2, -⟩ | ⟨z, -⟩
  · replace s1 : some (412 / 4 * (4 * a / 4) % 4294967296) = some r := s1
    have s1 := Option.some.inj s1
    have s3 : ax_vl ρ cp = 4 * r := s3
    have hr : r = 103 * a := by omega
    have hp' : p' = r := by omega
    have hk' : k' = k := by omega
    subst hp' hk'
    have := ax_sum3 l1 (by omega) l3 (by omega) hs
    omega
  · omega
  · omega
theorem ax_sg_none {k v : Nat} (h : k ≤ 40 ∨ 89 ≤ k) : ax_sg k v := ⟨fun h1 h2 => by omega, fun h1 h2 => by omega, fun h1 h2 => by omega⟩
theorem ax_len {w : ax_W} {hp : rx_H} {q g kk m n : Nat} {f : List Nat} (hT : ax_HT w hp) (hw : w.1[q]? = some g) (hn : (w.2.1[g]?).map (fun z => z.2.1) = some n) (e1 : rx_hg hp q = some (kk, m, f)) : f.length = n := by
  obtain ⟨k', n', tl, f', b1, b2, b3, b4⟩ := hT.2 q g hw
  rw [e1] at b2
  cases b2
  rw [b1] at hn
  rw [b3]
  exact Option.some.inj hn
theorem ax_cellT {w : ax_W} {hp : rx_H} {q g : Nat} (hT : ax_HT w hp) (hw : w.1[q]? = some g) : ∃ (k m : Nat) (l : List Nat), rx_hg hp q = some (k, m, l) := by
  obtain ⟨k', n', tl, f', b1, b2, b3, b4⟩ := hT.2 q g hw
  exact ⟨k', n', f', b2⟩
/-- a cell's ints -/
theorem ax_cellI {w : ax_W} {hp : rx_H} {q g kk m n lo hi i v : Nat} {f : List Nat} (hT : ax_HT w hp) (hw : w.1[q]? = some g) (ht : w.2.1[g]? = some (13, n, [(0, (0, lo, hi))])) (e1 : rx_hg hp q = some (kk, m, f)) (hv : f[i]? = some v) : v % 4 = 0 ∧ v / 4 < 4294967296 ∧ lo ≤ rx_bi (v / 4) ∧ rx_bi (v / 4) ≤ hi := by
  obtain ⟨k', n', tl, f', b1, b2, b3, b4⟩ := hT.2 q g hw
  rw [e1] at b2
  cases b2
  rw [ht] at b1
  cases b1
  obtain ⟨t, t1, t2⟩ := b4 i v hv
  have : t = (0, lo, hi) := by
    have t1 : (bif Nat.ble 0 i then some ((0, lo, hi) : ax_Y) else none) = some t := t1
    rw [rx_ble.mpr (Nat.zero_le i)] at t1
    exact (Option.some.inj t1).symm
  subst this
  rcases t2 with ⟨-, h⟩ | ⟨h, -⟩ | ⟨h, -⟩ | ⟨h, -⟩
  · exact h
  · cases h
  · cases h
  · cases h
theorem ax_get_some {f : List Nat} {i : Nat} (h : i < f.length) : ∃ v, f[i]? = some v := by
  cases e : f[i]? with
  | some v => exact ⟨v, rfl⟩
  | none =>
    have := List.getElem?_eq_none_iff.mp e
    omega
/-! Reference: cells as rows of numbers -/
noncomputable def ay_at (hp : rx_H) (q i : Nat) : Option Nat := match rx_hg hp q with
  | some (_, _, f) => f[i]?
  | none => none
theorem ay_eq {hp : rx_H} {q i k m : Nat} {f : List Nat} (h : rx_hg hp q = some (k, m, f)) : ay_at hp q i = f[i]? := by
  unfold ay_at
  rw [h]
theorem ay_upd_ne {hp : rx_H} {a i v q : Nat} (h256 : hp.1 ≤ 256) (hq : q ≠ a / 4 - 2) (j : Nat) : ay_at (ax_upd hp a i v) q j = ay_at hp q j := by
  cases e : rx_hg hp (a / 4 - 2) with
  | none =>
    have : ax_upd hp a i v = hp := by unfold ax_upd; rw [e]
    rw [this]
  | some c =>
    obtain ⟨k, n, f⟩ := c
    have hg := ax_hg_upd (i := i) (v := v) h256 e q
    rw [if_neg hq] at hg
    unfold ay_at
    rw [hg]
theorem ay_upd_eq {hp : rx_H} {a i v q o : Nat} (h256 : hp.1 ≤ 256) (hq : a / 4 - 2 = q) (ho : ay_at hp q (i / 4) = some o) (j : Nat) : ay_at (ax_upd hp a i v) q j = if j = i / 4 then some v else ay_at hp q j := by
  subst hq
  cases e : rx_hg hp (a / 4 - 2) with
  | none =>
    unfold ay_at at ho
    rw [e] at ho
    cases ho
  | some c =>
    obtain ⟨k, n, f⟩ := c
    have hg := ax_hg_upd (i := i) (v := v) h256 e (a / 4 - 2)
    rw [if_pos rfl] at hg
    rw [ay_eq e] at ho
    rw [ay_eq hg, ay_eq e]
    have hl : i / 4 < f.length := (List.getElem?_eq_some_iff.mp ho).1
    by_cases h : j = i / 4
    · rw [if_pos h, h, List.getElem?_set_self hl]
    · rw [if_neg h, List.getElem?_set_ne (fun z => h z.symm)]
/-- a cell is as long as its region says -/
theorem ay_some {w : ax_W} {hp : rx_H} {q g n j : Nat} (hT : ax_HT w hp) (hw : w.1[q]? = some g) (hn : (w.2.1[g]?).map (fun z => z.2.1) = some n) (hj : j < n) : ∃ v, ay_at hp q j = some v := by
  obtain ⟨k, m, l, e⟩ := ax_cellT hT hw
  have hl := ax_len hT hw hn e
  rw [ay_eq e]
  exact ax_get_some (by omega)
/-- .. and holds what its region says -/
theorem ay_int {w : ax_W} {hp : rx_H} {q g n lo hi j v : Nat} (hT : ax_HT w hp) (hw : w.1[q]? = some g) (ht : w.2.1[g]? = some (13, n, [(0, (0, lo, hi))])) (hv : ay_at hp q j = some v) : v % 4 = 0 ∧ v / 4 < 4294967296 ∧ lo ≤ rx_bi (v / 4) ∧ rx_bi (v / 4) ≤ hi := by
  obtain ⟨k, m, l, e⟩ := ax_cellT hT hw
  rw [ay_eq e] at hv
  exact ax_cellI hT hw ht e hv
theorem ay_same {w : ax_W} {md : List (Nat × Nat)} {hp hp' : rx_H} {q g : Nat} (hR : ax_HR w md hp hp') (hT : ∃ k m l, rx_hg hp q = some (k, m, l)) (hw : w.1[q]? = some g) (hA : (!(md.any (fun y => Nat.beq y.1 g && (Nat.beq y.2 999 || (Nat.beq y.2 999 || Nat.beq 999 999))))) = true) : ay_at hp' q = ay_at hp q := by
  obtain ⟨k, m, l, e⟩ := hT
  funext j
  rw [ay_eq e, ay_eq (ax_same hR hw hA e)]
/-- a cell's content of a pattern, by rows -/
theorem ay_gf {w : ax_W} {X : ax_X} {ρ : Nat → Nat} {E : ax_E} {hp : rx_H} (hE : ax_EO w X ρ E hp) (a i v q : Nat) (h : (1200, [a, i, v]) ∈ E.2.2.2.2) (e1 : ax_vl ρ a / 4 - 2 = q) : ay_at hp q (ax_vl ρ i / 4) = some (ax_vl ρ v) := by
  obtain ⟨k, m, l, h1, h2⟩ := ax_gf hE (a, i, v) h
  replace h1 : rx_hg hp (ax_vl ρ a / 4 - 2) = some (k, m, l) := h1
  rw [e1] at h1
  rw [ay_eq h1]
  exact h2
/-- how many below n -/
noncomputable def ay_cnt (p : Nat → Bool) : Nat → Nat
  | 0 => 0
  | n + 1 => (if p n = true then 1 else 0) + ay_cnt p n
theorem ay_cnt_le {p p' : Nat → Bool} : ∀ {n : Nat}, (∀ j, j < n → p' j = true → p j = true) → ay_cnt p' n ≤ ay_cnt p n
  | 0, _ => Nat.le_refl _
  | n + 1, h => by
    have ih := ay_cnt_le (n := n) (fun j hj => h j (by omega))
    have hn := h n (by omega)
    unfold ay_cnt
    by_cases h1 : p' n = true
    · rw [if_pos h1, if_pos (hn h1)]
      omega
    · rw [if_neg h1]
      split <;> omega
theorem ay_cnt_lt {p p' : Nat → Bool} {t : Nat} (ht : p t = true) (ht' : p' t = false) : ∀ {n : Nat}, t < n → (∀ j, j < n → p' j = true → p j = true) → ay_cnt p' n + 1 ≤ ay_cnt p n
  | 0, h0, _ => absurd h0 (Nat.not_lt_zero _)
  | n + 1, h0, h => by
    have hn := h n (by omega)
    by_cases e : t = n
    · subst e
      have ih := ay_cnt_le (n := t) (fun j hj => h j (by omega))
      unfold ay_cnt
      rw [ht, ht', if_pos rfl, if_neg (by decide)]
      omega
    · have ih := ay_cnt_lt ht ht' (n := n) (by omega) (fun j hj => h j (by omega))
      unfold ay_cnt
      by_cases h1 : p' n = true
      · rw [if_pos h1, if_pos (hn h1)]
        omega
      · rw [if_neg h1]
        split <;> omega
/-- a sum of numbers below n -/
noncomputable def ay_sm (g : Nat → Int) : Nat → Int
  | 0 => 0
  | n + 1 => g n + ay_sm g n
theorem ay_sm_le {g : Nat → Int} (h : ∀ j, -1 ≤ g j ∧ g j ≤ 1) : ∀ n : Nat, ay_sm g n ≤ n ∧ -(n : Int) ≤ ay_sm g n
  | 0 => ⟨Int.le_refl _, Int.le_refl _⟩
  | n + 1 => by
    obtain ⟨h1, h2⟩ := ay_sm_le h n
    obtain ⟨h3, h4⟩ := h n
    unfold ay_sm
    omega
theorem ay_sm_same {g g' : Nat → Int} : ∀ {n : Nat}, (∀ j, j < n → g' j = g j) → ay_sm g' n = ay_sm g n
  | 0, _ => rfl
  | n + 1, h => by
    unfold ay_sm
    rw [h n (by omega), ay_sm_same (n := n) (fun j hj => h j (by omega))]
theorem ay_sm_upd {g g' : Nat → Int} {t : Nat} : ∀ {n : Nat}, t < n → (∀ j, j < n → j ≠ t → g' j = g j) → ay_sm g' n = ay_sm g n + (g' t - g t)
  | 0, h0, _ => absurd h0 (Nat.not_lt_zero _)
  | n + 1, h0, h => by
    unfold ay_sm
    by_cases e : t = n
    · subst e
      rw [ay_sm_same (n := t) (fun j hj => h j (by omega) (by omega))]
      omega
    · rw [h n (by omega) (fun z => e z.symm), ay_sm_upd (n := n) (by omega) (fun j hj hj' => h j (by omega) hj')]
      omega
-- the row that is looked for
noncomputable def ay_lt0 (o : Option Nat) : Bool := match o with
  | some v => Nat.ble 2147483648 (v / 4)
  | none => false
noncomputable def ay_M8 (s c : Nat) (cam : Nat → Option Nat) : Prop := ay_cnt (fun u => ay_lt0 (cam u)) 10 + c / 4 ≤ s / 4
noncomputable def ay_ini (f u : Nat) : Nat := if u = f then 160 else 17179869180
noncomputable def ay_M9 (f i : Nat) (cam : Nat → Option Nat) : Prop := ∀ u, u < 10 → u < i / 4 → cam u = some (ay_ini (f / 4) u)
noncomputable def ay_M10 (f i : Nat) (cam : Nat → Option Nat) : Prop := ∀ u, u < 10 → u ≤ i / 4 → cam u = some (ay_ini (f / 4) u)
noncomputable def ay_fr (b c : Nat) : Nat := 40 * b + 2 * (c / 2) + c % 2
noncomputable def ay_to (b c : Nat) : Nat := 40 * b + 2 * (c / 2) + (1 - c % 2)
noncomputable def ay_tree (b f : Nat) (cam en : Nat → Option Nat) (r : Nat → Nat) : Prop := ∀ v c, v < 10 → v ≠ f → cam v = some (4 * c) → c < 2147483648 → c < 40 ∧ en (ay_to b c) = some (4 * v) ∧ ∃ u d, en (ay_fr b c) = some (4 * u) ∧ u < 10 ∧ cam u = some (4 * d) ∧ d < 2147483648 ∧ r u < r v
noncomputable def ay_free (f : Nat) (cam car : Nat → Option Nat) (P : Nat → Prop) : Prop := ∀ v c, v < 10 → v ≠ f → P v → cam v = some (4 * c) → c < 2147483648 → car (c / 2) ≠ some (4 * (1 + c % 2))
noncomputable def ay_M11 (b f : Nat) (cam car en : Nat → Option Nat) : Prop := cam (f / 4) = some 160 ∧ ∃ r, ay_tree b (f / 4) cam en r ∧ ay_free (f / 4) cam car (fun _ => True)
noncomputable def ay_M12 (b k f v : Nat) (cam car en : Nat → Option Nat) : Prop := cam (f / 4) = some 160 ∧ ∃ r, ay_tree b (f / 4) cam en r ∧ ay_free (f / 4) cam car (fun x => r x ≤ r (v / 4)) ∧ (∃ c, cam (v / 4) = some (4 * c) ∧ c < 2147483648) ∧ r (v / 4) < k / 4
noncomputable def ay_M13 (b k f v : Nat) (cam car en : Nat → Option Nat) : Prop := cam (f / 4) = some 160 ∧ ∃ r, ay_tree b (f / 4) cam en r ∧ ay_free (f / 4) cam car (fun x => r x < r (v / 4)) ∧ (∃ c, cam (v / 4) = some (4 * c) ∧ c < 2147483648) ∧ r (v / 4) < k / 4
noncomputable def ay_is (en : Nat → Option Nat) (j f : Nat) : Int := if en j = some (4 * f) then 1 else 0
noncomputable def ay_g (b f : Nat) (car en : Nat → Option Nat) (l : Nat) : Int := if car l = some 4 then ay_is en (40 * b + 2 * l) f - ay_is en (40 * b + 2 * l + 1) f else if car l = some 8 then ay_is en (40 * b + 2 * l + 1) f - ay_is en (40 * b + 2 * l) f else 0
noncomputable def ay_F (b f : Nat) (car en : Nat → Option Nat) : Int := ay_sm (ay_g b f car en) 20
noncomputable def ay_M14 (b k f : Nat) (car en : Nat → Option Nat) : Prop := (20 - ay_F b (f / 4) car en).toNat < k / 4
noncomputable def ay_M15 (b k f v : Nat) (car en : Nat → Option Nat) : Prop := (20 - ay_F b (f / 4) car en).toNat + (if v / 4 = f / 4 then 1 else 0) < k / 4
noncomputable def ay_M16 (b k f v : Nat) (cam car en : Nat → Option Nat) : Prop := ∀ c u, cam (v / 4) = some (4 * c) → en (ay_fr b c) = some (4 * u) → (20 - ay_F b (f / 4) car en).toNat + (if u = f / 4 then 1 else 0) < k / 4
theorem ay_is_01 (en : Nat → Option Nat) (j f : Nat) : 0 ≤ ay_is en j f ∧ ay_is en j f ≤ 1 := by
  unfold ay_is
  split <;> decide
theorem ay_g_1 {b f : Nat} {car en : Nat → Option Nat} (l : Nat) : -1 ≤ ay_g b f car en l ∧ ay_g b f car en l ≤ 1 := by
  have h1 := ay_is_01 en (40 * b + 2 * l) f
  have h2 := ay_is_01 en (40 * b + 2 * l + 1) f
  unfold ay_g
  split
  · omega
  · split
    · omega
    · omega
theorem ay_F_le {b f : Nat} {car en : Nat → Option Nat} : ay_F b f car en ≤ 20 := (ay_sm_le (fun j => ay_g_1 j) 20).1
/-- the tree grows by one -/
theorem ay_grow {b f t c u d : Nat} {cam cam' car en : Nat → Option Nat} (ht : t < 10) (hu : u < 10) (hc : c < 40) (hto : en (ay_to b c) = some (4 * t)) (hfr : en (ay_fr b c) = some (4 * u)) (hcu : cam u = some (4 * d)) (hd : d < 2147483648) (htn : ∃ x, cam t = some (4 * x) ∧ ¬ x < 2147483648) (hfree : car (c / 2) ≠ some (4 * (1 + c % 2))) (hup : ∀ j, cam' j = if j = t then some (4 * c) else cam j) (h0 : cam f = some 160) (h : ∃ r, ay_tree b f cam en r ∧ ay_free f cam car (fun _ => True)) : cam' f = some 160 ∧ ∃ r, ay_tree b f cam' en r ∧ ay_free f cam' car (fun _ => True) := by
  obtain ⟨r, h1, h2⟩ := h
  obtain ⟨x, hx1, hx2⟩ := htn
  have hft : f ≠ t := fun z => by
    rw [z, hx1] at h0
    have := Option.some.inj h0
    omega
  have hut : u ≠ t := fun z => by
    rw [z, hx1] at hcu
    have := Option.some.inj hcu
    omega
  refine ⟨by rw [hup, if_neg hft]; exact h0, fun j => if j = t then r u + 1 else r j, ?_, ?_⟩
  · intro v e hv hvf hve he
    rw [hup] at hve
    by_cases hvt : v = t
    · subst hvt
      rw [if_pos rfl] at hve
      have hec : e = c := by have := Option.some.inj hve; omega
      subst hec
      refine ⟨hc, hto, u, d, hfr, hu, ?_, hd, ?_⟩
      · rw [hup, if_neg hut]; exact hcu
      · show (if u = v then r u + 1 else r u) < (if v = v then r u + 1 else r v)
        rw [if_neg hut, if_pos rfl]
        omega
    · rw [if_neg hvt] at hve
      obtain ⟨g1, g2, u', d', g3, g4, g5, g6, g7⟩ := h1 v e hv hvf hve he
      have hut' : u' ≠ t := fun z => by
        rw [z, hx1] at g5
        have := Option.some.inj g5
        omega
      refine ⟨g1, g2, u', d', g3, g4, ?_, g6, ?_⟩
      · rw [hup, if_neg hut']; exact g5
      · show (if u' = t then r u + 1 else r u') < (if v = t then r u + 1 else r v)
        rw [if_neg hut', if_neg hvt]
        exact g7
  · intro v e hv hvf _ hve he
    rw [hup] at hve
    by_cases hvt : v = t
    · rw [if_pos hvt] at hve
      have hec : e = c := by have := Option.some.inj hve; omega
      subst hec
      exact hfree
    · rw [if_neg hvt] at hve
      exact h2 v e hv hvf trivial hve he
/-- a link of the row is taken: those that are still to come stay free -/
theorem ay_take {b f v c x : Nat} {cam car car' en : Nat → Option Nat} {r : Nat → Nat} (hv : v < 10) (hvf : v ≠ f) (hcv : cam v = some (4 * c)) (hc : c < 2147483648) (h1 : ay_tree b f cam en r) (h2 : ay_free f cam car (fun y => r y ≤ r v)) (hup : ∀ j, car' j = if j = c / 2 then some x else car j) : ay_free f cam car' (fun y => r y < r v) := by
  intro y e hy hyf hry hye he
  obtain ⟨g1, g2, u, d, g3, g4, g5, g6, g7⟩ := h1 v c hv hvf hcv hc
  obtain ⟨k1, k2, u', d', k3, k4, k5, k6, k7⟩ := h1 y e hy hyf hye he
  rw [hup]
  by_cases hq : e / 2 = c / 2
  · exfalso
    by_cases hec : e = c
    · subst hec
      rw [g2] at k2
      have : v = y := by have := Option.some.inj k2; omega
      rw [this] at hry
      omega
    · have e1 : ay_to b e = ay_fr b c := by unfold ay_to ay_fr; omega
      have e2 : ay_fr b e = ay_to b c := by unfold ay_to ay_fr; omega
      rw [e1, g3] at k2
      rw [e2, g2] at k3
      have hyu : u = y := by have := Option.some.inj k2; omega
      have hvu : v = u' := by have := Option.some.inj k3; omega
      rw [← hvu] at k7
      rw [hyu] at g7
      omega
  · rw [if_neg hq]
    exact h2 y e hy hyf (Nat.le_of_lt hry) hye he
/-- what flows out of f, when one link of the row is taken -/
theorem ay_flow {b f v c u x y : Nat} {car car' en : Nat → Option Nat} (hc : c < 40) (hto : en (ay_to b c) = some (4 * v)) (hfr : en (ay_fr b c) = some (4 * u)) (hvf : v ≠ f) (hy : car (c / 2) = some y) (hxy : (y = 0 ∧ x = 4 * (1 + c % 2)) ∨ ((y = 4 ∨ y = 8) ∧ y ≠ 4 * (1 + c % 2) ∧ x = 0)) (hup : ∀ j, car' j = if j = c / 2 then some x else car j) : ay_F b f car' en = ay_F b f car en + (if u = f then 1 else 0) := by
  have h := ay_sm_upd (g := ay_g b f car en) (g' := ay_g b f car' en) (t := c / 2) (n := 20) (by omega) (fun j hj hjt => by
    unfold ay_g
    rw [hup, if_neg hjt])
  unfold ay_F
  rw [h]
  have i1 : ay_is en (ay_to b c) f = 0 := by
    unfold ay_is
    rw [hto, if_neg (fun z => hvf (by have := Option.some.inj z; omega))]
  have i2 : ay_is en (ay_fr b c) f = if u = f then 1 else 0 := by
    unfold ay_is
    rw [hfr]
    by_cases hu : u = f
    · rw [if_pos hu, if_pos (by rw [hu])]
    · rw [if_neg hu, if_neg (fun z => hu (by have := Option.some.inj z; omega))]
  have hx : car' (c / 2) = some x := by rw [hup, if_pos rfl]
  rcases Nat.mod_two_eq_zero_or_one c with hm | hm
  · have e1 : ay_fr b c = 40 * b + 2 * (c / 2) := by unfold ay_fr; omega
    have e2 : ay_to b c = 40 * b + 2 * (c / 2) + 1 := by unfold ay_to; omega
    rw [e1] at i2
    rw [e2] at i1
    rcases hxy with ⟨h1, h2⟩ | ⟨h1, h2, h3⟩
    · have hx4 : x = 4 := by rw [hm] at h2; exact h2
      have g1 : ay_g b f car' en (c / 2) = if u = f then 1 else 0 := by
        unfold ay_g
        rw [hx, hx4, if_pos rfl, i1, i2]
        omega
      have g2 : ay_g b f car en (c / 2) = 0 := by
        unfold ay_g
        rw [hy, h1, if_neg (by decide), if_neg (by decide)]
      rw [g1, g2]
      omega
    · have hy8 : y = 8 := by rw [hm] at h2; omega
      have g1 : ay_g b f car' en (c / 2) = 0 := by
        unfold ay_g
        rw [hx, h3, if_neg (by decide), if_neg (by decide)]
      have g2 : ay_g b f car en (c / 2) = - (if u = f then 1 else 0) := by
        unfold ay_g
        rw [hy, hy8, if_neg (by decide), if_pos rfl, i1, i2]
        omega
      rw [g1, g2]
      omega
  · have e1 : ay_fr b c = 40 * b + 2 * (c / 2) + 1 := by unfold ay_fr; omega
    have e2 : ay_to b c = 40 * b + 2 * (c / 2) := by unfold ay_to; omega
    rw [e1] at i2
    rw [e2] at i1
    rcases hxy with ⟨h1, h2⟩ | ⟨h1, h2, h3⟩
    · have hx8 : x = 8 := by rw [hm] at h2; exact h2
      have g1 : ay_g b f car' en (c / 2) = if u = f then 1 else 0 := by
        unfold ay_g
        rw [hx, hx8, if_neg (by decide), if_pos rfl, i1, i2]
        omega
      have g2 : ay_g b f car en (c / 2) = 0 := by
        unfold ay_g
        rw [hy, h1, if_neg (by decide), if_neg (by decide)]
      rw [g1, g2]
      omega
    · have hy4 : y = 4 := by rw [hm] at h2; omega
      have g1 : ay_g b f car' en (c / 2) = 0 := by
        unfold ay_g
        rw [hx, h3, if_neg (by decide), if_neg (by decide)]
      have g2 : ay_g b f car en (c / 2) = - (if u = f then 1 else 0) := by
        unfold ay_g
        rw [hy, hy4, if_pos rfl, i1, i2]
        omega
      rw [g1, g2]
      omega
noncomputable def ay_ex (hp : rx_H) (q : Nat) : Prop := ∃ (k m : Nat) (l : List Nat), rx_hg hp q = some (k, m, l)
theorem ay_ex_upd {hp : rx_H} {a i v q : Nat} (h256 : hp.1 ≤ 256) (h : ay_ex hp q) : ay_ex (ax_upd hp a i v) q := by
  cases e : rx_hg hp (a / 4 - 2) with
  | none =>
    have : ax_upd hp a i v = hp := by unfold ax_upd; rw [e]
    rw [this]
    exact h
  | some c =>
    obtain ⟨k, n, f⟩ := c
    have hg := ax_hg_upd (i := i) (v := v) h256 e q
    by_cases hq : q = a / 4 - 2
    · rw [if_pos hq] at hg
      exact ⟨_, _, _, hg⟩
    · rw [if_neg hq] at hg
      obtain ⟨k', m', l', h'⟩ := h
      exact ⟨k', m', l', hg.trans h'⟩
theorem ay_div2 : ∀ c, c < 40 → rx_f_div c 2 = some (c / 2) := by decide +kernel
theorem ay_rem2 : ∀ c, c < 40 → rx_f_rem c 2 = some (c % 2) := by decide +kernel
section AYC
variable {w : ax_W} {X : ax_X} {ρ : Nat → Nat} {E : ax_E} {hp : rx_H}
/-- what a number was made of -/
theorem ay_mk (hE : ax_EO w X ρ E hp) (o x y z : Nat) (ho : o ≤ 10) (h : (1000 + o, [x, y, z]) ∈ E.2.2.2.2) : ∃ r, ax_f o (ax_vl ρ x / 4) (ax_vl ρ y / 4) = some r ∧ r < 4294967296 ∧ ax_vl ρ z = 4 * r := by
  have h1 := (ax_XF_bi (X := X) (o := o) (by omega)).mp (ax_gx hE _ h)
  replace h1 : ax_BI o [ax_vl ρ x, ax_vl ρ y, ax_vl ρ z] := h1
  rcases h1 with ⟨-, -, -, r, s1, s2, s3⟩ | ⟨j, j1, j2, -⟩ | ⟨z1, -⟩
  · exact ⟨r, s1, s2, s3⟩
  · omega
  · omega
theorem ay_q (hE : ax_EO w X ρ E hp) (c q : Nat) {n : Nat} (hc : ax_vl ρ c = 4 * n) (hn : n < 40) (h : (1009, [c, 8, q]) ∈ E.2.2.2.2) : ax_vl ρ q = 4 * (n / 2) := by
  obtain ⟨r, h1, h2, h3⟩ := ay_mk hE 9 c 8 q (by decide) h
  rw [hc, Nat.mul_div_cancel_left n (by decide), ax_vl_c (by decide)] at h1
  replace h1 : rx_f_div n 2 = some r := h1
  rw [ay_div2 n hn] at h1
  rw [h3, Option.some.inj h1]
theorem ay_r (hE : ax_EO w X ρ E hp) (c q : Nat) {n : Nat} (hc : ax_vl ρ c = 4 * n) (hn : n < 40) (h : (1010, [c, 8, q]) ∈ E.2.2.2.2) : ax_vl ρ q = 4 * (n % 2) := by
  obtain ⟨r, h1, h2, h3⟩ := ay_mk hE 10 c 8 q (by decide) h
  rw [hc, Nat.mul_div_cancel_left n (by decide), ax_vl_c (by decide)] at h1
  replace h1 : rx_f_rem n 2 = some r := h1
  rw [ay_rem2 n hn] at h1
  rw [h3, Option.some.inj h1]
theorem ay_s (hE : ax_EO w X ρ E hp) (p q r : Nat) {a b : Nat} (h : (1015, [p, q, r, 0]) ∈ E.2.2.2.2) (ha : ax_vl ρ p = 4 * a) (hb : ax_vl ρ q = 4 * b) (h1 : a < 2147483648) (h2 : b < 2147483648) : ax_vl ρ r = 4 * (a + b) := by
  obtain ⟨a', b', c', e1, e2, e3, l1, l2, l3, hs⟩ := ax_gs hE p q r h
  have ea : a' = a := by omega
  have eb : b' = b := by omega
  subst ea eb
  have := ax_sum3 l1 h2 l3 h1 hs
  omega
/-- the difference of two that is not below 0 -/
theorem ay_d (hE : ax_EO w X ρ E hp) (p q r : Nat) {b c : Nat} (h : (1015, [p, q, r, 0]) ∈ E.2.2.2.2) (hb : ax_vl ρ q = 4 * b) (hc : ax_vl ρ r = 4 * c) (h1 : b ≤ c) (h2 : c < 2147483648) : ax_vl ρ p = 4 * (c - b) := by
  obtain ⟨a', b', c', e1, e2, e3, l1, l2, l3, hs⟩ := ax_gs hE p q r h
  have eb : b' = b := by omega
  have ec : c' = c := by omega
  subst eb ec
  rw [ax_bi_nat (c := b') (by omega), ax_bi_nat (c := c') h2, ax_bi_def] at hs
  omega
/-- K + 2 q + x -/
theorem ay_ix (hE : ax_EO w X ρ E hp) (K q m s x j : Nat) {k a e : Nat} (hK : ax_vl ρ K = 4 * k) (hk : k ≤ 1000) (ha : ax_vl ρ q = 4 * a) (hl : a ≤ 1000) (he : ax_vl ρ x = 4 * e) (hel : e ≤ 1) (h1 : (1002, [8, q, m]) ∈ E.2.2.2.2) (h2 : (1015, [K, m, s, 0]) ∈ E.2.2.2.2) (h3 : (1015, [s, x, j, 0]) ∈ E.2.2.2.2) : ax_vl ρ j = 4 * (k + 2 * a + e) := by
  obtain ⟨r, g1, g2, g3⟩ := ay_mk hE 2 8 q m (by decide) h1
  rw [ha, Nat.mul_div_cancel_left a (by decide), ax_vl_c (by decide)] at g1
  replace g1 : some (8 / 4 * a % 4294967296) = some r := g1
  have g1 := Option.some.inj g1
  have hr : r = 2 * a := by omega
  have hs := ay_s hE K m s h2 hK g3 (by omega) (by omega)
  rw [hr] at hs
  exact ay_s hE s x j h3 hs he (by omega) (by omega)
end AYC
theorem ay_gfj {w : ax_W} {X : ax_X} {ρ : Nat → Nat} {E : ax_E} {hp : rx_H} (hE : ax_EO w X ρ E hp) (a i v q j : Nat) (h : (1200, [a, i, v]) ∈ E.2.2.2.2) (e1 : ax_vl ρ a / 4 - 2 = q) (e2 : ax_vl ρ i / 4 = j) : ay_at hp q j = some (ax_vl ρ v) := by
  rw [← e2]
  exact ay_gf hE a i v q h e1
theorem ay_ex_same {w : ax_W} {md : List (Nat × Nat)} {hp hp' : rx_H} {q g : Nat} (hR : ax_HR w md hp hp') (h : ay_ex hp q) (hw : w.1[q]? = some g) : ay_ex hp' q := by
  obtain ⟨k, m, l, e⟩ := h
  obtain ⟨l', e', -⟩ := hR.2 q g hw k m l e
  exact ⟨k, m, l', e'⟩
theorem ay_same1 {w : ax_W} {md : List (Nat × Nat)} {hp hp' : rx_H} {q g i : Nat} (hR : ax_HR w md hp hp') (hT : ay_ex hp q) (hw : w.1[q]? = some g) (hA : (!(md.any (fun y => Nat.beq y.1 g && (Nat.beq y.2 i || (Nat.beq y.2 999 || Nat.beq i 999))))) = true) : ay_at hp' q i = ay_at hp q i := by
  obtain ⟨k, m, l, e⟩ := hT
  obtain ⟨l', e5, e6⟩ := hR.2 q g hw k m l e
  rw [ay_eq e, ay_eq e5]
  exact e6 i (ax_mem_no hA)
theorem ay_cnt_n {p : Nat → Bool} : ∀ n, ay_cnt p n ≤ n
  | 0 => Nat.le_refl _
  | n + 1 => by
    have := ay_cnt_n (p := p) n
    unfold ay_cnt
    split <;> omega
theorem ay_cnt_mono {p : Nat → Bool} {n m : Nat} (h : n ≤ m) : ay_cnt p n ≤ ay_cnt p m := by
  induction h with
  | refl => exact Nat.le_refl _
  | step h ih =>
    show _ ≤ (if _ then 1 else 0) + _
    omega
theorem ay_cnt_out {p : Nat → Bool} {n : Nat} (h : ∀ j, n ≤ j → p j = false) : ∀ m, ay_cnt p m ≤ ay_cnt p n
  | 0 => Nat.zero_le _
  | m + 1 => by
    have ih := ay_cnt_out h m
    rcases Nat.lt_or_ge m n with hl | hl
    · exact ay_cnt_mono hl
    · show (if p m = true then 1 else 0) + ay_cnt p m ≤ _
      rw [h m hl, if_neg (by decide)]
      omega
theorem ay_cnt_pos {p : Nat → Bool} : ∀ n, 1 ≤ ay_cnt p n → ∃ j, j < n ∧ p j = true
  | 0, h => by
    replace h : 1 ≤ 0 := h
    omega
  | n + 1, h => by
    by_cases hp : p n = true
    · exact ⟨n, by omega, hp⟩
    · replace h : 1 ≤ (if p n = true then 1 else 0) + ay_cnt p n := h
      rw [if_neg hp] at h
      obtain ⟨j, h1, h2⟩ := ay_cnt_pos (p := p) n (by omega)
      exact ⟨j, by omega, h2⟩
theorem ay_cnt_same {p p' : Nat → Bool} : ∀ {n : Nat}, (∀ j, j < n → p' j = p j) → ay_cnt p' n = ay_cnt p n
  | 0, _ => rfl
  | n + 1, h => by
    show (if p' n = true then 1 else 0) + ay_cnt p' n = (if p n = true then 1 else 0) + ay_cnt p n
    rw [h n (by omega), ay_cnt_same (n := n) (fun j hj => h j (by omega))]
-- phases
noncomputable def ay_ln (o : Option Nat) : Nat := match o with
  | some v => v / 4
  | none => 0
noncomputable def ay_fp (wb al : Nat → Option Nat) (ln : Option Nat) (l : Nat) : Bool := decide (wb l ≠ al (20 + l)) && decide (l < ay_ln ln)
noncomputable def ay_tk (wb al it : Nat → Option Nat) (ln : Option Nat) (l : Nat) : Bool := decide (it l = some 4) && ay_fp wb al ln l
noncomputable def ay_M17 (k : Nat) (wb al : Nat → Option Nat) (ln : Option Nat) : Prop := ay_cnt (ay_fp wb al ln) 20 < k / 4
noncomputable def ay_M18 (n l : Nat) (wb al it : Nat → Option Nat) (ln : Option Nat) : Prop := n / 4 ≤ ay_cnt (ay_tk wb al it ln) (l / 4)
noncomputable def ay_M19 (n : Nat) (wb al it : Nat → Option Nat) (ln : Option Nat) : Prop := n / 4 ≤ ay_cnt (ay_tk wb al it ln) 20
noncomputable def ay_M22 (wb al it : Nat → Option Nat) (ln : Option Nat) : Prop := ∃ j, j < 20 ∧ ay_tk wb al it ln j = true
noncomputable def ay_M20 (k l : Nat) (wb al it : Nat → Option Nat) (ln : Option Nat) : Prop := ay_cnt (ay_fp wb al ln) 20 < k / 4 ∧ ((∃ j, j < 20 ∧ l / 4 ≤ j ∧ ay_tk wb al it ln j = true) ∨ ay_cnt (ay_fp wb al ln) 20 + 1 < k / 4)
noncomputable def ay_M21 (k l : Nat) (wb al it : Nat → Option Nat) (ln : Option Nat) : Prop := ay_cnt (ay_fp wb al ln) 20 < k / 4 ∧ ((∃ j, j < 20 ∧ l / 4 < j ∧ ay_tk wb al it ln j = true) ∨ ay_cnt (ay_fp wb al ln) 20 + 1 < k / 4)
theorem ay_fp_up {wb al al' : Nat → Option Nat} {ln : Option Nat} {l x : Nat} (hw : wb l = some x) (hup : ∀ j, al' j = if j = 20 + l then some x else al j) : ay_fp wb al' ln l = false ∧ ∀ j, j ≠ l → ay_fp wb al' ln j = ay_fp wb al ln j := by
  constructor
  · unfold ay_fp
    rw [hup, if_pos rfl, hw]
    have : decide (some x ≠ some x) = false := decide_eq_false (fun h => h rfl)
    rw [this]
    rfl
  · intro j hj
    unfold ay_fp
    rw [hup, if_neg (by omega)]
-- the rule of ranks
noncomputable def ay_stp (h v : Nat) : Option Nat := if v / 4 ≤ 1002 then some (h + 1) else if v / 4 = 1008 then (if 1 ≤ h then some h else none) else if v / 4 ≤ 1007 then (if 2 ≤ h then some (h - 1) else none) else none
noncomputable def ay_ht (ru : Nat → Option Nat) (o : Nat) : Nat → Option Nat
  | 0 => some 0
  | k + 1 => match ay_ht ru o k, ru (o + k) with
    | some h, some v => ay_stp h v
    | _, _ => none
noncomputable def ay_M26 (b : Nat) (ru : Nat → Option Nat) (rl : Option Nat) : Prop := ∀ k, k ≤ ay_ln rl → ay_ht ru (100 * b) k ≠ none
noncomputable def ay_M36 (b n k : Nat) (ru : Nat → Option Nat) : Prop := ay_ht ru (100 * b) (k / 4) = some (n / 4)
theorem ay_ht_s {ru : Nat → Option Nat} {o k h v : Nat} (h1 : ay_ht ru o k = some h) (h2 : ru (o + k) = some v) : ay_ht ru o (k + 1) = ay_stp h v := by
  show (match ay_ht ru o k, ru (o + k) with
    | some h, some v => ay_stp h v
    | _, _ => none) = _
  rw [h1, h2]
theorem ay_ht_le {ru : Nat → Option Nat} {o : Nat} : ∀ {k h : Nat}, ay_ht ru o k = some h → h ≤ k
  | 0, h, e => by
    replace e : some 0 = some h := e
    have := Option.some.inj e
    omega
  | k + 1, h, e => by
    cases e1 : ay_ht ru o k with
    | none =>
      replace e : (match ay_ht ru o k, ru (o + k) with
        | some h, some v => ay_stp h v
        | _, _ => none) = some h := e
      rw [e1] at e
      cases e
    | some h0 =>
      cases e2 : ru (o + k) with
      | none =>
        replace e : (match ay_ht ru o k, ru (o + k) with
          | some h, some v => ay_stp h v
          | _, _ => none) = some h := e
        rw [e1, e2] at e
        cases e
      | some v =>
        have ih := ay_ht_le e1
        rw [ay_ht_s e1 e2] at e
        unfold ay_stp at e
        split at e
        · have := Option.some.inj e; omega
        · split at e
          · split at e
            · have := Option.some.inj e; omega
            · cases e
          · split at e
            · split at e
              · have := Option.some.inj e; omega
              · cases e
            · cases e
-- tables
noncomputable def ay_up (b : Nat) (en al : Nat → Option Nat) (c : Nat) : Bool := decide (en (ay_to b c) = al (20 + c / 2))
noncomputable def ay_bh (s : Nat) (up : Bool) : Nat := if s = 1 ∨ up = false then 1 else 0
noncomputable def ay_k (g v s : Nat) : Nat := 20 * g + 2 * v + s
noncomputable def ay_led (b : Nat) (ft en al : Nat → Option Nat) (ln : Option Nat) (g v s c : Nat) : Prop := c < 40 ∧ c < 2 * ay_ln ln ∧ ∃ t a d, en (ay_to b c) = some (4 * t) ∧ t < 10 ∧ ft (ay_k g t (ay_bh s (ay_up b en al c))) = some (4 * a) ∧ ft (ay_k g v s) = some (4 * d) ∧ a < d ∧ d ≤ 100000
noncomputable def ay_M28 (b g v s c : Nat) (ft en al : Nat → Option Nat) (ln : Option Nat) : Prop := 2147483648 ≤ c / 4 ∨ ay_led b ft en al ln (g / 4) (v / 4) (s / 4) (c / 4)
noncomputable def ay_row (b : Nat) (et ft en al : Nat → Option Nat) (ln : Option Nat) (g v s : Nat) : Prop := ∀ c, et (ay_k g v s) = some (4 * c) → c < 2147483648 → ay_led b ft en al ln g v s c
noncomputable def ay_M24 (b : Nat) (et ft en al : Nat → Option Nat) (no ln : Option Nat) : Prop := ∀ g v s, g < ay_ln no → v < ay_ln no → s < 2 → ay_row b et ft en al ln g v s
noncomputable def ay_M25 (b : Nat) (en : Nat → Option Nat) (no ln : Option Nat) : Prop := ∀ j, j < 2 * ay_ln ln → ∃ t, en (40 * b + j) = some (4 * t) ∧ t < ay_ln no
noncomputable def ay_lx (g v s g' v' s' : Nat) : Prop := g < g' ∨ (g = g' ∧ (v < v' ∨ (v = v' ∧ s < s')))
noncomputable def ay_M29 (b g v s : Nat) (et ft en al : Nat → Option Nat) (no ln : Option Nat) : Prop := ∀ g' v' s', ay_lx g' v' s' (g / 4) (v / 4) (s / 4) → v' < ay_ln no → s' < 2 → ay_row b et ft en al ln g' v' s'
noncomputable def ay_M30 (b g v s : Nat) (et ft en al : Nat → Option Nat) (no ln : Option Nat) : Prop := ∀ g' v' s', ay_lx g' v' s' (g / 4) (v / 4) (s / 4 + 1) → v' < ay_ln no → s' < 2 → ay_row b et ft en al ln g' v' s'
/-- one entry is written -/
theorem ay_ent {b g v s c : Nat} {et et' ft en al : Nat → Option Nat} {no ln : Option Nat} (hg : g < 10) (hv : v < 10) (hs : s < 2) (hno : ay_ln no ≤ 10) (hup : ∀ j, et' j = if j = ay_k g v s then some c else et j) (h : ay_M29 b (4 * g) (4 * v) (4 * s) et ft en al no ln) (hc : c / 4 < 2147483648 → c % 4 = 0 → ay_led b ft en al ln g v s (c / 4)) : ay_M30 b (4 * g) (4 * v) (4 * s) et' ft en al no ln := by
  have d4 : ∀ z : Nat, 4 * z / 4 = z := fun z => by omega
  unfold ay_M29 at h
  unfold ay_M30
  rw [d4, d4, d4] at h ⊢
  intro g' v' s' hlx hv' hs' c' hc' hl'
  rw [hup] at hc'
  by_cases hk : ay_k g' v' s' = ay_k g v s
  · rw [if_pos hk] at hc'
    unfold ay_k at hk
    have e1 : g' = g := by unfold ay_lx at hlx; omega
    have e2 : v' = v := by omega
    have e3 : s' = s := by omega
    have e4 := Option.some.inj hc'
    subst e1 e2 e3
    have := hc (by omega) (by omega)
    rw [e4, d4] at this
    exact this
  · rw [if_neg hk] at hc'
    refine h g' v' s' ?_ hv' hs' c' hc' hl'
    unfold ay_lx at hlx ⊢
    unfold ay_k at hk
    omega
-- paths
noncomputable def ay_nx (b to : Nat) (et en al : Nat → Option Nat) (x : Nat × Nat × Option Nat) : Nat × Nat × Option Nat := match x.2.2 with
  | some c => if c / 4 < 2147483648 then (ay_ln (en (ay_to b (c / 4))), ay_bh x.2.1 (ay_up b en al (c / 4)), if ay_ln (en (ay_to b (c / 4))) = to then some 17179869180 else et (ay_k to (ay_ln (en (ay_to b (c / 4)))) (ay_bh x.2.1 (ay_up b en al (c / 4))))) else x
  | none => x
noncomputable def ay_pt (b f to : Nat) (et en al : Nat → Option Nat) : Nat → Nat × Nat × Option Nat
  | 0 => (f, 0, et (ay_k to f 0))
  | n + 1 => ay_nx b to et en al (ay_pt b f to et en al n)
/-- where it has ended it stays -/
theorem ay_pt_end {b f to c : Nat} {et en al : Nat → Option Nat} {n : Nat} (hc : ¬ c / 4 < 2147483648) (h : (ay_pt b f to et en al n).2.2 = some c) : ∀ m, n ≤ m → (ay_pt b f to et en al m).2.2 = some c := by
  intro m hm
  induction hm with
  | refl => exact h
  | step hm ih =>
    rename_i m
    show (ay_nx b to et en al (ay_pt b f to et en al m)).2.2 = some c
    unfold ay_nx
    rw [ih]
    dsimp only
    rw [if_neg hc]
    exact ih
theorem ay_pt_int {b f to : Nat} {et en al : Nat → Option Nat} (hi : ∀ j v, et j = some v → v % 4 = 0) : ∀ (n c : Nat), (ay_pt b f to et en al n).2.2 = some c → c % 4 = 0
  | 0, c, h => hi _ c h
  | n + 1, c, h => by
    replace h : (ay_nx b to et en al (ay_pt b f to et en al n)).2.2 = some c := h
    unfold ay_nx at h
    cases e : (ay_pt b f to et en al n).2.2 with
    | none =>
      rw [e] at h
      dsimp only at h
      rw [e] at h
      cases h
    | some c0 =>
      rw [e] at h
      dsimp only at h
      by_cases h1 : c0 / 4 < 2147483648
      · rw [if_pos h1] at h
        dsimp only at h
        split at h
        · have := Option.some.inj h
          omega
        · exact hi _ c h
      · rw [if_neg h1] at h
        exact ay_pt_int hi n c h
/-- paths by a table that leads on are short -/
theorem ay_short {b f to : Nat} {et ft en al : Nat → Option Nat} {no ln : Option Nat} (hi : ∀ j v, et j = some v → v % 4 = 0) (h24 : ay_M24 b et ft en al no ln) (h25 : ay_M25 b en no ln) (hf : f < ay_ln no) (ht : to < ay_ln no) : ∀ (n c : Nat), (ay_pt b f to et en al n).2.2 = some c → c / 4 < 2147483648 → (ay_pt b f to et en al n).1 < ay_ln no ∧ (ay_pt b f to et en al n).2.1 < 2 ∧ et (ay_k to (ay_pt b f to et en al n).1 (ay_pt b f to et en al n).2.1) = some c ∧ ∃ d, ft (ay_k to (ay_pt b f to et en al n).1 (ay_pt b f to et en al n).2.1) = some (4 * d) ∧ d + n ≤ 100000
  | 0, c, h, hc => by
    have hc4 := ay_pt_int hi 0 c h
    refine ⟨hf, by show 0 < 2; decide, h, ?_⟩
    have h' : et (ay_k to f 0) = some (4 * (c / 4)) := by rw [show 4 * (c / 4) = c by omega]; exact h
    obtain ⟨-, -, t, a, d, -, -, -, h5, -, h7⟩ := h24 to f 0 ht hf (by decide) (c / 4) h' hc
    exact ⟨d, h5, by omega⟩
  | n + 1, c, h, hc => by
    cases e : (ay_pt b f to et en al n).2.2 with
    | none =>
      exfalso
      replace h : (ay_nx b to et en al (ay_pt b f to et en al n)).2.2 = some c := h
      unfold ay_nx at h
      rw [e] at h
      dsimp only at h
      rw [e] at h
      cases h
    | some c0 =>
      have hc4 := ay_pt_int hi n c0 e
      by_cases hc0 : c0 / 4 < 2147483648
      · obtain ⟨i1, i2, i3, d, i4, i5⟩ := ay_short hi h24 h25 hf ht n c0 e hc0
        have i3' : et (ay_k to (ay_pt b f to et en al n).1 (ay_pt b f to et en al n).2.1) = some (4 * (c0 / 4)) := by rw [show 4 * (c0 / 4) = c0 by omega]; exact i3
        obtain ⟨g1, g2, t, a, d', g3, g4, g5, g6, g7, g8⟩ := h24 to _ _ ht i1 i2 (c0 / 4) i3' hc0
        have hd : d' = d := by
          rw [i4] at g6
          have := Option.some.inj g6
          omega
        have ht' : ay_ln (en (ay_to b (c0 / 4))) = t := by rw [g3]; show 4 * t / 4 = t; omega
        have hn : ay_pt b f to et en al (n + 1) = (t, ay_bh (ay_pt b f to et en al n).2.1 (ay_up b en al (c0 / 4)), if t = to then some 17179869180 else et (ay_k to t (ay_bh (ay_pt b f to et en al n).2.1 (ay_up b en al (c0 / 4))))) := by
          show ay_nx b to et en al (ay_pt b f to et en al n) = _
          unfold ay_nx
          rw [e]
          dsimp only
          rw [if_pos hc0, ht']
        rw [hn] at h ⊢
        dsimp only at h ⊢
        have htn : t < ay_ln no := by
          obtain ⟨t', k1, k2⟩ := h25 (2 * (c0 / 4 / 2) + (1 - c0 / 4 % 2)) (by omega)
          have : ay_to b (c0 / 4) = 40 * b + (2 * (c0 / 4 / 2) + (1 - c0 / 4 % 2)) := by unfold ay_to; omega
          rw [this, k1] at g3
          have := Option.some.inj g3
          omega
        have hbh : ay_bh (ay_pt b f to et en al n).2.1 (ay_up b en al (c0 / 4)) < 2 := by unfold ay_bh; split <;> decide
        by_cases hto : t = to
        · rw [if_pos hto] at h
          have := Option.some.inj h
          omega
        · rw [if_neg hto] at h
          exact ⟨htn, hbh, h, a, g5, by omega⟩
      · exfalso
        replace h : (ay_nx b to et en al (ay_pt b f to et en al n)).2.2 = some c := h
        unfold ay_nx at h
        rw [e] at h
        dsimp only at h
        rw [if_neg hc0, e] at h
        have := Option.some.inj h
        omega
noncomputable def ay_M31 (b f t i n v s c : Nat) (et en al : Nat → Option Nat) : Prop := (i / 4 < 2147483648 → n / 4 ≤ i / 4) ∧ ay_pt b (f / 4) (t / 4) et en al (n / 4) = (v / 4, s / 4, some c)
noncomputable def ay_M33 (b f t i n v s : Nat) (et en al : Nat → Option Nat) : Prop := (i / 4 < 2147483648 → n / 4 + 1 ≤ i / 4) ∧ ay_pt b (f / 4) (t / 4) et en al (n / 4 + 1) = (v / 4, s / 4, if v / 4 = t / 4 then some 17179869180 else et (ay_k (t / 4) (v / 4) (s / 4)))
noncomputable def ay_M32 (b f t i c : Nat) (et en al : Nat → Option Nat) : Prop := i / 4 < 2147483648 → (ay_pt b (f / 4) (t / 4) et en al (i / 4)).2.2 = some c
noncomputable def ay_M34 (b f t i : Nat) (et en al : Nat → Option Nat) : Prop := i / 4 < 2147483648 → ∃ c, (ay_pt b (f / 4) (t / 4) et en al (i / 4)).2.2 = some c ∧ c / 4 < 2147483648
/-- 20 g + 2 v + s -/
theorem ay_stt {w : ax_W} {X : ax_X} {ρ : Nat → Nat} {E : ax_E} {hp : rx_H} (hE : ax_EO w X ρ E hp) (g p1 v p2 s1 s k : Nat) {G V S : Nat} (hg : ax_vl ρ g = 4 * G) (hG : G ≤ 9) (hv : ax_vl ρ v = 4 * V) (hV : V ≤ 9) (hs : ax_vl ρ s = 4 * S) (hS : S ≤ 1) (h1 : (1002, [80, g, p1]) ∈ E.2.2.2.2) (h2 : (1002, [8, v, p2]) ∈ E.2.2.2.2) (h3 : (1015, [p1, p2, s1, 0]) ∈ E.2.2.2.2) (h4 : (1015, [s1, s, k, 0]) ∈ E.2.2.2.2) : ax_vl ρ k = 4 * ay_k G V S := by
  obtain ⟨r, g1, g2, g3⟩ := ay_mk hE 2 80 g p1 (by decide) h1
  obtain ⟨r', g1', g2', g3'⟩ := ay_mk hE 2 8 v p2 (by decide) h2
  rw [hg, Nat.mul_div_cancel_left G (by decide), ax_vl_c (by decide)] at g1
  rw [hv, Nat.mul_div_cancel_left V (by decide), ax_vl_c (by decide)] at g1'
  replace g1 : some (80 / 4 * G % 4294967296) = some r := g1
  replace g1' : some (8 / 4 * V % 4294967296) = some r' := g1'
  have g1 := Option.some.inj g1
  have g1' := Option.some.inj g1'
  have hr : r = 20 * G := by omega
  have hr' : r' = 2 * V := by omega
  have k1 := ay_s hE p1 p2 s1 h3 g3 g3' (by omega) (by omega)
  have k2 := ay_s hE s1 s k h4 k1 hs (by omega) (by omega)
  rw [k2, hr, hr']
  rfl
