/-! Rings -/
def pth (T : Nat → Nat → Prop) : Nat → Nat → Nat → Prop
  | 0, a, b => a = b
  | k + 1, a, b => ∃ d, T a d ∧ pth T k d b
def cyc (T : Nat → Nat → Prop) : Prop := ∃ c k, pth T (k + 1) c c
def clo (T : Nat → Nat → Prop) (S : Nat → Prop) : Prop := ∀ c, S c → ∃ d, S d ∧ T c d
section RNG
variable {T : Nat → Nat → Prop} {M : Nat}
theorem pth_snoc : ∀ {k a b d : Nat}, pth T k a b → T b d → pth T (k + 1) a d
  | 0, a, b, d, h, h2 => ⟨d, by rw [show a = b from h]; exact h2, rfl⟩
  | k + 1, a, b, d, ⟨e, h1, h3⟩, h2 => ⟨e, h1, pth_snoc h3 h2⟩
theorem clo_of_cyc (h : cyc T) : ∃ S : Nat → Prop, clo T S ∧ ∃ c, S c := by
  obtain ⟨c, k, hk⟩ := h
  refine ⟨fun x => ∃ j, pth T j x c, fun x ⟨j, hj⟩ => ?_, c, 0, rfl⟩
  cases j with
  | zero =>
    have : x = c := hj
    subst this
    obtain ⟨d, h1, h2⟩ := hk
    exact ⟨d, ⟨k, h2⟩, h1⟩
  | succ j =>
    obtain ⟨d, h1, h2⟩ := hj
    exact ⟨d, ⟨j, h2⟩, h1⟩
theorem cyc_of_clo {S : Nat → Prop} (hS : clo T S) (hM : ∀ c, S c → c < M) {c : Nat} (hc : S c) : cyc T := by
  have st : ∀ x, ∃ d, S x → (S d ∧ T x d) := fun x => by
    by_cases hx : S x
    · obtain ⟨d, h1, h2⟩ := hS x hx
      exact ⟨d, fun _ => ⟨h1, h2⟩⟩
    · exact ⟨0, fun z => absurd z hx⟩
  let f : Nat → Nat := fun i => Nat.rec c (fun _ x => (st x).choose) i
  have f1 : ∀ i, f (i + 1) = (st (f i)).choose := fun i => rfl
  have fS : ∀ i, S (f i) := by
    intro i
    induction i with
    | zero => exact hc
    | succ i ih => rw [f1]; exact ((st (f i)).choose_spec ih).1
  have fT : ∀ i, T (f i) (f (i + 1)) := fun i => by rw [f1]; exact ((st (f i)).choose_spec (fS i)).2
  have fp : ∀ k i, pth T k (f i) (f (i + k)) := by
    intro k
    induction k with
    | zero => intro i; rfl
    | succ k ih => intro i; exact pth_snoc (ih i) (fT (i + k))
  by_cases hx : ∃ i j, i < j ∧ j ≤ M ∧ f i = f j
  · obtain ⟨i, j, h1, _, h3⟩ := hx
    refine ⟨f i, j - i - 1, ?_⟩
    have := fp (j - i - 1 + 1) i
    rw [show i + (j - i - 1 + 1) = j by omega, ← h3] at this
    exact this
  · have := pg_hole M M f (fun k _ => hM _ (fS k)) (fun i j hi hj hij => by
      rcases Nat.lt_trichotomy i j with z | z | z
      · exact absurd ⟨i, j, z, hj, hij⟩ hx
      · exact z
      · exact absurd ⟨j, i, z, hi, hij.symm⟩ hx)
    omega
end RNG
theorem cnt_mono {p q : Nat → Bool} : ∀ {n : Nat}, (∀ i, i < n → p i = true → q i = true) → cnt p n ≤ cnt q n
  | 0, _ => Nat.le_refl 0
  | n + 1, h => by
    have := cnt_mono (p := p) (q := q) (n := n) (fun i hi => h i (by omega))
    have h2 := h n (by omega)
    show cnt p n + (if p n then 1 else 0) ≤ cnt q n + (if q n then 1 else 0)
    cases hp : p n with
    | false => rw [if_neg (by decide)]; omega
    | true => rw [h2 hp]; rw [if_pos rfl]; omega
theorem cnt_less {p q : Nat → Bool} : ∀ {n c : Nat}, c < n → (∀ i, i < n → p i = true → q i = true) → q c = true → p c = false → cnt p n + 1 ≤ cnt q n
  | 0, c, hc, _, _, _ => absurd hc (Nat.not_lt_zero c)
  | n + 1, c, hc, h, hq, hp => by
    show cnt p n + (if p n then 1 else 0) + 1 ≤ cnt q n + (if q n then 1 else 0)
    by_cases e : c = n
    · subst e
      rw [hq, hp, if_pos rfl, if_neg (by decide)]
      have := cnt_mono (p := p) (q := q) (n := c) (fun i hi => h i (by omega))
      omega
    · have := cnt_less (p := p) (q := q) (n := n) (c := c) (by omega) (fun i hi => h i (by omega)) hq hp
      have h2 := h n (by omega)
      cases hp2 : p n with
      | false => rw [if_neg (by decide)]; split <;> omega
      | true => rw [h2 hp2, if_pos rfl]; omega
section HR
variable {nn L : Nat} {E : Nat → Nat} {v : fx_V} {F' : fx_F} {T : Nat → Nat → Prop}
noncomputable def hrC (L : Nat) (T : Nat → Nat → Prop) (x : Nat) : Prop := x < 2 ^ (2 * L) ∧ ∀ S : Nat → Prop, (∀ c, S c → c < 2 * L) → clo T S → ∀ c, S c → x.testBit c = true
theorem s_haveRing (hN : nt_ok nn L E) (hT : ∀ c d, T c d → c < 2 * L ∧ d < 2 * L) {F : fx_F} (hc : cn F nn L E) (ho : ontos F L T (2 * L)) (h : Cl k_Tu_haveRing [(2, 45)] F v F') : F' = F ∧ ((v = (0, 1) ∧ cyc T) ∨ (v = (0, 0) ∧ ¬ cyc T)) := by
  obtain ⟨n, h⟩ := c_Tu_haveRing h
  obtain ⟨m, hm, hR⟩ := q_Tu_haveRing_0 h
  have hL := hN.2.1
  have inner : ∀ (n : Nat) (x c g k x0 : Nat), Rn n k_Tu_haveRing 33 [(2, 45), (1, x), (3, 0), (0, g), (0, k), (0, c)] [] F v F' → c ≤ 2 * L → k ≤ 40 → hrC L T x → cnt (fun i => x.testBit i) (2 * L) ≤ cnt (fun i => x0.testBit i) (2 * L) → (g = 0 → ∀ c', c' < c → x.testBit c' = true → ∃ d, x.testBit d = true ∧ T c' d) → (g ≠ 0 → cnt (fun i => x.testBit i) (2 * L) + 1 ≤ cnt (fun i => x0.testBit i) (2 * L)) → ∃ m x' g', m < n ∧ Rn m k_Tu_haveRing 17 [(2, 45), (1, x'), (3, 0), (0, g'), (0, k + 1), (3, 0)] [] F v F' ∧ hrC L T x' ∧ (g' = 0 → clo T (fun c => x'.testBit c = true)) ∧ (g' ≠ 0 → cnt (fun i => x'.testBit i) (2 * L) + 1 ≤ cnt (fun i => x0.testBit i) (2 * L)) := by
    intro n
    induction n using Nat.strongRecOn with
    | ind n ih =>
      intro x c g k x0 h hcL hk hC hle h0 h1
      have q := q_Tu_haveRing_33 h
      have hx2 := p40 hL hC.1
      rw [hc.2.1, b_mul (by omega)] at q
      rcases Nat.lt_or_ge c (2 * L) with hl | hl
      · replace q := q.2 (by rw [b_lt (by omega) (by omega)]; exact hl)
        have hF := p40 hL (tb_lt (fun i hi => (hT _ _ ((ho c hl i).mp hi)).2))
        rw [b_add (show c + 1 < 4294967296 by omega)] at q
        have jb : rx_f_lcmp (rx_j_and (rx_j_shr x c) 1) 1 = 0 ↔ x.testBit c = true := j_bit (by omega) (by omega)
        have jz : rx_f_lcmp (rx_j_and (F 47 c) x) 0 = 0 ↔ F 47 c &&& x = 0 := by
          rw [j_and (by omega) (by omega)]
          exact j_zero (Nat.lt_of_le_of_lt Nat.and_le_left (by omega))
        have nxt : ∀ m : Nat, m < n → (∃ m2 x2 g2, m2 < m ∧ Rn m2 k_Tu_haveRing 17 [(2, 45), (1, x2), (3, 0), (0, g2), (0, k + 1), (3, 0)] [] F v F' ∧ hrC L T x2 ∧ (g2 = 0 → clo T (fun c => x2.testBit c = true)) ∧ (g2 ≠ 0 → cnt (fun i => x2.testBit i) (2 * L) + 1 ≤ cnt (fun i => x0.testBit i) (2 * L))) → ∃ m2 x2 g2, m2 < n ∧ Rn m2 k_Tu_haveRing 17 [(2, 45), (1, x2), (3, 0), (0, g2), (0, k + 1), (3, 0)] [] F v F' ∧ hrC L T x2 ∧ (g2 = 0 → clo T (fun c => x2.testBit c = true)) ∧ (g2 ≠ 0 → cnt (fun i => x2.testBit i) (2 * L) + 1 ≤ cnt (fun i => x0.testBit i) (2 * L)) := by
          rintro m hm ⟨m2, x2, g2, z1, z2⟩
          exact ⟨m2, x2, g2, by omega, z2⟩
        by_cases hb : x.testBit c = true
        · replace q := q.2 (jb.mpr hb)
          by_cases hz : F 47 c &&& x = 0
          · -- c leads nowhere
            obtain ⟨m, hm, hR⟩ := q.2 (jz.mpr hz)
            have nod : ∀ d, x.testBit d = true → ¬ T c d := by
              intro d hd hT2
              have : (F 47 c &&& x).testBit d = true := by rw [Nat.testBit_and, (ho c hl d).mpr hT2, hd]; rfl
              rw [hz, Nat.zero_testBit] at this
              cases this
            have hsh : rx_j_shl 1 c < 18446744073709551616 := by
              rw [j_shl1 (by omega)]
              exact (show 2 ^ c < 2 ^ 64 from Nat.pow_lt_pow_right (by decide) (by omega))
            obtain ⟨l1, l2⟩ := j_less (x := x) (y := rx_j_shl 1 c) (by omega) hsh
            have l3 : ∀ i, (rx_j_and x (rx_j_xor (rx_j_shl 1 c) 18446744073709551615)).testBit i = (x.testBit i && !(decide (c = i))) := by
              intro i
              rw [l2 i, j_shl1 (by omega), Nat.testBit_two_pow]
            have hless : cnt (fun i => (rx_j_and x (rx_j_xor (rx_j_shl 1 c) 18446744073709551615)).testBit i) (2 * L) + 1 ≤ cnt (fun i => x.testBit i) (2 * L) := by
              refine cnt_less hl (fun i _ hi => ?_) hb ?_
              · replace hi : (rx_j_and x (rx_j_xor (rx_j_shl 1 c) 18446744073709551615)).testBit i = true := hi
                rw [l3 i, Bool.and_eq_true] at hi
                exact hi.1
              · show (rx_j_and x (rx_j_xor (rx_j_shl 1 c) 18446744073709551615)).testBit c = false
                rw [l3 c, decide_eq_true rfl, hb]
                rfl
            refine nxt m hm (ih m hm _ (c + 1) 1 k x0 hR (by omega) hk ⟨Nat.lt_of_le_of_lt l1 hC.1, fun S hS1 hS2 c' hc' => ?_⟩ (by omega) (fun z => by cases z) (fun _ => by omega))
            rw [l3 c', hC.2 S hS1 hS2 c' hc', Bool.true_and]
            by_cases e : c = c'
            · subst e
              obtain ⟨d, d1, d2⟩ := hS2 c hc'
              exact absurd d2 (nod d (hC.2 S hS1 hS2 d d1))
            · rw [decide_eq_false e]
              rfl
          · obtain ⟨m, hm, hR⟩ := q.1 (fun z => hz (jz.mp z))
            refine nxt m hm (ih m hm x (c + 1) g k x0 hR (by omega) hk hC hle (fun z c' hc' hb' => ?_) h1)
            by_cases e : c' = c
            · subst e
              by_cases hx : ∃ d, (F 47 c' &&& x).testBit d = true
              · obtain ⟨d, hd⟩ := hx
                rw [Nat.testBit_and, Bool.and_eq_true] at hd
                exact ⟨d, hd.2, (ho c' hl d).mp hd.1⟩
              · refine absurd (tb_ext (fun i => ?_)) hz
                rw [Nat.zero_testBit]
                cases hq : (F 47 c' &&& x).testBit i with
                | false => rfl
                | true => exact absurd ⟨i, hq⟩ hx
            · exact h0 z c' (by omega) hb'
        · obtain ⟨m, hm, hR⟩ := q.1 (fun z => hb (jb.mp z))
          refine nxt m hm (ih m hm x (c + 1) g k x0 hR (by omega) hk hC hle (fun z c' hc' hb' => ?_) h1)
          by_cases e : c' = c
          · subst e; exact absurd hb' hb
          · exact h0 z c' (by omega) hb'
      · obtain ⟨m, hm, hR⟩ := q.1 (by rw [b_le (by omega) (by omega)]; exact hl)
        rw [b_add (show k + 1 < 4294967296 by omega)] at hR
        refine ⟨m, x, g, hm, hR, hC, fun z c' hc' => ?_, h1⟩
        have : c' < 2 * L := by
          rcases Nat.lt_or_ge c' (2 * L) with z2 | z2
          · exact z2
          · replace hc' : x.testBit c' = true := hc'
            rw [tb_out hC.1 z2] at hc'; cases hc'
        exact h0 z c' (by omega) hc'
  have outer : ∀ (n : Nat) (x g k : Nat), Rn n k_Tu_haveRing 17 [(2, 45), (1, x), (3, 0), (0, g), (0, k), (3, 0)] [] F v F' → k ≤ 41 → hrC L T x → (g = 0 → clo T (fun c => x.testBit c = true)) → (g ≠ 0 → cnt (fun i => x.testBit i) (2 * L) + k ≤ 2 * L) → F' = F ∧ ((v = (0, 1) ∧ cyc T) ∨ (v = (0, 0) ∧ ¬ cyc T)) := by
    intro n
    induction n using Nat.strongRecOn with
    | ind n ih =>
      intro x g k h hk hC h0 h1
      have q := q_Tu_haveRing_17 h
      have hx2 := p40 hL hC.1
      have jz : rx_f_lcmp x 0 = 0 ↔ x = 0 := j_zero (by omega)
      have fin : clo T (fun c => x.testBit c = true) → ((rx_f_lcmp x 0 = 0 → v = (0, 0) ∧ F' = F) ∧ (rx_f_lcmp x 0 ≠ 0 → v = (0, 1) ∧ F' = F)) → F' = F ∧ ((v = (0, 1) ∧ cyc T) ∨ (v = (0, 0) ∧ ¬ cyc T)) := by
        intro hcl qq
        by_cases hx : x = 0
        · obtain ⟨e1, e2⟩ := qq.1 (jz.mpr hx)
          refine ⟨e2, Or.inr ⟨e1, fun z => ?_⟩⟩
          obtain ⟨S, s1, c, s2⟩ := clo_of_cyc z
          have := hC.2 S (fun c hc => by obtain ⟨d, _, hd⟩ := s1 c hc; exact (hT _ _ hd).1) s1 c s2
          rw [hx, Nat.zero_testBit] at this
          cases this
        · obtain ⟨e1, e2⟩ := qq.2 (fun z => hx (jz.mp z))
          refine ⟨e2, Or.inl ⟨e1, ?_⟩⟩
          have : ∃ c, x.testBit c = true := by
            by_cases hy : ∃ c, x.testBit c = true
            · exact hy
            · refine absurd (tb_ext (fun i => ?_)) hx
              rw [Nat.zero_testBit]
              cases hq : x.testBit i with
              | false => rfl
              | true => exact absurd ⟨i, hq⟩ hy
          obtain ⟨c, hc⟩ := this
          exact cyc_of_clo (M := 2 * L) hcl (fun c hc => by obtain ⟨d, _, hd⟩ := hcl c hc; exact (hT _ _ hd).1) hc
      rcases Nat.lt_or_ge 40 k with hk2 | hk2
      · have hg : g = 0 := by
          by_cases hg : g = 0
          · exact hg
          · have := h1 hg; omega
        exact fin (h0 hg) (q.1 (by rw [b_lt (by omega) (by omega)]; exact hk2))
      · replace q := q.2 (by rw [b_le (by omega) (by omega)]; exact hk2)
        by_cases hg : g = 0
        · exact fin (h0 hg) (q.1 hg)
        · obtain ⟨m, hm, hR⟩ := q.2 hg
          obtain ⟨m2, x', g', z1, z2, z3, z4, z5⟩ := inner m x 0 0 k x hR (Nat.zero_le _) hk2 hC (Nat.le_refl _) (fun _ c' hc' => absurd hc' (Nat.not_lt_zero _)) (fun z => absurd rfl z)
          exact ih m2 (by omega) x' g' (k + 1) z2 (by omega) z3 z4 (fun z => by have := z5 z; have := h1 hg; omega)
  rw [hc.2.1, b_mul (by omega), j_full (by omega)] at hR
  have hfull : ∀ i, (2 ^ (2 * L) - 1).testBit i = decide (i < 2 * L) := fun i => Nat.testBit_two_pow_sub_one (2 * L) i
  refine outer m _ 1 0 hR (by omega) ⟨by have := Nat.two_pow_pos (2 * L); omega, fun S hS1 hS2 c hc => ?_⟩ (fun z => by cases z) (fun _ => by have := cnt_le (fun i => (2 ^ (2 * L) - 1).testBit i) (2 * L); omega)
  rw [hfull c, decide_eq_true (hS1 c hc)]
end HR
