/-! Paths by the table, and loads -/
section LOADS
variable {nn L s p g up : Nat} {E : Nat → Nat} {st u : Nat → Bool} {v : fx_V} {F' : fx_F}
/-- the path's channel number i from w to g -/
noncomputable def pa (nn L : Nat) (E : Nat → Nat) (st u : Nat → Bool) (g w : Nat) : Nat → Nat
  | 0 => ent nn L E st u g (2 * w)
  | i + 1 => if pa nn L E st u g w i = 4294967295 then 4294967295 else ent nn L E st u g (2 * E (nf (pa nn L E st u g w i)) + bh u (pa nn L E st u g w i))
theorem ent_q {x : Nat} : ent nn L E st u g x = 4294967295 ∨ (ent nn L E st u g x < 2 * L ∧ x % 2 ≤ bh u (ent nn L E st u g x) ∧ ∃ d, gd L E st u g (d + 1) x ∧ gd L E st u g d (2 * E (nf (ent nn L E st u g x)) + bh u (ent nn L E st u g x))) := by
  rcases tst_q (L := L) (E := E) (st := st) (u := u) (g := g) (us := tpl L E st u (tgo nn L E st u g) g x) (x := x) with h | ⟨h, h1, d, h2, h3, h4⟩
  · exact Or.inl h
  · refine Or.inr ⟨h, ?_, d, ?_, h4⟩
    · have := h2.2.2.2.1
      rw [h1] at this
      replace this : (2 * (x / 2) + x % 2) % 2 ≤ bh u (ent nn L E st u g x) := this
      omega
    · rw [h1] at h3
      rw [show x = 2 * (x / 2) + x % 2 by omega]
      exact h3
theorem pa_s {w i : Nat} : pa nn L E st u g w (i + 1) = if pa nn L E st u g w i = 4294967295 then 4294967295 else ent nn L E st u g (2 * E (nf (pa nn L E st u g w i)) + bh u (pa nn L E st u g w i)) := rfl
theorem pa_q {w : Nat} : ∀ i, pa nn L E st u g w i = 4294967295 ∨ (pa nn L E st u g w i < 2 * L ∧ ∃ d D, gd L E st u g d (2 * E (nf (pa nn L E st u g w i)) + bh u (pa nn L E st u g w i)) ∧ gd L E st u g D (2 * w) ∧ d + i + 1 = D)
  | 0 => by
    rcases ent_q (nn := nn) (L := L) (E := E) (st := st) (u := u) (g := g) (x := 2 * w) with h | ⟨h, _, d, h1, h2⟩
    · exact Or.inl h
    · exact Or.inr ⟨h, d, d + 1, h2, h1, rfl⟩
  | i + 1 => by
    have ih : pa nn L E st u g w i = 4294967295 ∨ (pa nn L E st u g w i < 2 * L ∧ ∃ d D, gd L E st u g d (2 * E (nf (pa nn L E st u g w i)) + bh u (pa nn L E st u g w i)) ∧ gd L E st u g D (2 * w) ∧ d + i + 1 = D) := pa_q i
    by_cases z : pa nn L E st u g w i = 4294967295
    · rw [pa_s, if_pos z]; exact Or.inl rfl
    · rw [pa_s, if_neg z]
      obtain ⟨h1, d, D, h2, h3, h4⟩ := ih.resolve_left z
      rcases ent_q (nn := nn) (L := L) (E := E) (st := st) (u := u) (g := g) (x := 2 * E (nf (pa nn L E st u g w i)) + bh u (pa nn L E st u g w i)) with h | ⟨h, _, e, k1, k2⟩
      · exact Or.inl h
      · have := gd_fun h2 k1
        exact Or.inr ⟨h, e, D, k2, h3, by omega⟩
theorem pa_20 (hN : nt_ok nn L E) (hg : g < nn) {w i : Nat} (hi : 19 ≤ i) : pa nn L E st u g w i = 4294967295 := by
  rcases pa_q (nn := nn) (L := L) (E := E) (st := st) (u := u) (g := g) (w := w) i with h | ⟨_, d, D, h1, h2, h3⟩
  · exact h
  · have := gd_lt hN hg h2
    have := hN.1
    omega
theorem pa_end {w i : Nat} (h : pa nn L E st u g w i = 4294967295) : ∀ j, pa nn L E st u g w (i + j) = 4294967295
  | 0 => h
  | j + 1 => by
    show pa nn L E st u g w (i + j + 1) = _
    rw [pa_s, if_pos (pa_end h j)]
/-- used along the first k channels of a path -/
noncomputable def lpa (nn L : Nat) (E : Nat → Nat) (st u : Nat → Bool) (us : Nat → Nat) (g w : Nat) : Nat → Nat → Nat
  | 0 => us
  | k + 1 => bmp (lpa nn L E st u us g w k) (pa nn L E st u g w k)
noncomputable def lto (nn L : Nat) (E : Nat → Nat) (st u : Nat → Bool) (us : Nat → Nat) (w : Nat) : Nat → Nat → Nat
  | 0 => us
  | g + 1 => lpa nn L E st u (lto nn L E st u us w g) g w 20
noncomputable def lfr (nn L : Nat) (E : Nat → Nat) (st u : Nat → Bool) : Nat → Nat → Nat
  | 0 => fun _ => 0
  | w + 1 => lto nn L E st u (lfr nn L E st u w) w nn
/-- the loads -/
noncomputable def lod (nn L : Nat) (E : Nat → Nat) (st u : Nat → Bool) : Nat → Nat := lfr nn L E st u nn
theorem lpa_le {us : Nat → Nat} {w c : Nat} : ∀ k, lpa nn L E st u us g w k c ≤ us c + k
  | 0 => Nat.le_refl _
  | k + 1 => by
    have : lpa nn L E st u us g w k c ≤ us c + k := lpa_le k
    show (if c = _ then lpa nn L E st u us g w k c + 1 else lpa nn L E st u us g w k c) ≤ _
    split <;> omega
theorem lpa_stop {us : Nat → Nat} {w c i : Nat} (hc : c < 2 * L) (hL : L ≤ 20) (h : pa nn L E st u g w i = 4294967295) : ∀ j, lpa nn L E st u us g w (i + j) c = lpa nn L E st u us g w i c
  | 0 => rfl
  | j + 1 => by
    have := pa_end h j
    show (if c = pa nn L E st u g w (i + j) then lpa nn L E st u us g w (i + j) c + 1 else lpa nn L E st u us g w (i + j) c) = _
    rw [if_neg (by omega)]
    exact lpa_stop hc hL h j
theorem lto_le {us : Nat → Nat} {w c : Nat} : ∀ k, lto nn L E st u us w k c ≤ us c + 20 * k
  | 0 => Nat.le_refl _
  | k + 1 => by
    have h1 : lto nn L E st u us w k c ≤ us c + 20 * k := lto_le k
    have h2 := lpa_le (nn := nn) (L := L) (E := E) (st := st) (u := u) (g := k) (us := lto nn L E st u us w k) (w := w) (c := c) 20
    show lpa nn L E st u (lto nn L E st u us w k) k w 20 c ≤ _
    omega
theorem lfr_le {c : Nat} : ∀ k, lfr nn L E st u k c ≤ k * (20 * nn)
  | 0 => by show 0 ≤ _; omega
  | k + 1 => by
    have h1 : lfr nn L E st u k c ≤ k * (20 * nn) := lfr_le k
    have h2 := lto_le (nn := nn) (L := L) (E := E) (st := st) (u := u) (us := lfr nn L E st u k) (w := k) (c := c) nn
    show lto nn L E st u (lfr nn L E st u k) k nn c ≤ _
    rw [Nat.add_mul]
    omega
theorem lpa_b (hn : nn ≤ 10) {w k c : Nat} (hw : w < nn) (hg : g ≤ nn) (hk : k ≤ 20) : lpa nn L E st u (lto nn L E st u (lfr nn L E st u w) w g) g w k c ≤ 3000 := by
  have h1 := lpa_le (nn := nn) (L := L) (E := E) (st := st) (u := u) (g := g) (us := lto nn L E st u (lfr nn L E st u w) w g) (w := w) (c := c) k
  have h2 := lto_le (nn := nn) (L := L) (E := E) (st := st) (u := u) (us := lfr nn L E st u w) (w := w) (c := c) g
  have h3 := lfr_le (nn := nn) (L := L) (E := E) (st := st) (u := u) (c := c) w
  have h4 : w * (20 * nn) ≤ 10 * 200 := Nat.mul_le_mul (by omega) (by omega)
  omega
theorem ctb.keep {F F' : fx_F} (h : ctb F nn L E p up s) {S : List Nat} (ho : fxo S F F') (h2 : p + 2 ∉ S) : ctb F' nn L E p up s := fun g x hg hx => (ho (p + 2) _ h2).trans (h g x hg hx)
theorem s_countPath (hN : nt_ok nn L E) (hp : 24 ≤ p) {w : Nat} (hg : g < nn) (hw : w < nn) {us : Nat → Nat} (hus : ∀ c, us c ≤ 2900) {F : fx_F} (hcn : cn F nn L E) (hr : rcs F nn L E p up s) (ht : ctb F nn L E p up s) (hu : ∀ c, c < 2 * L → F (p + 4) c = us c) (h : Cl k_Ro_countPath [(2, p), (0, w), (0, g)] F v F') : v = (2, 0) ∧ fxo [p + 4] F F' ∧ ∀ c, c < 2 * L → F' (p + 4) c = lpa nn L E (bts s) (bts up) us g w 20 c := by
  obtain ⟨n, h⟩ := c_Ro_countPath h
  obtain ⟨m, hm2, hR⟩ := q_Ro_countPath_0 h
  have hL := hN.2.1
  have hn := hN.1
  have e0 : i_add (i_add (i_mul g 20) (i_mul 2 w)) 0 = 20 * g + 2 * w := by
    rw [b_mul (show g * 20 < 4294967296 by omega), b_mul (show 2 * w < 4294967296 by omega), b_add (show g * 20 + 2 * w < 4294967296 by omega), b_add (show g * 20 + 2 * w + 0 < 4294967296 by omega)]; omega
  rw [e0, ht g (2 * w) hg (by omega)] at hR
  have lp : ∀ (n : Nat) (F2 : fx_F) (i : Nat), Rn n k_Ro_countPath 11 [(2, p), (3, 0), (0, g), (0, pa nn L E (bts s) (bts up) g w i), (0, i)] [] F2 v F' → i ≤ 20 → fxo [p + 4] F F2 → (∀ c, c < 2 * L → F2 (p + 4) c = lpa nn L E (bts s) (bts up) us g w i c) → v = (2, 0) ∧ fxo [p + 4] F F' ∧ ∀ c, c < 2 * L → F' (p + 4) c = lpa nn L E (bts s) (bts up) us g w 20 c := by
    intro n
    induction n using Nat.strongRecOn with
    | ind n ih =>
      intro F2 i h hi ho hu2
      have q := q_Ro_countPath_11 h
      have hq := pa_q (nn := nn) (L := L) (E := E) (st := bts s) (u := bts up) (g := g) (w := w) i
      rcases Nat.lt_or_ge i 20 with hlt | hge
      · replace q := q.2 (by rw [b_lt (by clear q; omega) (by decide)]; exact hlt)
        by_cases z : pa nn L E (bts s) (bts up) g w i = 4294967295
        · obtain ⟨x1, x2⟩ := q.1 z
          clear q
          subst x2
          refine ⟨x1, ho, fun c hc => ?_⟩
          have := lpa_stop (us := us) hc hL z (20 - i)
          rw [show i + (20 - i) = 20 by omega] at this
          rw [this]; exact hu2 c hc
        · obtain ⟨m, hm, hR⟩ := q.2 z
          clear q
          have hpl : pa nn L E (bts s) (bts up) g w i < 2 * L := (hq.resolve_left z).1
          have hb := bh_le (bts up) (pa nn L E (bts s) (bts up) g w i)
          have hE := (hN.2.2 _ (nf_lt hpl)).1
          have hcn2 := hcn.keep ho (by simp <;> omega) (by simp <;> omega) (by simp <;> omega)
          have hr2 := hr.keep ho (by simp) (by simp) (by simp)
          have hle := lpa_le (nn := nn) (L := L) (E := E) (st := bts s) (u := bts up) (g := g) (us := us) (w := w) (c := pa nn L E (bts s) (bts up) g w i) i
          have hus1 := hus (pa nn L E (bts s) (bts up) g w i)
          have ei : i_add (i_mul g 20) (i_add (i_mul 2 (E (nf (pa nn L E (bts s) (bts up) g w i)))) (bh (bts up) (pa nn L E (bts s) (bts up) g w i))) = 20 * g + (2 * E (nf (pa nn L E (bts s) (bts up) g w i)) + bh (bts up) (pa nn L E (bts s) (bts up) g w i)) := by
            rw [b_mul (show g * 20 < 4294967296 by omega), b_mul (show 2 * E (nf (pa nn L E (bts s) (bts up) g w i)) < 4294967296 by omega), b_add (show 2 * E (nf (pa nn L E (bts s) (bts up) g w i)) + bh (bts up) (pa nn L E (bts s) (bts up) g w i) < 4294967296 by omega), b_add (show g * 20 + (2 * E (nf (pa nn L E (bts s) (bts up) g w i)) + bh (bts up) (pa nn L E (bts s) (bts up) g w i)) < 4294967296 by omega)]; omega
          rw [fu_p (show 5 ≠ p + 4 by omega), fu_p (show p + 5 ≠ p + 4 by omega), fu_p (show p + 2 ≠ p + 4 by omega), (hcn2.2.2 _ hpl).2, hr2.2.2.2.1 _ hpl, ei, ho (p + 2) _ (by simp), ht g _ hg (by omega), hu2 _ hpl, b_add (show i + 1 < 4294967296 by omega), b_add (show _ + 1 < 4294967296 by omega), show ent nn L E (bts s) (bts up) g (2 * E (nf (pa nn L E (bts s) (bts up) g w i)) + bh (bts up) (pa nn L E (bts s) (bts up) g w i)) = pa nn L E (bts s) (bts up) g w (i + 1) by rw [pa_s, if_neg z]] at hR
          refine ih m hm _ (i + 1) hR hlt (ho.wr (by simp)) (fun c hc => ?_)
          show _ = if c = pa nn L E (bts s) (bts up) g w i then _ else _
          by_cases ec : c = pa nn L E (bts s) (bts up) g w i
          · rw [if_pos ec, ← ec, fu_same]
          · rw [if_neg ec, fu_i ec]; exact hu2 c hc
      · obtain ⟨x1, x2⟩ := q.1 (by rw [b_le (by decide) (by clear q; omega)]; exact hge)
        clear q
        subst x2
        have : i = 20 := by omega
        subst this
        exact ⟨x1, ho, hu2⟩
  exact lp m F 0 hR (Nat.zero_le _) fxo.rf hu
theorem s_countLoads (hN : nt_ok nn L E) (hp : 24 ≤ p) {F : fx_F} (hcn : cn F nn L E) (hr : rcs F nn L E p up s) (ht : ctb F nn L E p up s) (h : Cl k_Ro_countLoads [(2, p)] F v F') : v = (2, 0) ∧ fxo [p + 4] F F' ∧ ∀ c, c < 2 * L → F' (p + 4) c = lod nn L E (bts s) (bts up) c := by
  obtain ⟨n, h⟩ := c_Ro_countLoads h
  obtain ⟨m, hm2, hR⟩ := q_Ro_countLoads_0 h
  have hL := hN.2.1
  have hn := hN.1
  have kp : ∀ F2 : fx_F, fxo [p + 4] F F2 → cn F2 nn L E ∧ rcs F2 nn L E p up s ∧ ctb F2 nn L E p up s := fun F2 ho => ⟨hcn.keep ho (by simp <;> omega) (by simp <;> omega) (by simp <;> omega), hr.keep ho (by simp) (by simp) (by simp), ht.keep ho (by simp)⟩
  let Pl : Nat → Prop := fun n => ∀ (F2 : fx_F) (w : Nat), Rn n k_Ro_countLoads 28 [(2, p), (0, w), (3, 0)] [] F2 v F' → w ≤ nn → fxo [p + 4] F F2 → (∀ c, c < 2 * L → F2 (p + 4) c = lfr nn L E (bts s) (bts up) w c) → v = (2, 0) ∧ fxo [p + 4] F F' ∧ ∀ c, c < 2 * L → F' (p + 4) c = lod nn L E (bts s) (bts up) c
  have l41 : ∀ (N n : Nat), (∀ m, m < N → Pl m) → n < N → ∀ (F2 : fx_F) (w g : Nat), Rn n k_Ro_countLoads 41 [(2, p), (0, w), (0, g)] [] F2 v F' → w < nn → g ≤ nn → fxo [p + 4] F F2 → (∀ c, c < 2 * L → F2 (p + 4) c = lto nn L E (bts s) (bts up) (lfr nn L E (bts s) (bts up) w) w g c) → v = (2, 0) ∧ fxo [p + 4] F F' ∧ ∀ c, c < 2 * L → F' (p + 4) c = lod nn L E (bts s) (bts up) c := by
    intro N n hP
    induction n using Nat.strongRecOn with
    | ind n ih =>
      intro hnN F2 w g h hw hg ho hu
      obtain ⟨kc, kr, kt⟩ := kp F2 ho
      have q := q_Ro_countLoads_41 h
      rw [kc.1] at q
      rcases Nat.lt_or_ge g nn with hlt | hge
      · obtain ⟨F1, c1, m, hm, hR⟩ := q.2 (by rw [b_lt (by clear q; omega) (by clear q; omega)]; exact hlt)
        clear q
        rw [b_add (show g + 1 < 4294967296 by omega)] at hR
        obtain ⟨-, y1, y2⟩ := s_countPath hN hp hlt hw (us := lto nn L E (bts s) (bts up) (lfr nn L E (bts s) (bts up) w) w g) (fun c => by
          have h2 := lto_le (nn := nn) (L := L) (E := E) (st := bts s) (u := bts up) (us := lfr nn L E (bts s) (bts up) w) (w := w) (c := c) g
          have h3 := lfr_le (nn := nn) (L := L) (E := E) (st := bts s) (u := bts up) (c := c) w
          have h4 : w * (20 * nn) ≤ 10 * 200 := Nat.mul_le_mul (by omega) (by omega)
          omega) kc kr kt hu c1
        exact ih m hm (by omega) F1 w (g + 1) hR hw hlt (ho.tr y1) y2
      · obtain ⟨m, hm, hR⟩ := q.1 (by rw [b_le (by clear q; omega) (by clear q; omega)]; exact hge)
        clear q
        rw [b_add (show w + 1 < 4294967296 by omega)] at hR
        have : g = nn := by omega
        subst this
        exact hP m (by omega) F2 (w + 1) hR hw ho hu
  have lP : ∀ n, Pl n := by
    intro n
    induction n using Nat.strongRecOn with
    | ind n ih =>
      intro F2 w h hw ho hu
      obtain ⟨kc, kr, kt⟩ := kp F2 ho
      have q := q_Ro_countLoads_28 h
      rw [kc.1] at q
      rcases Nat.lt_or_ge w nn with hlt | hge
      · obtain ⟨m, hm, hR⟩ := q.2 (by rw [b_lt (by clear q; omega) (by clear q; omega)]; exact hlt)
        exact l41 n m ih hm F2 w 0 hR hlt (Nat.zero_le _) ho hu
      · obtain ⟨x1, x2⟩ := q.1 (by rw [b_le (by clear q; omega) (by clear q; omega)]; exact hge)
        clear q
        subst x2
        have : w = nn := by omega
        subst this
        exact ⟨x1, ho, hu⟩
  have l2 : ∀ (n : Nat) (F2 : fx_F) (c : Nat), Rn n k_Ro_countLoads 2 [(2, p), (0, c), (3, 0)] [] F2 v F' → c ≤ 2 * L → fxo [p + 4] F F2 → (∀ c', c' < c → F2 (p + 4) c' = 0) → v = (2, 0) ∧ fxo [p + 4] F F' ∧ ∀ c, c < 2 * L → F' (p + 4) c = lod nn L E (bts s) (bts up) c := by
    intro n
    induction n using Nat.strongRecOn with
    | ind n ih =>
      intro F2 c h hc ho hz
      obtain ⟨kc, kr, kt⟩ := kp F2 ho
      have q := q_Ro_countLoads_2 h
      rw [kc.2.1, b_mul (show 2 * L < 4294967296 by clear q; omega)] at q
      rcases Nat.lt_or_ge c (2 * L) with hlt | hge
      · obtain ⟨m, hm, hR⟩ := q.2 (by rw [b_lt (by clear q; omega) (by clear q; omega)]; exact hlt)
        clear q
        rw [b_add (show c + 1 < 4294967296 by omega)] at hR
        refine ih m hm _ (c + 1) hR hlt (ho.wr (by simp)) (fun c' hc' => ?_)
        by_cases e : c' = c
        · subst e; rw [fu_same]
        · rw [fu_i e]; exact hz c' (by omega)
      · obtain ⟨m, hm, hR⟩ := q.1 (by rw [b_le (by clear q; omega) (by clear q; omega)]; exact hge)
        clear q
        exact lP m F2 0 hR (Nat.zero_le _) ho (fun c' hc' => hz c' (by omega))
  exact l2 m F 0 hR (Nat.zero_le _) fxo.rf (fun c' hc' => absurd hc' (Nat.not_lt_zero _))
/-- a cache whose table is right -/
def rct (F : fx_F) (nn L : Nat) (E : Nat → Nat) (p : Nat) : Prop := F p 4 ≠ 0 → F p 3 ≠ 0 ∧ ctb F nn L E p (F p 1) (F p 2) ∧ ∀ c, c < 2 * L → F (p + 4) c = lod nn L E (bts (F p 2)) (bts (F p 1)) c
theorem rcs_rci {F : fx_F} (hu : up < 2147483648) (hs : s < 2147483648) (h : rcs F nn L E p up s) : rci F nn L E p := by
  obtain ⟨r1, r2, r3, r4, r5⟩ := h
  refine ⟨by rw [r1]; exact hu, by rw [r2]; exact hs, fun _ => ?_⟩
  rw [r1, r2]
  exact ⟨r4, r5⟩
theorem s_see2 (hN : nt_ok nn L E) (hu : up < 2147483648) (hs : s < 2147483648) (hp : 24 ≤ p) {F : fx_F} (hc : cn F nn L E) (hr : rci F nn L E p) (ht : rct F nn L E p) (h : Cl k_Ro_see [(2, p), (0, up), (0, s)] F v F') : v = (2, 0) ∧ fxo [p, p + 1, p + 5] F F' ∧ rcs F' nn L E p up s ∧ rci F' nn L E p ∧ rct F' nn L E p := by
  obtain ⟨a1, a2, a3, a4⟩ := s_see hN hu hs hp hc hr h
  refine ⟨a1, a2, a3, rcs_rci hu hs a3, ?_⟩
  rcases a4 with e | e
  · rw [e]; exact ht
  · exact fun z => absurd e z
theorem s_seeTable (hN : nt_ok nn L E) (hu : up < 2147483648) (hs : s < 2147483648) (hp : 24 ≤ p) {F : fx_F} (hc : cn F nn L E) (hol : ocl F nn L E) (hr : rci F nn L E p) (ht : rct F nn L E p) (h : Cl k_Ro_seeTable [(2, p), (0, up), (0, s)] F v F') : v = (2, 0) ∧ fxo [p, p + 1, p + 2, p + 3, p + 4, p + 5] F F' ∧ rcs F' nn L E p up s ∧ ctb F' nn L E p up s ∧ (∀ c, c < 2 * L → F' (p + 4) c = lod nn L E (bts s) (bts up) c) ∧ rci F' nn L E p ∧ rct F' nn L E p := by
  obtain ⟨n, h⟩ := c_Ro_seeTable h
  obtain ⟨F1, c1, q1, q2⟩ := q_Ro_seeTable_0 h
  obtain ⟨-, a2, a3, a4, a5⟩ := s_see2 hN hu hs hp hc hr ht c1
  have m1 : fxo [p, p + 1, p + 2, p + 3, p + 4, p + 5] F F1 := a2.mono (by simp)
  by_cases z : F1 p 4 = 0
  · obtain ⟨F2, c2, F3, c3, x1, x2⟩ := q2 z
    have hc1 := hc.keep a2 (by simp; omega) (by simp; omega) (by simp; omega)
    obtain ⟨-, b2, b3⟩ := s_fillTable hN hs hp hc1 (hol.keep a2 (by simp; omega) (by simp; omega)) a3 c2
    have hr2 := a3.keep b2 (by simp) (by simp) (by simp)
    obtain ⟨-, d2, d3⟩ := s_countLoads hN hp (hc1.keep b2 (by simp; omega) (by simp; omega) (by simp; omega)) hr2 b3 c3
    have hr3 := hr2.keep d2 (by simp) (by simp) (by simp)
    have hb3 := b3.keep d2 (by simp)
    subst x2
    have ho4 : ∀ q j, (q ≠ p ∨ j ≠ 4) → fu F3 p 4 1 q j = F3 q j := fun q j hj => by rw [fu_if, if_neg (fun z => hj.elim (fun y => y z.1) (fun y => y z.2))]
    have hr4 : rcs (fu F3 p 4 1) nn L E p up s := by
      obtain ⟨r1, r2, r3, r4, r5⟩ := hr3
      refine ⟨(ho4 p 1 (Or.inr (by decide))).trans r1, (ho4 p 2 (Or.inr (by decide))).trans r2, by rw [ho4 p 3 (Or.inr (by decide))]; exact r3, fun c hc => (ho4 _ c (Or.inl (by omega))).trans (r4 c hc), fun g hg x hx => ?_⟩
      have := r5 g hg x hx
      show (fu F3 p 4 1 (p + 1) (20 * g + x) ≠ 4294967295 → gd L E (bts s) (bts up) g (fu F3 p 4 1 (p + 1) (20 * g + x)) x) ∧ ∀ d, gd L E (bts s) (bts up) g d x → fu F3 p 4 1 (p + 1) (20 * g + x) = d
      rw [ho4 (p + 1) _ (Or.inl (by omega))]
      exact this
    have hb4 : ctb (fu F3 p 4 1) nn L E p up s := fun g x hg hx => (ho4 (p + 2) _ (Or.inl (by omega))).trans (hb3 g x hg hx)
    have hd4 : ∀ c, c < 2 * L → fu F3 p 4 1 (p + 4) c = lod nn L E (bts s) (bts up) c := fun c hc => (ho4 (p + 4) _ (Or.inl (by omega))).trans (d3 c hc)
    refine ⟨x1, ((m1.tr (b2.mono (by simp))).tr (d2.mono (by simp))).wr (by simp), hr4, hb4, hd4, rcs_rci hu hs hr4, fun _ => ⟨hr4.2.2.1, ?_⟩⟩
    rw [hr4.1, hr4.2.1]
    exact ⟨hb4, hd4⟩
  · obtain ⟨x1, x2⟩ := q1 z
    subst x2
    have := (a5 z).2
    rw [a3.1, a3.2.1] at this
    exact ⟨x1, m1, a3, this.1, this.2, a4, a5⟩
end LOADS
