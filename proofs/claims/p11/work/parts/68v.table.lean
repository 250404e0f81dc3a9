/-! The table -/
section TABLE
variable {nn L s p g up : Nat} {E : Nat → Nat} {st u : Nat → Bool} {v : fx_V} {F' : fx_F}
/-- the entry of place x -/
noncomputable def tst (L : Nat) (E : Nat → Nat) (st u : Nat → Bool) (us : Nat → Nat) (g x : Nat) : Nat := lus (lq L E st u g (x / 2) (x % 2)) us (2 * L)
def bmp (us : Nat → Nat) (e : Nat) : Nat → Nat := fun c => if c = e then us c + 1 else us c
/-- how often used, after x places of goal g -/
noncomputable def tpl (L : Nat) (E : Nat → Nat) (st u : Nat → Bool) (us : Nat → Nat) (g : Nat) : Nat → Nat → Nat
  | 0 => us
  | x + 1 => bmp (tpl L E st u us g x) (tst L E st u (tpl L E st u us g x) g x)
/-- how often used, after g goals -/
noncomputable def tgo (nn L : Nat) (E : Nat → Nat) (st u : Nat → Bool) : Nat → Nat → Nat
  | 0 => fun _ => 0
  | g + 1 => tpl L E st u (tgo nn L E st u g) g (2 * nn)
/-- the entry -/
noncomputable def ent (nn L : Nat) (E : Nat → Nat) (st u : Nat → Bool) (g x : Nat) : Nat := tst L E st u (tpl L E st u (tgo nn L E st u g) g x) g x
theorem tpl_le {us : Nat → Nat} {c : Nat} : ∀ x, tpl L E st u us g x c ≤ us c + x
  | 0 => Nat.le_refl _
  | x + 1 => by
    have : tpl L E st u us g x c ≤ us c + x := tpl_le x
    show (if c = _ then tpl L E st u us g x c + 1 else tpl L E st u us g x c) ≤ _
    split <;> omega
theorem tgo_le {c : Nat} : ∀ g, tgo nn L E st u g c ≤ g * (2 * nn)
  | 0 => by show 0 ≤ _; omega
  | g + 1 => by
    have : tgo nn L E st u g c ≤ g * (2 * nn) := tgo_le g
    have := tpl_le (L := L) (E := E) (st := st) (u := u) (g := g) (us := tgo nn L E st u g) (c := c) (2 * nn)
    show tpl L E st u (tgo nn L E st u g) g (2 * nn) c ≤ _
    rw [Nat.add_mul]
    omega
theorem tpl_200 (hn : nn ≤ 10) (hg : g < nn) {x c : Nat} (hx : x ≤ 2 * nn) : tpl L E st u (tgo nn L E st u g) g x c ≤ 220 := by
  have a := tpl_le (L := L) (E := E) (st := st) (u := u) (g := g) (us := tgo nn L E st u g) (c := c) x
  have b := tgo_le (nn := nn) (L := L) (E := E) (st := st) (u := u) (c := c) g
  have d : g * (2 * nn) ≤ 10 * 20 := Nat.mul_le_mul (by omega) (by omega)
  omega
theorem tst_goal {us : Nat → Nat} {x : Nat} (hx : x / 2 = g) : tst L E st u us g x = 4294967295 := by
  unfold tst
  have : lus (lq L E st u g (x / 2) (x % 2)) us (0 + 2 * L) = lus (lq L E st u g (x / 2) (x % 2)) us 0 := lus_gap (2 * L) (fun c _ _ hq => by
    obtain ⟨h1, d, h2, h3, h4⟩ := hq
    refine h3.2 0 (by omega) ?_
    show (2 * E c + x % 2) / 2 = g
    omega)
  rw [Nat.zero_add] at this
  rw [this]; rfl
theorem tst_q {us : Nat → Nat} {x : Nat} : tst L E st u us g x = 4294967295 ∨ (tst L E st u us g x < 2 * L ∧ lq L E st u g (x / 2) (x % 2) (tst L E st u us g x)) := lus_q _
theorem tst_congr {us us2 : Nat → Nat} {x : Nat} (hL : L ≤ 20) (h : ∀ c, c < 2 * L → us c = us2 c) : tst L E st u us g x = tst L E st u us2 g x := lus_congr (by omega) (fun _ _ => Iff.rfl) h
/-- the class's table is right -/
def ctb (F : fx_F) (nn L : Nat) (E : Nat → Nat) (p up s : Nat) : Prop := ∀ g x, g < nn → x < 2 * nn → F (p + 2) (20 * g + x) = ent nn L E (bts s) (bts up) g x
theorem rcs.keep {F F' : fx_F} (h : rcs F nn L E p up s) {S : List Nat} (ho : fxo S F F') (h0 : p ∉ S) (h1 : p + 1 ∉ S) (h5 : p + 5 ∉ S) : rcs F' nn L E p up s := by
  obtain ⟨r1, r2, r3, r4, r5⟩ := h
  refine ⟨(ho p 1 h0).trans r1, (ho p 2 h0).trans r2, by rw [ho p 3 h0]; exact r3, fun c hc => (ho _ c h5).trans (r4 c hc), fun g hg x hx => ?_⟩
  have := r5 g hg x hx
  show (F' (p + 1) (20 * g + x) ≠ 4294967295 → gd L E (bts s) (bts up) g (F' (p + 1) (20 * g + x)) x) ∧ ∀ d, gd L E (bts s) (bts up) g d x → F' (p + 1) (20 * g + x) = d
  rw [ho (p + 1) _ h1]
  exact this
theorem s_fillTable (hN : nt_ok nn L E) (hs : s < 2147483648) (hp : 24 ≤ p) {F : fx_F} (hcn : cn F nn L E) (hol : ocl F nn L E) (hr : rcs F nn L E p up s) (h : Cl k_Ro_fillTable [(2, p)] F v F') : v = (2, 0) ∧ fxo [p + 2, p + 3] F F' ∧ ctb F' nn L E p up s := by
  obtain ⟨n, h⟩ := c_Ro_fillTable h
  obtain ⟨m, hm2, hR⟩ := q_Ro_fillTable_0 h
  have hL := hN.2.1
  have hn := hN.1
  have kp : ∀ F2 : fx_F, fxo [p + 2, p + 3] F F2 → cn F2 nn L E ∧ ocl F2 nn L E ∧ rcs F2 nn L E p up s := fun F2 ho => ⟨hcn.keep ho (by simp; omega) (by simp; omega) (by simp; omega), hol.keep ho (by simp; omega) (by simp; omega), hr.keep ho (by simp) (by simp) (by simp)⟩
  let Pl : Nat → Prop := fun n => ∀ (F2 : fx_F) (g : Nat), Rn n k_Ro_fillTable 28 [(2, p), (0, g), (3, 0), (3, 0)] [] F2 v F' → g ≤ nn → fxo [p + 2, p + 3] F F2 → (∀ c, c < 2 * L → F2 (p + 3) c = tgo nn L E (bts s) (bts up) g c) → (∀ g' x, g' < g → x < 2 * nn → F2 (p + 2) (20 * g' + x) = ent nn L E (bts s) (bts up) g' x) → v = (2, 0) ∧ fxo [p + 2, p + 3] F F' ∧ ctb F' nn L E p up s
  have l41 : ∀ (N n : Nat), (∀ m, m < N → Pl m) → n < N → ∀ (F2 : fx_F) (g x : Nat), Rn n k_Ro_fillTable 41 [(2, p), (0, g), (0, x), (3, 0)] [] F2 v F' → g < nn → x ≤ 2 * nn → fxo [p + 2, p + 3] F F2 → (∀ c, c < 2 * L → F2 (p + 3) c = tpl L E (bts s) (bts up) (tgo nn L E (bts s) (bts up) g) g x c) → (∀ g' x, g' < g → x < 2 * nn → F2 (p + 2) (20 * g' + x) = ent nn L E (bts s) (bts up) g' x) → (∀ x', x' < x → F2 (p + 2) (20 * g + x') = ent nn L E (bts s) (bts up) g x') → v = (2, 0) ∧ fxo [p + 2, p + 3] F F' ∧ ctb F' nn L E p up s := by
    intro N n hP
    induction n using Nat.strongRecOn with
    | ind n ih =>
      intro hnN F2 g x h hg hx ho hu hA hB
      obtain ⟨kc, ko, kr⟩ := kp F2 ho
      have q := q_Ro_fillTable_41 h
      rw [kc.1, b_mul (show 2 * nn < 4294967296 by clear q; omega)] at q
      rcases Nat.lt_or_ge x (2 * nn) with hlt | hge
      · obtain ⟨n1, F1, c1, q1, q2⟩ := q.2 (by rw [b_lt (by clear q; omega) (by clear q; omega)]; exact hlt)
        clear q
        rw [show i_shr x 1 = x / 2 from b_shr (by clear q1 q2; omega) (by decide), b_and1] at c1
        obtain ⟨a1, a2⟩ := s_cleast hN hg hs hp (show x / 2 < nn by clear q1 q2; omega) (Nat.mod_lt _ (by decide)) kc ko kr (fun c hc => by
          have := tpl_200 (L := L) (E := E) (st := bts s) (u := bts up) hn hg (x := x) (c := c) hx
          rw [hu c hc]; clear q1 q2; omega) c1
        subst a1
        cases a2
        have e : lus (lq L E (bts s) (bts up) g (x / 2) (x % 2)) (F1 (p + 3)) (2 * L) = ent nn L E (bts s) (bts up) g x := tst_congr hL hu
        rw [e] at q1 q2
        have ei : i_add (i_mul g 20) x = 20 * g + x := by
          rw [b_mul (show g * 20 < 4294967296 by clear q1 q2; omega), b_add (show g * 20 + x < 4294967296 by clear q1 q2; omega), Nat.mul_comm]
        rw [b_add (show x + 1 < 4294967296 by clear q1 q2; omega), ei] at q1 q2
        have eq2 : ∀ x', x' < x + 1 → (fu F1 (p + 2) (20 * g + x) (ent nn L E (bts s) (bts up) g x)) (p + 2) (20 * g + x') = ent nn L E (bts s) (bts up) g x' := fun x' hx' => by
          by_cases ex : x' = x
          · subst ex; rw [fu_same]
          · rw [fu_i (by clear q1 q2; omega)]; exact hB x' (by clear q1 q2; omega)
        have eq3 : ∀ g' x', g' < g → x' < 2 * nn → (fu F1 (p + 2) (20 * g + x) (ent nn L E (bts s) (bts up) g x)) (p + 2) (20 * g' + x') = ent nn L E (bts s) (bts up) g' x' := fun g' x' hg' hx' => by
          rw [fu_i (by clear q1 q2; omega)]; exact hA g' x' hg' hx'
        have hq := tst_q (L := L) (E := E) (st := bts s) (u := bts up) (g := g) (us := tpl L E (bts s) (bts up) (tgo nn L E (bts s) (bts up) g) g x) (x := x)
        by_cases z : ent nn L E (bts s) (bts up) g x = 4294967295
        · obtain ⟨m, hm, hR⟩ := q1 z
          refine ih m hm (by omega) _ g (x + 1) hR hg hlt (ho.wr (by simp)) (fun c hc => ?_) eq3 eq2
          rw [fu_p (by omega), hu c hc]
          show _ = if c = ent nn L E (bts s) (bts up) g x then _ else _
          rw [if_neg (by rw [z]; omega)]
        · obtain ⟨m, hm, hR⟩ := q2 z
          clear q1 q2
          have hel : ent nn L E (bts s) (bts up) g x < 2 * L := (hq.resolve_left z).1
          have h2 := tpl_200 (L := L) (E := E) (st := bts s) (u := bts up) hn hg (x := x) (c := ent nn L E (bts s) (bts up) g x) hx
          rw [fu_p (show p + 3 ≠ p + 2 by omega), hu _ hel, b_add (show _ + 1 < 4294967296 by omega)] at hR
          refine ih m hm (by omega) _ g (x + 1) hR hg hlt ((ho.wr (by simp)).wr (by simp)) (fun c hc => ?_) (fun g' x' hg' hx' => by rw [fu_p (by omega)]; exact eq3 g' x' hg' hx') (fun x' hx' => by rw [fu_p (by omega)]; exact eq2 x' hx')
          show _ = if c = ent nn L E (bts s) (bts up) g x then _ else _
          by_cases ec : c = ent nn L E (bts s) (bts up) g x
          · rw [if_pos ec, ec, fu_same]
          · rw [if_neg ec, fu_i ec, fu_p (by omega), hu c hc]
      · obtain ⟨m, hm, hR⟩ := q.1 (by rw [b_le (by clear q; omega) (by clear q; omega)]; exact hge)
        clear q
        rw [b_add (show g + 1 < 4294967296 by omega)] at hR
        have : x = 2 * nn := by omega
        subst this
        refine hP m (by omega) F2 (g + 1) hR hg ho hu (fun g' x' hg' hx' => ?_)
        by_cases e : g' = g
        · subst e; exact hB x' hx'
        · exact hA g' x' (by omega) hx'
  have lP : ∀ n, Pl n := by
    intro n
    induction n using Nat.strongRecOn with
    | ind n ih =>
      intro F2 g h hg ho hu hA
      obtain ⟨kc, ko, kr⟩ := kp F2 ho
      have q := q_Ro_fillTable_28 h
      rw [kc.1] at q
      rcases Nat.lt_or_ge g nn with hlt | hge
      · obtain ⟨m, hm, hR⟩ := q.2 (by rw [b_lt (by clear q; omega) (by clear q; omega)]; exact hlt)
        exact l41 n m ih hm F2 g 0 hR hlt (Nat.zero_le _) ho hu hA (fun x' hx' => absurd hx' (Nat.not_lt_zero _))
      · obtain ⟨x1, x2⟩ := q.1 (by rw [b_le (by clear q; omega) (by clear q; omega)]; exact hge)
        clear q
        subst x2
        exact ⟨x1, ho, fun g x hg hx => hA g x (by omega) hx⟩
  have l2 : ∀ (n : Nat) (F2 : fx_F) (c : Nat), Rn n k_Ro_fillTable 2 [(2, p), (0, c), (3, 0), (3, 0)] [] F2 v F' → c ≤ 2 * L → fxo [p + 2, p + 3] F F2 → (∀ c', c' < c → F2 (p + 3) c' = 0) → v = (2, 0) ∧ fxo [p + 2, p + 3] F F' ∧ ctb F' nn L E p up s := by
    intro n
    induction n using Nat.strongRecOn with
    | ind n ih =>
      intro F2 c h hc ho hz
      obtain ⟨kc, ko, kr⟩ := kp F2 ho
      have q := q_Ro_fillTable_2 h
      rw [kc.2.1, b_mul (show 2 * L < 4294967296 by clear q; omega)] at q
      rcases Nat.lt_or_ge c (2 * L) with hlt | hge
      · obtain ⟨m, hm, hR⟩ := q.2 (by rw [b_lt (by clear q; omega) (by clear q; omega)]; exact hlt)
        clear q
        rw [b_add (show c + 1 < 4294967296 by omega)] at hR
        refine ih m hm _ (c + 1) hR hlt (ho.wr (by simp)) (fun c' hc' => ?_)
        by_cases e : c' = c
        · subst e; rw [fu_same]
        · rw [fu_i e]; exact hz c' (by omega)
      · obtain ⟨m, hm, hR⟩ := q.1 (by rw [b_le (by clear q; omega) (by clear q; omega)]; exact hge)
        clear q
        exact lP m F2 0 hR (Nat.zero_le _) ho (fun c' hc' => hz c' (by omega)) (fun g' x hg' => absurd hg' (Nat.not_lt_zero _))
  exact l2 m F 0 hR (Nat.zero_le _) fxo.rf (fun c' hc' => absurd hc' (Nat.not_lt_zero _))
/-- the reference's table is right -/
def mtb (F : fx_F) (nn L : Nat) (E : Nat → Nat) (st u : Nat → Bool) : Prop := ∀ g x, g < nn → x < 2 * nn → F 196 (20 * g + x) = ent nn L E st u g x
theorem s_mlayTable (hN : nt_ok nn L E) {F : fx_F} (hI : mgi F nn L E st u) (h : Cl k_M_layTable [(2, 175)] F v F') : v = (2, 0) ∧ fxo [193, 196, 197] F F' ∧ mtb F' nn L E st u ∧ ∀ g, g < nn → mrow nn L E st u g (fun x => F' 193 (20 * g + x)) := by
  obtain ⟨n, h⟩ := c_M_layTable h
  obtain ⟨F0, c0, m, hm2, hR⟩ := q_M_layTable_0 h
  have hL := hN.2.1
  have hn := hN.1
  obtain ⟨-, ho0, hrow⟩ := s_layGoals hN hI c0
  have kp : ∀ F2 : fx_F, fxo [196, 197] F0 F2 → mgi F2 nn L E st u ∧ ∀ g, g < nn → mrow nn L E st u g (fun x => F2 193 (20 * g + x)) := fun F2 ho => ⟨(hI.keep ho0 (by decide) (by decide) (by decide) (by decide) (by decide)).keep ho (by decide) (by decide) (by decide) (by decide) (by decide), fun g hg x hx => by
    have := hrow g hg x hx
    show F2 193 (20 * g + x) ≤ 100000 ∧ (F2 193 (20 * g + x) < 100000 → gd L E st u g (F2 193 (20 * g + x)) x) ∧ ∀ d, gd L E st u g d x → F2 193 (20 * g + x) = d
    rw [ho 193 _ (by decide)]
    exact this⟩
  let Pl : Nat → Prop := fun n => ∀ (F2 : fx_F) (g : Nat), Rn n k_M_layTable 27 [(2, 175), (0, g), (3, 0), (3, 0), (3, 0)] [] F2 v F' → g ≤ nn → fxo [196, 197] F0 F2 → (∀ c, c < 2 * L → F2 197 c = tgo nn L E st u g c) → (∀ g' x, g' < g → x < 2 * nn → F2 196 (20 * g' + x) = ent nn L E st u g' x) → v = (2, 0) ∧ fxo [196, 197] F0 F' ∧ mtb F' nn L E st u
  have l47 : ∀ (N n : Nat), (∀ m, m < N → Pl m) → n < N → ∀ (F2 : fx_F) (g w t : Nat), (Rn n k_M_layTable 47 [(2, 175), (0, g), (0, w), (0, t), (3, 0)] [] F2 v F' ∧ w < nn ∨ Rn n k_M_layTable 37 [(2, 175), (0, g), (0, w), (3, 0), (3, 0)] [] F2 v F' ∧ t = 0 ∧ w ≤ nn) → g < nn → t ≤ 2 → fxo [196, 197] F0 F2 → (∀ c, c < 2 * L → F2 197 c = tpl L E st u (tgo nn L E st u g) g (2 * w + t) c) → (∀ g' x, g' < g → x < 2 * nn → F2 196 (20 * g' + x) = ent nn L E st u g' x) → (∀ x', x' < 2 * w + t → F2 196 (20 * g + x') = ent nn L E st u g x') → v = (2, 0) ∧ fxo [196, 197] F0 F' ∧ mtb F' nn L E st u := by
    intro N n hP
    induction n using Nat.strongRecOn with
    | ind n ih =>
      intro hnN F2 g w t h hg ht ho hu hA hB
      obtain ⟨ki, kr⟩ := kp F2 ho
      rcases h with ⟨h, hw⟩ | ⟨h, ht0, hw⟩
      · have q := q_M_layTable_47 h
        by_cases ht2 : t = 2
        · obtain ⟨m, hm, hR⟩ := q.1 (by rw [b_le (by decide) (by clear q; omega)]; clear q; omega)
          clear q
          rw [b_add (show w + 1 < 4294967296 by omega)] at hR
          have e : 2 * w + t = 2 * (w + 1) + 0 := by omega
          rw [e] at hu hB
          exact ih m hm (by omega) F2 g (w + 1) 0 (Or.inr ⟨hR, rfl, hw⟩) hg (by omega) ho hu hA hB
        · replace q := q.2 (by rw [b_lt (by clear q; omega) (by decide)]; clear q; omega)
          have ei : i_add (i_add (i_mul 20 g) (i_mul 2 w)) t = 20 * g + (2 * w + t) := by
            rw [b_mul (show 20 * g < 4294967296 by clear q; omega), b_mul (show 2 * w < 4294967296 by clear q; omega), b_add (show 20 * g + 2 * w < 4294967296 by clear q; omega), b_add (show 20 * g + 2 * w + t < 4294967296 by clear q; omega), Nat.add_assoc]
          rw [ei, b_add (show t + 1 < 4294967296 by clear q; omega)] at q
          have ht1 : t + 1 ≤ 2 := by clear q; omega
          have hx : 2 * w + t < 2 * nn := by clear q; omega
          have ex2 : (2 * w + t) / 2 = w := by clear q; omega
          have em2 : (2 * w + t) % 2 = t := by clear q; omega
          have hq := tst_q (L := L) (E := E) (st := st) (u := u) (g := g) (us := tpl L E st u (tgo nn L E st u g) g (2 * w + t)) (x := 2 * w + t)
          have fin : ∀ (F3 : fx_F) (m : Nat), m < n → Rn m k_M_layTable 47 [(2, 175), (0, g), (0, w), (0, t + 1), (3, 0)] [] F3 v F' → fxo [196, 197] F0 F3 → (∀ x', F3 196 x' = if x' = 20 * g + (2 * w + t) then ent nn L E st u g (2 * w + t) else F2 196 x') → (∀ c, c < 2 * L → F3 197 c = if c = ent nn L E st u g (2 * w + t) then F2 197 c + 1 else F2 197 c) → v = (2, 0) ∧ fxo [196, 197] F0 F' ∧ mtb F' nn L E st u := by
            clear q
            intro F3 m hm hR ho3 h196 h197
            refine ih m hm (by omega) F3 g w (t + 1) (Or.inl ⟨hR, hw⟩) hg ht1 ho3 (fun c hc => ?_) (fun g' x' hg' hx' => ?_) (fun x' hx' => ?_)
            · rw [h197 c hc, hu c hc]
              rfl
            · rw [h196, if_neg (by omega)]; exact hA g' x' hg' hx'
            · rw [h196]
              by_cases e : x' = 2 * w + t
              · rw [if_pos (by omega), e]
              · rw [if_neg (by omega)]; exact hB x' (by omega)
          by_cases hwg : w = g
          · have he : ent nn L E st u g (2 * w + t) = 4294967295 := tst_goal (by clear q; omega)
            obtain ⟨m, hm, hR⟩ := (q.2 hwg).1 (by rw [b_neg (by decide)]; decide)
            clear q
            refine fin _ m hm hR (ho.wr (by decide)) (fun x' => ?_) (fun c hc => ?_)
            · rw [he, fu_if]
              by_cases e : x' = 20 * g + (2 * w + t)
              · rw [if_pos ⟨rfl, e⟩, if_pos e]
              · rw [if_neg (fun z => e z.2), if_neg e]
            · rw [he, fu_p (by decide), if_neg (by omega)]
          · obtain ⟨n1, F1, c1, q1, q2⟩ := q.1 hwg
            clear q
            obtain ⟨a1, a2⟩ := s_mleast hN hg hw (show t < 2 by clear q1 q2; omega) ki (kr g hg) (fun c hc => by
              have := tpl_200 (L := L) (E := E) (st := st) (u := u) hn hg (x := 2 * w + t) (c := c) (Nat.le_of_lt hx)
              rw [hu c hc]; clear q1 q2; omega) c1
            subst a1
            cases a2
            have e : lus (lq L E st u g w t) (F1 197) (2 * L) = ent nn L E st u g (2 * w + t) := by
              have := tst_congr (E := E) (st := st) (u := u) (g := g) (x := 2 * w + t) hL hu
              unfold tst at this
              rw [ex2, em2] at this
              unfold ent tst
              rw [ex2, em2]
              exact this
            rw [e] at q1 q2
            by_cases z : ent nn L E st u g (2 * w + t) = 4294967295
            · obtain ⟨m, hm, hR⟩ := q1 (by rw [z, b_neg (by decide)]; decide)
              clear q1 q2
              refine fin _ m hm hR (ho.wr (by decide)) (fun x' => ?_) (fun c hc => ?_)
              · rw [fu_if]
                by_cases e : x' = 20 * g + (2 * w + t)
                · rw [if_pos ⟨rfl, e⟩, if_pos e]
                · rw [if_neg (fun z => e z.2), if_neg e]
              · rw [z, fu_p (by decide), if_neg (by omega)]
            · have hel : ent nn L E st u g (2 * w + t) < 2 * L := (hq.resolve_left z).1
              obtain ⟨m, hm, hR⟩ := q2 (by rw [b_pos (by clear q1 q2; omega)]; clear q1 q2; omega)
              clear q1 q2
              have h2 := tpl_200 (L := L) (E := E) (st := st) (u := u) hn hg (x := 2 * w + t) (c := ent nn L E st u g (2 * w + t)) (Nat.le_of_lt hx)
              have h3 := hu _ hel
              rw [b_add (show F1 197 _ + 1 < 4294967296 by omega)] at hR
              refine fin _ m hm hR ((ho.wr (by decide)).wr (by decide)) (fun x' => ?_) (fun c hc => ?_)
              · rw [fu_p (by decide), fu_if]
                by_cases e : x' = 20 * g + (2 * w + t)
                · rw [if_pos ⟨rfl, e⟩, if_pos e]
                · rw [if_neg (fun z => e z.2), if_neg e]
              · by_cases ec : c = ent nn L E st u g (2 * w + t)
                · rw [if_pos ec, ec, fu_same]
                · rw [if_neg ec, fu_i ec, fu_p (by decide)]
      · subst ht0
        have q := q_M_layTable_37 h
        rw [ki.1.2.1] at q
        rcases Nat.lt_or_ge w nn with hlt | hge
        · obtain ⟨m, hm, hR⟩ := q.2 (by rw [b_lt (by clear q; omega) (by clear q; omega)]; exact hlt)
          clear q
          exact ih m hm (by omega) F2 g w 0 (Or.inl ⟨hR, hlt⟩) hg (by omega) ho hu hA hB
        · obtain ⟨m, hm, hR⟩ := q.1 (by rw [b_le (by clear q; omega) (by clear q; omega)]; exact hge)
          clear q
          rw [b_add (show g + 1 < 4294967296 by omega)] at hR
          have : 2 * w + 0 = 2 * nn := by omega
          rw [this] at hu hB
          refine hP m (by omega) F2 (g + 1) hR hg ho hu (fun g' x' hg' hx' => ?_)
          by_cases e : g' = g
          · subst e; exact hB x' hx'
          · exact hA g' x' (by omega) hx'
  have lP : ∀ n, Pl n := by
    intro n
    induction n using Nat.strongRecOn with
    | ind n ih =>
      intro F2 g h hg ho hu hA
      obtain ⟨ki, kr⟩ := kp F2 ho
      have q := q_M_layTable_27 h
      rw [ki.1.2.1] at q
      rcases Nat.lt_or_ge g nn with hlt | hge
      · obtain ⟨m, hm, hR⟩ := q.2 (by rw [b_lt (by clear q; omega) (by clear q; omega)]; exact hlt)
        exact l47 n m ih hm F2 g 0 0 (Or.inr ⟨hR, rfl, Nat.zero_le _⟩) hlt (by decide) ho hu hA (fun x' hx' => absurd hx' (Nat.not_lt_zero _))
      · obtain ⟨x1, x2⟩ := q.1 (by rw [b_le (by clear q; omega) (by clear q; omega)]; exact hge)
        clear q
        subst x2
        exact ⟨x1, ho, fun g x hg hx => hA g x (by omega) hx⟩
  have l6 : ∀ (n : Nat) (F2 : fx_F) (c : Nat), Rn n k_M_layTable 6 [(2, 175), (0, c), (3, 0), (3, 0), (3, 0)] [] F2 v F' → c ≤ 40 → fxo [196, 197] F0 F2 → (∀ c', c' < c → F2 197 c' = 0) → v = (2, 0) ∧ fxo [196, 197] F0 F' ∧ mtb F' nn L E st u := by
    intro n
    induction n using Nat.strongRecOn with
    | ind n ih =>
      intro F2 c h hc ho hz
      have q := q_M_layTable_6 h
      rcases Nat.lt_or_ge c 40 with hlt | hge
      · obtain ⟨m, hm, hR⟩ := q.2 (by rw [b_lt (by clear q; omega) (by decide)]; exact hlt)
        clear q
        rw [b_add (show c + 1 < 4294967296 by omega)] at hR
        refine ih m hm _ (c + 1) hR hlt (ho.wr (by decide)) (fun c' hc' => ?_)
        by_cases e : c' = c
        · subst e; rw [fu_same]
        · rw [fu_i e]; exact hz c' (by omega)
      · obtain ⟨m, hm, hR⟩ := q.1 (by rw [b_le (by decide) (by clear q; omega)]; exact hge)
        clear q
        exact lP m F2 0 hR (Nat.zero_le _) ho (fun c' hc' => hz c' (by omega)) (fun g' x hg' => absurd hg' (Nat.not_lt_zero _))
  obtain ⟨z1, z2, z3⟩ := l6 m F0 0 hR (Nat.zero_le _) fxo.rf (fun c' hc' => absurd hc' (Nat.not_lt_zero _))
  exact ⟨z1, (ho0.mono (by decide)).tr (z2.mono (by decide)), z3, (kp F' z2).2⟩
end TABLE
