/-- the reference's net -/
def mn (F : fx_F) (n L : Nat) (E : Nat → Nat) : Prop := F 175 9 ≤ 1 ∧ F 177 (F 175 9) = n ∧ F 178 (F 175 9) = L ∧ ∀ j, j < 2 * L → F 183 (40 * F 175 9 + j) = E j
theorem mn.keep {F F' : fx_F} {n L : Nat} {E : Nat → Nat} (h : mn F n L E) {S : List Nat} (ho : fxo S F F') (h1 : 175 ∉ S) (h2 : 177 ∉ S) (h3 : 178 ∉ S) (h4 : 183 ∉ S) : mn F' n L E := by
  obtain ⟨a, b, c, d⟩ := h
  have e := ho 175 9 h1
  refine ⟨by rw [e]; exact a, by rw [e, ho 177 _ h2]; exact b, by rw [e, ho 178 _ h3]; exact c, fun j hj => by rw [e, ho 183 _ h4]; exact d j hj⟩
section MN
variable {F : fx_F} {n L : Nat} {E : Nat → Nat}
theorem mE {l w : Nat} (h : mn F n L E) (hL : L ≤ 20) (hl : l < L) (hw : w ≤ 1) : F 183 (i_add (i_add (i_mul 40 (F 175 9)) (i_mul 2 l)) w) = E (2 * l + w) := by
  obtain ⟨a, b, c, d⟩ := h
  rw [b_mul (by omega), b_mul (by omega), b_add (show 40 * F 175 9 + 2 * l < 4294967296 by omega), b_add (by omega), ← d (2 * l + w) (by omega)]
  rw [Nat.add_assoc]
theorem mE0 {l : Nat} (h : mn F n L E) (hL : L ≤ 20) (hl : l < L) : F 183 (i_add (i_add (i_mul 40 (F 175 9)) (i_mul 2 l)) 0) = E (2 * l) := mE h hL hl (Nat.zero_le 1)
theorem mTo {c : Nat} (h : mn F n L E) (hL : L ≤ 20) (hc : c < 2 * L) : F 183 (i_add (i_add (i_mul 40 (F 175 9)) (i_mul 2 (i_div c 2))) (i_sub 1 (i_rem c 2))) = E (nf c) := by
  rw [b_div (by omega) (by decide) (by decide), b_rem (by omega) (by decide) (by decide), b_sub (by omega) (by decide), mE h hL (by omega) (by omega)]
  congr 1
  unfold nf
  split <;> omega
theorem mFr {c : Nat} (h : mn F n L E) (hL : L ≤ 20) (hc : c < 2 * L) : F 183 (i_add (i_add (i_mul 40 (F 175 9)) (i_mul 2 (i_div c 2))) (i_rem c 2)) = E c := by
  rw [b_div (by omega) (by decide) (by decide), b_rem (by omega) (by decide) (by decide), mE h hL (by omega) (by omega)]
  congr 1
  omega
theorem b_add0 {l : Nat} (h : l < 4294967296) : i_add 0 l = l := by rw [b_add (by omega)]; omega
end MN
/-- links that stand, as the reference tells it; those of a switch left out -/
def mst (F : fx_F) (l : Nat) : Bool := Nat.beq (F 176 l) 1
def msw (F : fx_F) (E : Nat → Nat) (w l : Nat) : Bool := mst F l && (!(Nat.beq (E (2 * l)) w) && !(Nat.beq (E (2 * l + 1)) w))
theorem msw_on {F : fx_F} {E : Nat → Nat} {w l : Nat} : msw F E w l = true ↔ F 176 l = 1 ∧ E (2 * l) ≠ w ∧ E (2 * l + 1) ≠ w := by
  unfold msw mst
  rw [Bool.and_eq_true, Bool.and_eq_true]
  have nb : ∀ a b : Nat, (!(Nat.beq a b)) = true ↔ a ≠ b := fun a b => by
    cases h : Nat.beq a b with
    | true => exact ⟨fun z => (by cases z), fun z => absurd (rx_beq.mp h) z⟩
    | false => exact ⟨fun _ z => (by rw [z, Nat.beq_refl] at h; cases h), fun _ => rfl⟩
  rw [nb, nb]
  exact ⟨fun ⟨a, b⟩ => ⟨rx_beq.mp a, b⟩, fun ⟨a, b⟩ => ⟨rx_beq.mpr a, b⟩⟩
section MFAR
variable {nn L r w : Nat} {E : Nat → Nat} {st : Nat → Bool} {v : fx_V} {F' : fx_F}
noncomputable def mfI (nn L r : Nat) (E : Nat → Nat) (st : Nat → Bool) (k : Nat) (f : Nat → Nat) : Prop := (∀ u, u < nn → f u ≤ 10 ∧ (f u < 10 → wk L E st r (f u) u)) ∧ ∀ u d, u < nn → d ≤ k → wk L E st r d u → f u ≤ d
noncomputable def mfJ (L r : Nat) (E : Nat → Nat) (st : Nat → Bool) (k l : Nat) (f : Nat → Nat) : Prop := ∀ c d, c < 2 * l → c < 2 * L → st (c / 2) = true → d ≤ k → wk L E st r d (E c) → f (E (nf c)) ≤ d + 1
/-- a link is gone through both ways -/
def mrl (f : Nat → Nat) (x y u : Nat) : Nat := if u = y then (if f x + 1 < f y then f x + 1 else f y) else if u = x then (if (if f x + 1 < f y then f x + 1 else f y) + 1 < f x then (if f x + 1 < f y then f x + 1 else f y) + 1 else f x) else f u
theorem mrl_le {f : Nat → Nat} {x y u : Nat} : mrl f x y u ≤ f u := by
  unfold mrl
  by_cases h1 : u = y
  · rw [if_pos h1, h1]; split <;> omega
  · rw [if_neg h1]
    by_cases h2 : u = x
    · rw [if_pos h2, h2]; split <;> split <;> omega
    · rw [if_neg h2]; exact Nat.le_refl _
theorem mf_step (hN : nt_ok nn L E) {k l : Nat} {f : Nat → Nat} (hl : l < L) (hst : st l = true) (hI : mfI nn L r E st k f) (hJ : mfJ L r E st k l f) : mfI nn L r E st k (mrl f (E (2 * l)) (E (2 * l + 1))) ∧ mfJ L r E st k (l + 1) (mrl f (E (2 * l)) (E (2 * l + 1))) := by
  have n0 : nf (2 * l) = 2 * l + 1 := by unfold nf; rw [if_pos (by omega)]
  have n1 : nf (2 * l + 1) = 2 * l := by unfold nf; rw [if_neg (by omega)]; omega
  have hx := (hN.2.2 (2 * l) (by omega)).1
  have hne := (hN.2.2 (2 * l) (by omega)).2
  have hy := (hN.2.2 (2 * l + 1) (by omega)).1
  rw [n0] at hne
  obtain ⟨i1, i2⟩ := hI
  have wxy : ∀ d, wk L E st r d (E (2 * l)) → wk L E st r (d + 1) (E (2 * l + 1)) := fun d hw => ⟨2 * l, by omega, by rw [show 2 * l / 2 = l by omega]; exact hst, by rw [n0], hw⟩
  have wyx : ∀ d, wk L E st r d (E (2 * l + 1)) → wk L E st r (d + 1) (E (2 * l)) := fun d hw => ⟨2 * l + 1, by omega, by rw [show (2 * l + 1) / 2 = l by omega]; exact hst, by rw [n1], hw⟩
  generalize hX : E (2 * l) = x at *
  generalize hY : E (2 * l + 1) = y at *
  have ax := i1 x hx
  have ay := i1 y hy
  have ey : mrl f x y y = if f x + 1 < f y then f x + 1 else f y := by unfold mrl; rw [if_pos rfl]
  have ex : mrl f x y x = if (if f x + 1 < f y then f x + 1 else f y) + 1 < f x then (if f x + 1 < f y then f x + 1 else f y) + 1 else f x := by unfold mrl; rw [if_neg hne, if_pos rfl]
  refine ⟨⟨fun u hu => ?_, fun u d hu hd hw => Nat.le_trans mrl_le (i2 u d hu hd hw)⟩, fun c d hc hcL hs hd hw => ?_⟩
  · by_cases h1 : u = y
    · subst h1
      rw [ey]
      split
      · exact ⟨by omega, fun _ => wxy _ (ax.2 (by omega))⟩
      · exact ay
    · by_cases h2 : u = x
      · subst h2
        rw [ex]
        by_cases h3 : f u + 1 < f y
        · rw [if_pos h3, if_neg (by omega)]
          exact ax
        · rw [if_neg h3]
          by_cases h4 : f y + 1 < f u
          · rw [if_pos h4]
            exact ⟨by omega, fun _ => wyx _ (ay.2 (by omega))⟩
          · rw [if_neg h4]
            exact ax
      · have : mrl f x y u = f u := by unfold mrl; rw [if_neg h1, if_neg h2]
        rw [this]
        exact i1 u hu
  · rcases Nat.lt_or_ge c (2 * l) with z | z
    · exact Nat.le_trans mrl_le (hJ c d z hcL hs hd hw)
    · have : c = 2 * l ∨ c = 2 * l + 1 := by omega
      rcases this with e | e
      · subst e
        rw [hX] at hw
        rw [n0, hY, ey]
        have := i2 x d hx hd hw
        split <;> omega
      · subst e
        rw [hY] at hw
        rw [n1, hX, ex]
        have := i2 y d hy hd hw
        split <;> split <;> omega
theorem mf51 (hN : nt_ok nn L E) {k : Nat} (hk : k < nn) : ∀ (n : Nat) (F : fx_F) (l : Nat), Rn n k_M_layFar 51 [(2, 175), (3, 0), (0, w), (0, k), (0, l), (3, 0), (3, 0)] [] F v F' → mn F nn L E → (∀ l, l < L → st l = msw F E w l) → l ≤ L → mfI nn L r E st k (F 188) → mfJ L r E st k l (F 188) → ∃ m F1, m < n ∧ Rn m k_M_layFar 40 [(2, 175), (3, 0), (0, w), (0, k + 1), (3, 0), (3, 0), (3, 0)] [] F1 v F' ∧ fxo [188] F F1 ∧ mfI nn L r E st k (F1 188) ∧ mfJ L r E st k L (F1 188) := by
  intro n
  induction n using Nat.strongRecOn with
  | ind n ih =>
    intro F l h hm hst hl hI hJ
    have q := q_M_layFar_51 h
    have hL := hN.2.1
    have hn := hN.1
    rw [hm.2.2.1] at q
    rcases Nat.lt_or_ge l L with hlt | hlt
    · replace q := q.2 (by rw [b_lt (by omega) (by omega)]; exact hlt)
      have n0 : nf (2 * l) = 2 * l + 1 := by unfold nf; rw [if_pos (by omega)]
      have hx := (hN.2.2 (2 * l) (by omega)).1
      have hne := (hN.2.2 (2 * l) (by omega)).2
      have hy := (hN.2.2 (2 * l + 1) (by omega)).1
      rw [n0] at hne
      have fx := (hI.1 _ hx).1
      have fy := (hI.1 _ hy).1
      rw [mE0 hm hL hlt, mE hm hL hlt (Nat.le_refl 1), b_add0 (show l < 4294967296 by omega), b_add (show l + 1 < 4294967296 by omega)] at q
      have go : ∀ (F2 : fx_F), (∃ m, m < n ∧ Rn m k_M_layFar 51 [(2, 175), (3, 0), (0, w), (0, k), (0, l + 1), (3, 0), (3, 0)] [] F2 v F') → fxo [188] F F2 → mfI nn L r E st k (F2 188) → mfJ L r E st k (l + 1) (F2 188) → ∃ m F1, m < n ∧ Rn m k_M_layFar 40 [(2, 175), (3, 0), (0, w), (0, k + 1), (3, 0), (3, 0), (3, 0)] [] F1 v F' ∧ fxo [188] F F1 ∧ mfI nn L r E st k (F1 188) ∧ mfJ L r E st k L (F1 188) := by
        intro F2 ⟨m, hm2, hR⟩ ho h1 h2
        have e : ∀ j, F2 176 j = F 176 j := fun j => ho 176 j (by decide)
        obtain ⟨m', F1, r1, r2, r3, r4, r5⟩ := ih m hm2 F2 (l + 1) hR (hm.keep ho (by decide) (by decide) (by decide) (by decide)) (fun l hl => by rw [hst l hl]; unfold msw mst; rw [e]) (by omega) h1 h2
        exact ⟨m', F1, by omega, r2, ho.tr r3, r4, r5⟩
      have off : st l = false → mfJ L r E st k (l + 1) (F 188) := by
        intro hs c d hc hcL hs2 hd hw
        rcases Nat.lt_or_ge c (2 * l) with z | z
        · exact hJ c d z hcL hs2 hd hw
        · have : c / 2 = l := by omega
          rw [this, hs] at hs2
          cases hs2
      have hs0 := hst l hlt
      by_cases g0 : F 176 l = 1
      · replace q := q.2 g0
        by_cases g1 : E (2 * l) = w
        · refine go F (q.1 g1) fxo.rf hI (off ?_)
          rw [hs0]
          exact Bool.eq_false_iff.mpr (fun z => (msw_on.mp z).2.1 g1)
        · replace q := q.2 g1
          by_cases g2 : E (2 * l + 1) = w
          · refine go F (q.2 g2) fxo.rf hI (off ?_)
            rw [hs0]
            exact Bool.eq_false_iff.mpr (fun z => (msw_on.mp z).2.2 g2)
          · replace q := q.1 g2
            have hsl : st l = true := by rw [hs0]; exact msw_on.mpr ⟨g0, g1, g2⟩
            obtain ⟨s1, s2⟩ := mf_step hN hlt hsl hI hJ
            have fin : ∀ (F2 : fx_F), (∃ m, m < n ∧ Rn m k_M_layFar 51 [(2, 175), (3, 0), (0, w), (0, k), (0, l + 1), (3, 0), (3, 0)] [] F2 v F') → fxo [188] F F2 → (∀ u, F2 188 u = mrl (F 188) (E (2 * l)) (E (2 * l + 1)) u) → ∃ m F1, m < n ∧ Rn m k_M_layFar 40 [(2, 175), (3, 0), (0, w), (0, k + 1), (3, 0), (3, 0), (3, 0)] [] F1 v F' ∧ fxo [188] F F1 ∧ mfI nn L r E st k (F1 188) ∧ mfJ L r E st k L (F1 188) := by
              intro F2 hR ho he
              have : F2 188 = mrl (F 188) (E (2 * l)) (E (2 * l + 1)) := funext he
              exact go F2 hR ho (by rw [this]; exact s1) (by rw [this]; exact s2)
            rw [b_add (show F 188 (E (2 * l)) + 1 < 4294967296 by omega), b_add (show F 188 (E (2 * l + 1)) + 1 < 4294967296 by omega), fu_i hne, fu_same] at q
            by_cases g3 : F 188 (E (2 * l)) + 1 < F 188 (E (2 * l + 1))
            · replace q := q.2 (by rw [b_lt (by omega) (by omega)]; exact g3)
              rw [b_add (show F 188 (E (2 * l)) + 1 + 1 < 4294967296 by omega)] at q
              replace q := q.1 (by rw [b_le (by omega) (by omega)]; omega)
              refine fin _ q (fxo.rf.wr List.mem_cons_self) (fun u => ?_)
              unfold mrl
              by_cases hu : u = E (2 * l + 1)
              · rw [hu, fu_same, if_pos rfl, if_pos g3]
              · rw [fu_i hu, if_neg hu]
                by_cases hu2 : u = E (2 * l)
                · rw [if_pos hu2, if_pos g3, if_neg (by omega), hu2]
                · rw [if_neg hu2]
            · replace q := q.1 (by rw [b_le (by omega) (by omega)]; omega)
              by_cases g4 : F 188 (E (2 * l + 1)) + 1 < F 188 (E (2 * l))
              · replace q := q.2 (by rw [b_lt (by omega) (by omega)]; exact g4)
                refine fin _ q (fxo.rf.wr List.mem_cons_self) (fun u => ?_)
                unfold mrl
                by_cases hu : u = E (2 * l + 1)
                · rw [hu, fu_i (fun z => hne z.symm), if_pos rfl, if_neg g3]
                · rw [if_neg hu]
                  by_cases hu2 : u = E (2 * l)
                  · rw [if_pos hu2, if_neg g3, if_pos g4, hu2, fu_same]
                  · rw [if_neg hu2, fu_i hu2]
              · replace q := q.1 (by rw [b_le (by omega) (by omega)]; omega)
                refine fin _ q fxo.rf (fun u => ?_)
                unfold mrl
                by_cases hu : u = E (2 * l + 1)
                · rw [if_pos hu, if_neg g3, hu]
                · rw [if_neg hu]
                  by_cases hu2 : u = E (2 * l)
                  · rw [if_pos hu2, if_neg g3, if_neg g4, hu2]
                  · rw [if_neg hu2]
      · refine go F (q.1 g0) fxo.rf hI (off ?_)
        rw [hs0]
        exact Bool.eq_false_iff.mpr (fun z => g0 (msw_on.mp z).1)
    · obtain ⟨m, hm2, hR⟩ := q.1 (by rw [b_le (by omega) (by omega)]; exact hlt)
      rw [b_add (show k + 1 < 4294967296 by omega)] at hR
      have : l = L := by omega
      subst this
      exact ⟨m, F, hm2, hR, fxo.rf, hI, hJ⟩
theorem mf40 (hN : nt_ok nn L E) : ∀ (n : Nat) (F : fx_F) (k : Nat), Rn n k_M_layFar 40 [(2, 175), (3, 0), (0, w), (0, k), (3, 0), (3, 0), (3, 0)] [] F v F' → mn F nn L E → (∀ l, l < L → st l = msw F E w l) → k ≤ nn → mfI nn L r E st k (F 188) → fxo [188] F F' ∧ mfI nn L r E st nn (F' 188) := by
  intro n
  induction n using Nat.strongRecOn with
  | ind n ih =>
    intro F k h hm hst hk hI
    have q := q_M_layFar_40 h
    have hn := hN.1
    rw [hm.2.1] at q
    rcases Nat.lt_or_ge k nn with hlt | hlt
    · obtain ⟨m, hm2, hR⟩ := q.2 (by rw [b_lt (by omega) (by omega)]; exact hlt)
      obtain ⟨m', F1, r1, r2, r3, r4, r5⟩ := mf51 (r := r) (st := st) hN hlt m F 0 hR hm hst (Nat.zero_le _) hI (fun c d z => absurd z (by omega))
      have e : ∀ j, F1 176 j = F 176 j := fun j => r3 176 j (by decide)
      have hI2 : mfI nn L r E st (k + 1) (F1 188) := by
        refine ⟨r4.1, fun u d hu hd hw => ?_⟩
        rcases Nat.lt_or_ge k d with z | z
        · have : d = k + 1 := by omega
          subst this
          obtain ⟨c, c1, c2, c3, c4⟩ := hw
          have := r5 c k (by omega) c1 c2 (Nat.le_refl k) c4
          rw [c3] at this
          exact this
        · exact r4.2 u d hu z hw
      obtain ⟨s1, s2⟩ := ih m' (by omega) F1 (k + 1) r2 (hm.keep r3 (by decide) (by decide) (by decide) (by decide)) (fun l hl => by rw [hst l hl]; unfold msw mst; rw [e]) (by omega) hI2
      exact ⟨r3.tr s1, s2⟩
    · obtain ⟨-, e⟩ := q.1 (by rw [b_le (by omega) (by omega)]; exact hlt)
      subst e
      have : k = nn := by omega
      subst this
      exact ⟨fxo.rf, hI⟩
theorem mf2 (hN : nt_ok nn L E) (hr : r < nn ∨ nn = 0) (hr2 : r < 10) : ∀ (n : Nat) (F : fx_F) (i : Nat), Rn n k_M_layFar 2 [(2, 175), (0, r), (0, w), (0, i), (3, 0), (3, 0), (3, 0)] [] F v F' → mn F nn L E → (∀ l, l < L → st l = msw F E w l) → i ≤ 10 → (∀ u, u < i → F 188 u = 10) → fxo [188] F F' ∧ (r < nn → mfI nn L r E st nn (F' 188)) := by
  intro n
  induction n using Nat.strongRecOn with
  | ind n ih =>
    intro F i h hm hst hi hI
    have q := q_M_layFar_2 h
    have hn := hN.1
    rw [hm.2.1] at q
    rcases Nat.lt_or_ge i 10 with hlt | hlt
    · obtain ⟨m, hm2, hR⟩ := q.2 (by rw [b_lt (by omega) (by omega)]; exact hlt)
      rw [b_add (show i + 1 < 4294967296 by omega)] at hR
      have ho : fxo [188] F (fu F 188 i 10) := fxo.rf.wr List.mem_cons_self
      have e : ∀ j, fu F 188 i 10 176 j = F 176 j := fun j => ho 176 j (by decide)
      obtain ⟨r1, r2⟩ := ih m hm2 _ (i + 1) hR (hm.keep ho (by decide) (by decide) (by decide) (by decide)) (fun l hl => by rw [hst l hl]; unfold msw mst; rw [e]) (by omega) (fun u hu => by
        by_cases hz : u = i
        · rw [hz, fu_same]
        · rw [fu_i hz]; exact hI u (by omega))
      exact ⟨ho.tr r1, r2⟩
    · replace q := (q.1 (by rw [b_le (by omega) (by omega)]; exact hlt)).2 (by rw [b_le (by omega) (by omega)]; exact Nat.zero_le _)
      rcases hr with hr | hr
      · rw [b_sub (by omega) (by omega)] at q
        obtain ⟨m, hm2, hR⟩ := q.2 (by rw [b_le (by omega) (by omega)]; omega)
        have ho : fxo [188] F (fu F 188 r 0) := fxo.rf.wr List.mem_cons_self
        have e : ∀ j, fu F 188 r 0 176 j = F 176 j := fun j => ho 176 j (by decide)
        obtain ⟨r1, r2⟩ := mf40 (r := r) (st := st) hN m _ 0 hR (hm.keep ho (by decide) (by decide) (by decide) (by decide)) (fun l hl => by rw [hst l hl]; unfold msw mst; rw [e]) (Nat.zero_le _) (by
          have e1 : ∀ u, u < nn → fu F 188 r 0 188 u = if u = r then 0 else 10 := by
            intro u hu
            by_cases hz : u = r
            · rw [if_pos hz, hz, fu_same]
            · rw [if_neg hz, fu_i hz]; exact hI u (by omega)
          refine ⟨fun u hu => ?_, fun u d hu hd hw => ?_⟩
          · rw [e1 u hu]
            by_cases hz : u = r
            · rw [if_pos hz]; exact ⟨by omega, fun _ => hz⟩
            · rw [if_neg hz]; exact ⟨Nat.le_refl _, fun z => absurd z (by omega)⟩
          · have hd0 : d = 0 := by omega
            subst hd0
            rw [e1 u hu, if_pos (show u = r from hw)]
            exact Nat.le_refl 0)
        exact ⟨ho.tr r1, fun _ => r2⟩
      · rw [hr, b_sub01] at q
        obtain ⟨-, e⟩ := q.1 (by rw [b_lt_m (by omega)]; trivial)
        subst e
        exact ⟨fxo.rf, fun z => absurd z (by omega)⟩
/-- how far all are from one -/
theorem s_layFar (hN : nt_ok nn L E) (hr : r < nn ∨ nn = 0) (hr2 : r < 10) {F : fx_F} (hm : mn F nn L E) (hst : ∀ l, l < L → st l = msw F E w l) (h : Cl k_M_layFar [(2, 175), (0, r), (0, w)] F v F') : fxo [188] F F' ∧ ∀ u, u < nn → F' 188 u = fr L E st r u := by
  obtain ⟨n, h⟩ := c_M_layFar h
  obtain ⟨m, hm2, hR⟩ := q_M_layFar_0 h
  obtain ⟨r1, r2⟩ := mf2 hN hr hr2 m F 0 hR hm hst (Nat.zero_le _) (fun u hu => absurd hu (Nat.not_lt_zero _))
  refine ⟨r1, fun u hu => ?_⟩
  have hrn : r < nn := by rcases hr with z | z; exact z; omega
  obtain ⟨i1, i2⟩ := r2 hrn
  obtain ⟨a1, a2⟩ := i1 u hu
  have hn := hN.1
  by_cases hx : ∃ d, ds L E st r d u
  · obtain ⟨d, hd⟩ := hx
    rw [fr_ds hd]
    have l1 := ds_lt hrn (fun j hj => (hN.2.2 j hj).1) hd
    have l2 := i2 u d hu (by omega) hd.1
    rcases Nat.lt_or_ge (F' 188 u) d with z | z
    · exact absurd (a2 (by omega)) (hd.2 _ z)
    · omega
  · rw [fr_no (fun d hd => hx ⟨d, hd⟩)]
    rcases Nat.lt_or_ge (F' 188 u) 10 with z | z
    · exact absurd (a2 z) (wk_none (fun d hd => hx ⟨d, hd⟩) _)
    · omega
end MFAR
