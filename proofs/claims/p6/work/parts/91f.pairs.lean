/-! Sums over pairs; pairs keeps the relation and agrees (names of other parts: bnd01 msw_none) -/
def sm (w : Nat → Nat) : Nat → Nat
  | 0 => 0
  | k + 1 => sm w k + w k
def s2 (w : Nat → Nat → Nat) (m f : Nat) : Nat := sm (fun j => sm (w j) m) f
theorem sm_le {w : Nat → Nat} {B : Nat} : ∀ k, (∀ j, j < k → w j ≤ B) → sm w k ≤ k * B
  | 0, _ => Nat.zero_le _
  | k + 1, h => by
    have h1 := sm_le (w := w) (B := B) k (fun j hj => h j (by omega))
    have h2 := h k (by omega)
    show sm w k + w k ≤ (k + 1) * B
    rw [Nat.succ_mul]
    omega
theorem sm_congr {w w2 : Nat → Nat} : ∀ k, (∀ j, j < k → w j = w2 j) → sm w k = sm w2 k
  | 0, _ => rfl
  | k + 1, h => by
    show sm w k + w k = sm w2 k + w2 k
    rw [sm_congr k (fun j hj => h j (by omega)), h k (by omega)]
theorem sm_sub {a b d : Nat → Nat} : ∀ k, (∀ j, j < k → a j = b j + d j) → sm a k = sm b k + sm d k
  | 0, _ => rfl
  | k + 1, h => by
    have h1 := sm_sub k (fun j hj => h j (by omega))
    have h2 := h k (by omega)
    show sm a k + a k = sm b k + b k + (sm d k + d k)
    omega
theorem s2_le {w : Nat → Nat → Nat} {m f : Nat} (hm : m ≤ 10) (hf : f ≤ 10) (h : ∀ j t, j < f → t < m → w j t ≤ 20) : s2 w m f ≤ 2000 := by
  have h1 : ∀ j, j < f → (fun j => sm (w j) m) j ≤ 200 := fun j hj => by
    have := sm_le (w := w j) (B := 20) m (fun t ht => h j t hj ht)
    show sm (w j) m ≤ 200
    omega
  have h2 := sm_le f h1
  show sm (fun j => sm (w j) m) f ≤ 2000
  omega
theorem s2_congr {w w2 : Nat → Nat → Nat} {m f : Nat} (h : ∀ j t, j < f → t < m → w j t = w2 j t) : s2 w m f = s2 w2 m f := sm_congr f (fun j hj => sm_congr m (fun t ht => h j t hj ht))
theorem s2_sub {a b d : Nat → Nat → Nat} {m f : Nat} (h : ∀ j t, j < f → t < m → a j t = b j t + d j t) : s2 a m f = s2 b m f + s2 d m f := sm_sub f (fun j hj => sm_sub m (fun t ht => h j t hj ht))
theorem s2_run {k p nn : Nat} {v : fx_V} {F F' : fx_F} {w : Nat → Nat → Nat} (hn : nn ≤ 10) (h0 : F 3 0 = nn) (hw : ∀ f t, f < nn → t < nn → w f t ≤ 20) (hA : ∀ (n l1 l2 : Nat), Rn n k 4 [(2, p), (0, l1), (0, l2), (3, 0)] [] F v F' → (s_le (F 3 0) l2 → v = (0, l1) ∧ F' = F) ∧ (s_lt l2 (F 3 0) → ∃ m, m < n ∧ Rn m k 17 [(2, p), (0, l1), (0, l2), (0, 0)] [] F v F')) (hB : ∀ (n l1 f t : Nat), l1 < 100000 → f < nn → Rn n k 17 [(2, p), (0, l1), (0, f), (0, t)] [] F v F' → (s_le (F 3 0) t → ∃ m, m < n ∧ Rn m k 4 [(2, p), (0, l1), (0, i_add f 1), (3, 0)] [] F v F') ∧ (t < nn → ∃ m, m < n ∧ Rn m k 17 [(2, p), (0, i_add l1 (w f t)), (0, f), (0, i_add t 1)] [] F v F')) {n : Nat} (h : Rn n k 4 [(2, p), (0, 0), (0, 0), (3, 0)] [] F v F') : v = (0, s2 w nn nn) ∧ F' = F := by
  have b1 : ∀ f, f < nn → s2 w nn f ≤ 2000 := fun f hf => s2_le hn (by omega) (fun j t hj ht => hw j t (by omega) ht)
  have b2 : ∀ f t, f < nn → t ≤ nn → sm (w f) t ≤ 200 := fun f t hf ht => by
    have := sm_le (w := w f) (B := 20) t (fun j hj => hw f j hf (by omega))
    omega
  have h17 : ∀ (n f t : Nat), f < nn → t ≤ nn → Rn n k 17 [(2, p), (0, s2 w nn f + sm (w f) t), (0, f), (0, t)] [] F v F' → ∃ m, m < n ∧ Rn m k 4 [(2, p), (0, s2 w nn (f + 1)), (0, f + 1), (3, 0)] [] F v F' := by
    intro n
    induction n using Nat.strongRecOn with
    | ind n ih =>
      intro f t hf ht h
      have c1 := b1 f hf
      have c2 := b2 f t hf ht
      have q := hB n _ f t (by omega) hf h
      rw [h0] at q
      rcases Nat.lt_or_ge t nn with z | z
      · obtain ⟨m, hm, hR⟩ := q.2 z
        have c3 := hw f t hf z
        rw [b_add (show s2 w nn f + sm (w f) t + w f t < 4294967296 by omega), b_add (show t + 1 < 4294967296 by omega), Nat.add_assoc] at hR
        obtain ⟨m', hm', hR'⟩ := ih m hm f (t + 1) hf z hR
        exact ⟨m', by omega, hR'⟩
      · obtain ⟨m, hm, hR⟩ := q.1 (by rw [b_le (by omega) (by omega)]; exact z)
        rw [show t = nn by omega, b_add (show f + 1 < 4294967296 by omega)] at hR
        exact ⟨m, hm, hR⟩
  have h4 : ∀ (n f : Nat), f ≤ nn → Rn n k 4 [(2, p), (0, s2 w nn f), (0, f), (3, 0)] [] F v F' → v = (0, s2 w nn nn) ∧ F' = F := by
    intro n
    induction n using Nat.strongRecOn with
    | ind n ih =>
      intro f hf h
      have q := hA n _ f h
      rw [h0] at q
      rcases Nat.lt_or_ge f nn with z | z
      · obtain ⟨m, hm, hR⟩ := q.2 (by rw [b_lt (by omega) (by omega)]; exact z)
        obtain ⟨m', hm', hR'⟩ := h17 m f 0 z (Nat.zero_le _) hR
        exact ih m' (by omega) (f + 1) z hR'
      · have x := q.1 (by rw [b_le (by omega) (by omega)]; exact z)
        rw [show f = nn by omega] at x
        exact x
  exact h4 n 0 (Nat.zero_le _) h
theorem b_max0 {x : Nat} (hx : x < 2147483648) : i_max x 0 = x := by
  rw [i_max_eq]
  cases e : Nat.blt (rx_bi x) (rx_bi 0) with
  | false => rfl
  | true =>
    have e2 : rx_bi x < rx_bi 0 := by simpa [Nat.blt_eq] using e
    rw [ax_bi_def, ax_bi_def] at e2
    omega
theorem b_maxm : i_max 4294967295 0 = 0 := by
  rw [i_max_eq]
  cases e : Nat.blt (rx_bi 4294967295) (rx_bi 0) with
  | true => rfl
  | false =>
    have e2 : ¬ rx_bi 4294967295 < rx_bi 0 := fun z => by rw [Nat.blt_eq.mpr z] at e; cases e
    rw [ax_bi_def, ax_bi_def] at e2
    omega
/-- how far it is from a place to a goal; 100000: there is no way -/
noncomputable def gv (L : Nat) (E : Nat → Nat) (st u : Nat → Bool) (g x : Nat) : Nat := @dite Nat (∃ d, gd L E st u g d x) (Classical.propDecidable _) (fun h => h.choose) (fun _ => 100000)
noncomputable def wN (L : Nat) (E : Nat → Nat) (st u : Nat → Bool) (f t : Nat) : Nat := if gv L E st u t (2 * f) < 100000 then 0 else 1
noncomputable def wL (L : Nat) (E : Nat → Nat) (st u : Nat → Bool) (f t : Nat) : Nat := if gv L E st u t (2 * f) < 100000 then gv L E st u t (2 * f) else 0
noncomputable def wP (L : Nat) (E : Nat → Nat) (st u : Nat → Bool) (f t : Nat) : Nat := if gv L E st u t (2 * f) < 100000 then fr L E st f t else 0
noncomputable def wD (L : Nat) (E : Nat → Nat) (st u : Nat → Bool) (f t : Nat) : Nat := if gv L E st u t (2 * f) < 100000 then gv L E st u t (2 * f) - fr L E st f t else 0
noncomputable def wO (L : Nat) (E : Nat → Nat) (st : Nat → Bool) (f t : Nat) : Nat := if fr L E st f t < 10 then 0 else 1
section PAIRV
variable {nn L : Nat} {E : Nat → Nat} {st u : Nat → Bool} {g f t : Nat}
theorem gv_gd {d x : Nat} (h : gd L E st u g d x) : gv L E st u g x = d := by
  unfold gv
  rw [dif_pos ⟨d, h⟩]
  exact gd_fun (Exists.choose_spec (⟨d, h⟩ : ∃ d, gd L E st u g d x)) h
theorem gv_no {x : Nat} (h : ∀ d, ¬ gd L E st u g d x) : gv L E st u g x = 100000 := by
  unfold gv
  rw [dif_neg (fun ⟨d, hd⟩ => h d hd)]
theorem gv_or (hN : nt_ok nn L E) (hg : g < nn) (st u : Nat → Bool) (x : Nat) : (gv L E st u g x < 20 ∧ gd L E st u g (gv L E st u g x) x) ∨ (gv L E st u g x = 100000 ∧ ∀ d, ¬ gd L E st u g d x) := by
  by_cases h : ∃ d, gd L E st u g d x
  · obtain ⟨d, hd⟩ := h
    rw [gv_gd hd]
    have := gd_lt hN hg hd
    have := hN.1
    exact Or.inl ⟨by omega, hd⟩
  · exact Or.inr ⟨gv_no (fun d hd => h ⟨d, hd⟩), fun d hd => h ⟨d, hd⟩⟩
theorem gw_wk {r : Nat} : ∀ (d n x : Nat), gw L E st u g d x → wk L E st r n (x / 2) → wk L E st r (n + d) g := by
  intro d
  induction d with
  | zero =>
    intro n x h hw
    have e : x / 2 = g := h
    rw [e] at hw
    exact hw
  | succ d ih =>
    rintro n x ⟨c, y, ⟨h1, h2, h3, h4, h5⟩, hg⟩ hw
    have hb := bh_le u c
    have hy : y / 2 = E (nf c) := by omega
    rw [h3] at hw
    have k := ih (n + 1) y hg (by rw [hy]; exact ⟨c, h1, h2, rfl, hw⟩)
    rw [show n + (d + 1) = n + 1 + d by omega]
    exact k
theorem gd_fr (hN : nt_ok nn L E) {d : Nat} (hf : f < nn) (h : gd L E st u t d (2 * f)) : fr L E st f t ≤ d ∧ fr L E st f t < 10 := by
  have hw := gw_wk (r := f) d 0 (2 * f) h.1 (show 2 * f / 2 = f by omega)
  obtain ⟨e, he, hd⟩ := ds_ex hw
  have := ds_lt hf (fun j hj => (hN.2.2 j hj).1) hd
  have := hN.1
  rw [fr_ds hd]
  exact ⟨by omega, by omega⟩
theorem gv_self : gv L E st u f (2 * f) = 0 := gv_gd ⟨show 2 * f / 2 = f by omega, fun e he => absurd he (Nat.not_lt_zero _)⟩
theorem fr_self : fr L E st f f = 0 := fr_ds ⟨show f = f from rfl, fun e he => absurd he (Nat.not_lt_zero _)⟩
theorem hrow_v (hN : nt_ok nn L E) (hg : g < nn) {row : Nat → Nat} (h : hrow nn L E st u g row) {x : Nat} (hx : x < 2 * nn) : row x = if gv L E st u g x < 100000 then gv L E st u g x else 4294967295 := by
  rcases gv_or hN hg st u x with ⟨h1, h2⟩ | ⟨h1, h2⟩
  · rw [if_pos (by omega)]; exact (h x hx).2 _ h2
  · rw [if_neg (by omega)]
    by_cases e : row x = 4294967295
    · exact e
    · exact absurd ((h x hx).1 e) (h2 _)
theorem mrow_v (hN : nt_ok nn L E) (hg : g < nn) {row : Nat → Nat} (h : mrow nn L E st u g row) {x : Nat} (hx : x < 2 * nn) : row x = gv L E st u g x := by
  rcases gv_or hN hg st u x with ⟨h1, h2⟩ | ⟨h1, h2⟩
  · exact (h x hx).2.2 _ h2
  · rw [h1]
    rcases Nat.lt_or_ge (row x) 100000 with z | z
    · exact absurd ((h x hx).2.1 z) (h2 _)
    · have := (h x hx).1; omega
theorem hrow.eq {row row2 : Nat → Nat} (h : hrow nn L E st u g row) (he : ∀ x, row2 x = row x) : hrow nn L E st u g row2 := by
  rw [show row2 = row from funext he]; exact h
theorem wN_le : wN L E st u f t ≤ 20 := by unfold wN; split <;> omega
theorem wO_le : wO L E st f t ≤ 20 := by unfold wO; split <;> omega
theorem wL_le (hN : nt_ok nn L E) (ht : t < nn) : wL L E st u f t ≤ 20 := by
  unfold wL
  rcases gv_or hN ht st u (2 * f) with ⟨h1, -⟩ | ⟨h1, -⟩ <;> split <;> omega
theorem wLPD (hN : nt_ok nn L E) (hf : f < nn) (ht : t < nn) : wL L E st u f t = wP L E st u f t + wD L E st u f t := by
  unfold wL wP wD
  rcases gv_or hN ht st u (2 * f) with ⟨h1, h2⟩ | ⟨h1, -⟩
  · have := (gd_fr hN hf h2).1
    rw [if_pos (by omega), if_pos (by omega), if_pos (by omega)]
    omega
  · rw [if_neg (by omega), if_neg (by omega), if_neg (by omega)]
theorem wP_le (hN : nt_ok nn L E) (hf : f < nn) (ht : t < nn) : wP L E st u f t ≤ 20 := by
  have h1 := wLPD (st := st) (u := u) hN hf ht
  have h2 := wL_le (st := st) (u := u) (f := f) hN ht
  omega
theorem wD_le (hN : nt_ok nn L E) (hf : f < nn) (ht : t < nn) : wD L E st u f t ≤ 20 := by
  have h1 := wLPD (st := st) (u := u) hN hf ht
  have h2 := wL_le (st := st) (u := u) (f := f) hN ht
  omega
end PAIRV
section PAIRC
variable {nn L p : Nat} {E : Nat → Nat} {st u : Nat → Bool} {v : fx_V} {F F' : fx_F}
theorem ixr {f t : Nat} (hf : f < 10) (ht : t < 10) : i_add (i_mul t 20) (i_mul 2 f) = 20 * t + 2 * f := by
  rw [b_mul (show t * 20 < 4294967296 by omega), b_mul (show 2 * f < 4294967296 by omega), b_add (show t * 20 + 2 * f < 4294967296 by omega), Nat.mul_comm t 20]
theorem ixg {f t : Nat} (hf : f < 10) (ht : t < 10) : i_add (i_mul f 10) t = 10 * f + t := by
  rw [b_mul (show f * 10 < 4294967296 by omega), b_add (show f * 10 + t < 4294967296 by omega), Nat.mul_comm f 10]
theorem s_RoPW (hN : nt_ok nn L E) (h0 : F 3 0 = nn) (hr : ∀ g, g < nn → hrow nn L E st u g (fun x => F (p + 1) (20 * g + x))) (h : Cl k_Ro_pairsWithout [(2, p)] F v F') : v = (0, s2 (wN L E st u) nn nn) ∧ F' = F := by
  have hn := hN.1
  obtain ⟨n, h⟩ := c_Ro_pairsWithout h
  obtain ⟨m, -, h⟩ := q_Ro_pairsWithout_0 h
  refine s2_run hn h0 (fun f t _ _ => wN_le) (fun n l1 l2 h => q_Ro_pairsWithout_4 h) (fun n l1 f t hl hf h => ?_) h
  have q := q_Ro_pairsWithout_17 h
  refine ⟨q.1, fun ht => ?_⟩
  replace q := q.2 (by rw [h0, b_lt (by clear q; omega) (by clear q; omega)]; exact ht)
  rw [ixr (show f < 10 by clear q; omega) (show t < 10 by clear q; omega)] at q
  have e : F (p + 1) (20 * t + 2 * f) = if gv L E st u t (2 * f) < 100000 then gv L E st u t (2 * f) else 4294967295 := hrow_v hN ht (hr t ht) (by clear q; omega)
  unfold wN
  rcases gv_or hN ht st u (2 * f) with ⟨h1, -⟩ | ⟨h1, -⟩
  · rw [if_pos (by clear q; omega)] at e ⊢
    obtain ⟨m, hm, hR⟩ := q.1 (by rw [e]; clear q; omega)
    rw [b_add (show l1 + 0 < 4294967296 by clear q; omega)]
    exact ⟨m, hm, hR⟩
  · rw [if_neg (by clear q; omega)] at e ⊢
    exact q.2 e
theorem s_RoHT (hN : nt_ok nn L E) (h0 : F 3 0 = nn) (hr : ∀ g, g < nn → hrow nn L E st u g (fun x => F (p + 1) (20 * g + x))) (h : Cl k_Ro_hopsTogether [(2, p)] F v F') : v = (0, s2 (wL L E st u) nn nn) ∧ F' = F := by
  have hn := hN.1
  obtain ⟨n, h⟩ := c_Ro_hopsTogether h
  obtain ⟨m, -, h⟩ := q_Ro_hopsTogether_0 h
  refine s2_run hn h0 (fun f t _ ht => wL_le hN ht) (fun n l1 l2 h => q_Ro_hopsTogether_4 h) (fun n l1 f t hl hf h => ?_) h
  have q := q_Ro_hopsTogether_17 h
  refine ⟨q.1, fun ht => ?_⟩
  replace q := q.2 (by rw [h0, b_lt (by clear q; omega) (by clear q; omega)]; exact ht)
  rw [ixr (show f < 10 by clear q; omega) (show t < 10 by clear q; omega)] at q
  have e : F (p + 1) (20 * t + 2 * f) = if gv L E st u t (2 * f) < 100000 then gv L E st u t (2 * f) else 4294967295 := hrow_v hN ht (hr t ht) (by clear q; omega)
  unfold wL
  rcases gv_or hN ht st u (2 * f) with ⟨h1, -⟩ | ⟨h1, -⟩
  · rw [if_pos (by clear q; omega)] at e ⊢
    rw [e, b_max0 (show gv L E st u t (2 * f) < 2147483648 by clear q; omega)] at q
    exact q
  · rw [if_neg (by clear q; omega)] at e ⊢
    rw [e, b_maxm] at q
    exact q
theorem c_far_v (hN : nt_ok nn L E) {f t : Nat} (hf : f < nn) (ht : t < nn) {row : Nat → Nat} (h : c_far row nn L E st f) : row t = if fr L E st f t < 10 then fr L E st f t else 4294967295 := by
  by_cases ex : ∃ d, ds L E st f d t
  · rw [if_pos (fr_lt hN hf ex)]
    obtain ⟨d, hd⟩ := ex
    rw [fr_ds hd]
    exact (h t ht).2 d hd
  · rw [fr_no (fun d hd => ex ⟨d, hd⟩), if_neg (by decide)]
    by_cases w : row t = 4294967295
    · exact w
    · exact absurd ⟨_, (h t ht).1 w⟩ ex
theorem s_GrPW (hN : nt_ok nn L E) (h0 : F 3 0 = nn) (hr : ∀ r, r < nn → c_far (fun u => F 41 (10 * r + u)) nn L E st r) (h : Cl k_Gr_pairsWithout [(2, 40)] F v F') : v = (0, s2 (wO L E st) nn nn) ∧ F' = F := by
  have hn := hN.1
  obtain ⟨n, h⟩ := c_Gr_pairsWithout h
  obtain ⟨m, -, h⟩ := q_Gr_pairsWithout_0 h
  refine s2_run hn h0 (fun f t _ _ => wO_le) (fun n l1 l2 h => q_Gr_pairsWithout_4 h) (fun n l1 f t hl hf h => ?_) h
  have q := q_Gr_pairsWithout_17 h
  refine ⟨q.1, fun ht => ?_⟩
  replace q := q.2 (by rw [h0, b_lt (by clear q; omega) (by clear q; omega)]; exact ht)
  rw [ixg (show f < 10 by clear q; omega) (show t < 10 by clear q; omega)] at q
  have e : F 41 (10 * f + t) = if fr L E st f t < 10 then fr L E st f t else 4294967295 := c_far_v hN hf ht (hr f hf)
  unfold wO
  by_cases z : fr L E st f t < 10
  · rw [if_pos z] at e ⊢
    obtain ⟨m, hm, hR⟩ := q.1 (by rw [e]; clear q; omega)
    rw [b_add (show l1 + 0 < 4294967296 by clear q; omega)]
    exact ⟨m, hm, hR⟩
  · rw [if_neg z] at e ⊢
    exact q.2 e
theorem s_HWW (hN : nt_ok nn L E) (h0 : F 3 0 = nn) (hr : ∀ g, g < nn → hrow nn L E st u g (fun x => F (24 + 1) (20 * g + x))) (hr2 : ∀ r, r < nn → c_far (fun u => F 41 (10 * r + u)) nn L E st r) (h : Cl k_T_hopsWhereWays [(2, 2)] F v F') : v = (0, s2 (wP L E st u) nn nn) ∧ F' = F := by
  have hn := hN.1
  obtain ⟨n, h⟩ := c_T_hopsWhereWays h
  obtain ⟨m, -, h⟩ := q_T_hopsWhereWays_0 h
  refine s2_run hn h0 (fun f t hf ht => wP_le hN hf ht) (fun n l1 l2 h => q_T_hopsWhereWays_4 h) (fun n l1 f t hl hf h => ?_) h
  have q := q_T_hopsWhereWays_17 h
  refine ⟨q.1, fun ht => ?_⟩
  replace q := q.2 (by rw [h0, b_lt (by clear q; omega) (by clear q; omega)]; exact ht)
  rw [ixr (show f < 10 by clear q; omega) (show t < 10 by clear q; omega), ixg (show f < 10 by clear q; omega) (show t < 10 by clear q; omega)] at q
  have e : F 25 (20 * t + 2 * f) = if gv L E st u t (2 * f) < 100000 then gv L E st u t (2 * f) else 4294967295 := hrow_v hN ht (hr t ht) (by clear q; omega)
  have e2 : F 41 (10 * f + t) = if fr L E st f t < 10 then fr L E st f t else 4294967295 := c_far_v hN hf ht (hr2 f hf)
  unfold wP
  rcases gv_or hN ht st u (2 * f) with ⟨h1, h2⟩ | ⟨h1, -⟩
  · have hfr := gd_fr hN hf h2
    rw [if_pos (by clear q; omega)] at e ⊢
    rw [if_pos hfr.2] at e2
    rw [e, e2] at q
    by_cases z : gv L E st u t (2 * f) = 0
    · obtain ⟨m, hm, hR⟩ := q.1 (by rw [z, b_le (by decide) (by decide)]; exact Nat.le_refl 0)
      rw [show fr L E st f t = 0 by clear q; omega, b_add (show l1 + 0 < 4294967296 by clear q; omega)]
      exact ⟨m, hm, hR⟩
    · exact q.2 (by rw [b_lt (by decide) (by clear q; omega)]; clear q; omega)
  · rw [if_neg (by clear q; omega)] at e ⊢
    obtain ⟨m, hm, hR⟩ := q.1 (by rw [e, b_le_m2 (by decide)]; trivial)
    rw [b_add (show l1 + 0 < 4294967296 by clear q; omega)]
    exact ⟨m, hm, hR⟩
end PAIRC
section PAIRM
variable {nn L : Nat} {E : Nat → Nat} {st u : Nat → Bool} {v : fx_V} {G G' : fx_F}
/-- what layPairs writes -/
def po (G G' : fx_F) : Prop := (∀ p i, p ≠ 175 → p ≠ 188 → p ≠ 193 → G' p i = G p i) ∧ ∀ i, (i < 40 ∨ 44 ≤ i) → G' 175 i = G 175 i
theorem po.mgi (hL : L ≤ 20) (h : mgi G nn L E st u) (ho : po G G') : mgi G' nn L E st u := ⟨h.1.eq (ho.2 9 (Or.inl (by decide))) (fun p i h1 h2 => ho.1 p i (by omega) (by omega) (by omega)), fun l hl => by rw [h.2.1 l hl]; unfold mst; rw [ho.1 176 _ (by decide) (by decide) (by decide)], fun l hl => (ho.1 176 _ (by decide) (by decide) (by decide)).trans (h.2.2 l hl)⟩
theorem po.w {G1 : fx_F} {i x : Nat} (h : po G G1) (h1 : 40 ≤ i) (h2 : i < 44) : po G (fu G1 175 i x) := ⟨fun p j hp h8 h9 => by rw [fu_p hp]; exact h.1 p j hp h8 h9, fun j hj => by rw [fu_i (by omega)]; exact h.2 j hj⟩
/-- the four sums -/
def p4 (G : fx_F) (a b c d : Nat) : Prop := G 175 40 = a ∧ G 175 41 = b ∧ G 175 42 = c ∧ G 175 43 = d
theorem s_layPairs (hN : nt_ok nn L E) (hI : mgi G nn L E st u) (h : Cl k_M_layPairs [(2, 175)] G v G') : v = (2, 0) ∧ po G G' ∧ p4 G' (s2 (wN L E st u) nn nn) (s2 (wL L E st u) nn nn) (s2 (wD L E st u) nn nn) (s2 (wO L E st) nn nn) := by
  have hn := hN.1
  have hL := hN.2.1
  obtain ⟨n, h⟩ := c_M_layPairs h
  obtain ⟨G1, c1, m, -, hR⟩ := q_M_layPairs_0 h
  obtain ⟨-, a1, a2⟩ := s_layGoals hN hI c1
  let Q : Nat → Nat → fx_F → Prop := fun f t G2 => po G G2 ∧ (∀ i, G2 193 i = G1 193 i) ∧ p4 G2 (s2 (wN L E st u) nn f + sm (wN L E st u f) t) (s2 (wL L E st u) nn f + sm (wL L E st u f) t) (s2 (wD L E st u) nn f + sm (wD L E st u f) t) (s2 (wO L E st) nn f + sm (wO L E st f) t)
  have r193 : ∀ G2 : fx_F, (∀ i, G2 193 i = G1 193 i) → ∀ f t, f < nn → t < nn → G2 193 (20 * t + 2 * f) = gv L E st u t (2 * f) := fun G2 h3 f t hf ht => by
    rw [h3]; exact mrow_v hN ht (a2 t ht) (by omega)
  have h42 : ∀ (n f t : Nat) (G2 : fx_F), f < nn → t ≤ nn → Rn n k_M_layPairs 42 [(2, 175), (0, f), (0, t)] [] G2 v G' → Q f t G2 → (∀ w, w < nn → G2 188 w = fr L E st f w) → ∃ m G3, m < n ∧ Rn m k_M_layPairs 26 [(2, 175), (0, f + 1), (3, 0)] [] G3 v G' ∧ Q (f + 1) 0 G3 := by
    intro n
    induction n using Nat.strongRecOn with
    | ind n ih =>
      intro f t G2 hf ht h hQ hfar
      obtain ⟨ho, h3, p1, p2, p3, p5⟩ := hQ
      have hI2 := ho.mgi hL hI
      have q := q_M_layPairs_42 h
      rw [hI2.1.2.1] at q
      rcases Nat.lt_or_ge t nn with z | z
      · have c1 := s2_le (w := wN L E st u) hn (show f ≤ 10 by clear q; omega) (fun j t _ _ => wN_le)
        have c2 := s2_le (w := wL L E st u) hn (show f ≤ 10 by clear q; omega) (fun j t _ ht => wL_le hN ht)
        have c3 := s2_le (w := wD L E st u) hn (show f ≤ 10 by clear q; omega) (fun j t hj ht => wD_le hN (by clear q; omega) ht)
        have c4 := s2_le (w := wO L E st) hn (show f ≤ 10 by clear q; omega) (fun j t _ _ => wO_le)
        have d1 := sm_le (w := wN L E st u f) (B := 20) t (fun j _ => wN_le)
        have d2 := sm_le (w := wL L E st u f) (B := 20) t (fun j hj => wL_le hN (by clear q; omega))
        have d3 := sm_le (w := wD L E st u f) (B := 20) t (fun j hj => wD_le hN hf (by clear q; omega))
        have d4 := sm_le (w := wO L E st f) (B := 20) t (fun j _ => wO_le)
        replace q := q.2 (by rw [b_lt (by clear q; omega) (by clear q; omega)]; exact z)
        have ix : i_add (i_add (i_mul 20 t) (i_mul 2 f)) 0 = 20 * t + 2 * f := by
          clear q
          rw [b_mul (show 20 * t < 4294967296 by omega), b_mul (show 2 * f < 4294967296 by omega), b_add (show 20 * t + 2 * f < 4294967296 by omega), b_add (show 20 * t + 2 * f + 0 < 4294967296 by omega)]; rfl
        rw [ix, r193 G2 h3 f t hf z, hfar t z, b_add (show t + 1 < 4294967296 by clear q; omega)] at q
        -- what comes next
        have go : ∀ (m : Nat) (G3 : fx_F), m < n → Rn m k_M_layPairs 42 [(2, 175), (0, f), (0, t + 1)] [] G3 v G' → po G G3 → (∀ i, G3 193 i = G2 193 i) → (∀ i, G3 188 i = G2 188 i) → p4 G3 (G2 175 40 + wN L E st u f t) (G2 175 41 + wL L E st u f t) (G2 175 42 + wD L E st u f t) (G2 175 43 + wO L E st f t) → ∃ m G3, m < n ∧ Rn m k_M_layPairs 26 [(2, 175), (0, f + 1), (3, 0)] [] G3 v G' ∧ Q (f + 1) 0 G3 := by
          clear q
          intro m G3 hm hR ho3 k1 k2 hp
          rw [p1, p2, p3, p5, Nat.add_assoc, Nat.add_assoc, Nat.add_assoc, Nat.add_assoc] at hp
          obtain ⟨m', G4, hm', hR', hQ'⟩ := ih m hm f (t + 1) G3 hf z hR ⟨ho3, fun i => (k1 i).trans (h3 i), hp⟩ (fun w hw => (k2 w).trans (hfar w hw))
          exact ⟨m', G4, by omega, hR', hQ'⟩
        by_cases e : t = f
        · obtain ⟨m, hm, hR⟩ := q.1 e
          clear q
          subst e
          refine go m G2 hm hR ho (fun _ => rfl) (fun _ => rfl) ?_
          unfold wN wL wD wO
          rw [gv_self, fr_self]
          exact ⟨rfl, rfl, rfl, rfl⟩
        · replace q := q.2 e
          unfold wN wL wD wO at go
          rcases gv_or hN z st u (2 * f) with ⟨g1, g2⟩ | ⟨g1, -⟩
          · have hfr := gd_fr hN hf g2
            obtain ⟨m, hm, hR⟩ := q.2 (by rw [b_lt (by clear q; omega) (by decide)]; clear q; omega)
            clear q
            rw [p2, p3, b_sub hfr.1 (by omega), b_add (by omega), b_add (by omega)] at hR
            refine go m _ hm hR ((ho.w (by decide) (by decide)).w (by decide) (by decide)) (fun i => by rw [fu_p (by decide), fu_p (by decide)]) (fun i => by rw [fu_p (by decide), fu_p (by decide)]) ?_
            rw [if_pos (by omega), if_pos (by omega), if_pos (by omega), if_pos hfr.2, p2, p3]
            refine ⟨?_, ?_, ?_, ?_⟩
            · rw [fu_i (by decide), fu_i (by decide)]; rfl
            · rw [fu_i (by decide), fu_same]
            · rw [fu_same]
            · rw [fu_i (by decide), fu_i (by decide)]; rfl
          · replace q := q.1 (by rw [g1, b_le (by decide) (by decide)]; decide)
            rw [if_neg (show ¬ gv L E st u t (2 * f) < 100000 by clear q; omega), if_neg (show ¬ gv L E st u t (2 * f) < 100000 by clear q; omega), if_neg (show ¬ gv L E st u t (2 * f) < 100000 by clear q; omega)] at go
            have fin : ∀ x, x = (if fr L E st f t < 10 then 0 else 1) → ∀ m, m < n → Rn m k_M_layPairs 42 [(2, 175), (0, f), (0, t + 1)] [] (fu (fu G2 175 40 (i_add (G2 175 40) 1)) 175 43 (i_add (G2 175 43) x)) v G' → ∃ m G3, m < n ∧ Rn m k_M_layPairs 26 [(2, 175), (0, f + 1), (3, 0)] [] G3 v G' ∧ Q (f + 1) 0 G3 := by
              clear q
              intro x hx m hm hR
              have hx1 : x ≤ 1 := by rw [hx]; split <;> omega
              rw [← hx] at go
              rw [p1, p5, b_add (by omega), b_add (by omega)] at hR
              refine go m _ hm hR ((ho.w (by decide) (by decide)).w (by decide) (by decide)) (fun i => by rw [fu_p (by decide), fu_p (by decide)]) (fun i => by rw [fu_p (by decide), fu_p (by decide)]) ?_
              rw [p1, p5]
              refine ⟨?_, ?_, ?_, ?_⟩
              · rw [fu_i (by decide), fu_same]
              · rw [fu_i (by decide), fu_i (by decide)]; rfl
              · rw [fu_i (by decide), fu_i (by decide)]; rfl
              · rw [fu_same]
            have hle := fr_le (st := st) (u := t) hN hf
            by_cases e2 : fr L E st f t = 10
            · obtain ⟨m, hm, hR⟩ := q.2 e2
              exact fin 1 (by rw [if_neg (by clear q; omega)]) m hm hR
            · obtain ⟨m, hm, hR⟩ := q.1 e2
              exact fin 0 (by rw [if_pos (by clear q; omega)]) m hm hR
      · obtain ⟨m, hm, hR⟩ := q.1 (by rw [b_le (by clear q; omega) (by clear q; omega)]; exact z)
        clear q
        rw [b_add (show f + 1 < 4294967296 by omega)] at hR
        have e : t = nn := by omega
        rw [e] at p1 p2 p3 p5
        exact ⟨m, G2, hm, hR, ho, h3, p1, p2, p3, p5⟩
  have h26 : ∀ (n f : Nat) (G2 : fx_F), f ≤ nn → Rn n k_M_layPairs 26 [(2, 175), (0, f), (3, 0)] [] G2 v G' → Q f 0 G2 → v = (2, 0) ∧ Q nn 0 G' := by
    intro n
    induction n using Nat.strongRecOn with
    | ind n ih =>
      intro f G2 hf h hQ
      have hI2 := hQ.1.mgi hL hI
      have q := q_M_layPairs_26 h
      rw [hI2.1.2.1] at q
      rcases Nat.lt_or_ge f nn with z | z
      · obtain ⟨G3, c3, m, hm, hR⟩ := q.2 (by rw [b_lt (by clear q; omega) (by clear q; omega)]; exact z)
        clear q
        obtain ⟨u1, u2⟩ := s_layFar (st := st) hN (Or.inl z) (by omega) hI2.1 (msw_none hN hI2.2.1) c3
        obtain ⟨ho, h3, p1, p2, p3, p5⟩ := hQ
        have hQ3 : Q f 0 G3 := ⟨⟨fun p i h1 h2 h4 => (u1 p i (by simpa using h2)).trans (ho.1 p i h1 h2 h4), fun i hi => (u1 175 i (by decide)).trans (ho.2 i hi)⟩, fun i => (u1 193 i (by decide)).trans (h3 i), (u1 175 40 (by decide)).trans p1, (u1 175 41 (by decide)).trans p2, (u1 175 42 (by decide)).trans p3, (u1 175 43 (by decide)).trans p5⟩
        obtain ⟨m', G4, hm', hR', hQ'⟩ := h42 m f 0 G3 z (Nat.zero_le _) hR hQ3 u2
        exact ih m' (by omega) (f + 1) G4 z hR' hQ'
      · obtain ⟨x1, x2⟩ := q.1 (by rw [b_le (by clear q; omega) (by clear q; omega)]; exact z)
        clear q
        subst x2
        rw [show f = nn by omega] at hQ
        exact ⟨x1, hQ⟩
  obtain ⟨r1, r2, -, r3⟩ := h26 m 0 _ (Nat.zero_le _) hR ⟨⟨fun p i h1 h2 h4 => by rw [fu_p h1, fu_p h1, fu_p h1, fu_p h1]; exact a1 p i (by simpa using h4), fun i hi => by rw [fu_i (by omega), fu_i (by omega), fu_i (by omega), fu_i (by omega)]; exact a1 175 i (by decide)⟩, fun i => by rw [fu_p (by decide), fu_p (by decide), fu_p (by decide), fu_p (by decide)], by rw [fu_i (by decide), fu_i (by decide), fu_i (by decide), fu_same]; rfl, by rw [fu_i (by decide), fu_i (by decide), fu_same]; rfl, by rw [fu_i (by decide), fu_same]; rfl, by rw [fu_same]; rfl⟩
  exact ⟨r1, r2, r3⟩
end PAIRM
section PAIRS
variable {nn L R N : Nat} {E C : Nat → Nat} {v v2 : fx_V} {F F' G G' : fx_F}
theorem o_pairs {a : Nat} (h : lr F G nn L E C N R) (hF : Cl k_T_pairs [(2, 2), (0, a)] F v F') (hG : Cl k_M_pairs [(2, 175), (0, a)] G v2 G') : v = v2 ∧ lr F' G' nn L E C N R ∧ sF F F' ∧ sG G G' := by
  have hN := h.1.1
  have hn := hN.1
  have hs0 := h.2.2.2.1.2
  have hb := sc_lt hN hs0
  have hS : S0 (F 2 13) := h.2.2.2.1.1.1.1
  have hS' : 53 ≤ F 2 13 := by unfold S0 at hS; omega
  obtain ⟨nF, hF⟩ := c_T_pairs hF
  obtain ⟨nG, hG⟩ := c_M_pairs hG
  obtain ⟨F1, c1, Q⟩ := q_T_pairs_0 hF
  obtain ⟨G1, d1, QG⟩ := q_M_pairs_0 hG
  obtain ⟨t1, t2, t3, t4⟩ := h.see c1
  obtain ⟨-, u1, p1, p2, p3, p5⟩ := s_layPairs hN h.mgi d1
  rw [p1, p2, p3, p5] at QG
  have hc1 : cn F1 nn L E := h.2.1.1.keep t1 (by decide) (by decide) (by decide)
  have fin : ∀ z (F2 : fx_F), fxo [41] F1 F2 → v = (0, z) ∧ F' = F2 → v2 = (0, z) ∧ G' = G1 → v = v2 ∧ lr F' G' nn L E C N R ∧ sF F F' ∧ sG G G' := by
    rintro z F2 ho ⟨x1, x2⟩ ⟨y1, y2⟩
    subst x2
    subst y2
    exact ⟨x1.trans y1.symm, h.fr (fun p i hp => by rw [ho p i (by unfold qF at hp; simp; omega), t1 p i (by unfold qF at hp; simp; omega)]) (t3.eq (fun t i ht => ho _ i (by simp; omega))) (t4.eq (fun t i ht => ho _ i (by simp; omega))) (fun p i hp h5 => u1.1 p i h5 (by unfold qG at hp; omega) (by unfold qG at hp; omega)) (fun i hi => u1.2 i (by omega))⟩
  by_cases e4 : a < 4
  · have ha : a = 0 ∨ a = 1 ∨ a = 2 ∨ a = 3 := by clear Q QG; omega
    have gs : ∀ F2, Cl k_Gr_see [(2, 40), (0, F1 (F1 2 13) 2)] F1 (2, 0) F2 → fxo [41] F1 F2 ∧ cn F2 nn L E ∧ (∀ g, g < nn → hrow nn L E (bts (F (F 2 13) 2)) (bts (F (F 2 13) 1)) g (fun x => F2 (24 + 1) (20 * g + x))) ∧ ∀ r, r < nn → c_far (fun u => F2 41 (10 * r + u)) nn L E (bts (F (F 2 13) 2)) r := by
      clear Q QG
      intro F2 c2
      rw [t1 2 13 (by decide), t1 (F 2 13) 2 (by simp; omega)] at c2
      obtain ⟨-, k1, k2⟩ := s_Grsee hN (by omega) hc1 c2
      exact ⟨k1, hc1.keep k1 (by decide) (by decide) (by decide), fun g hg => (t2.2.2.2.2 g hg).eq (fun x => k1 _ _ (by decide)), k2⟩
    rcases ha with e | e | e | e
    · obtain ⟨n2, F2, c2, x⟩ := Q.2.1 e
      have y := QG.2.1 e
      clear Q QG
      obtain ⟨w1, w2⟩ := s_RoPW hN hc1.1 t2.2.2.2.2 c2
      cases w1
      subst w2
      exact fin _ F2 fxo.rf x y
    · obtain ⟨n2, F2, c2, x⟩ := Q.2.2.1 e
      have y := QG.2.2.1 e
      clear Q QG
      obtain ⟨w1, w2⟩ := s_RoHT hN hc1.1 t2.2.2.2.2 c2
      cases w1
      subst w2
      exact fin _ F2 fxo.rf x y
    · obtain ⟨F2, c2, n3, F3, c3, n4, F4, c4, x⟩ := Q.2.2.2.1 e
      have y := QG.2.2.2.1 e
      clear Q QG
      obtain ⟨k1, k2, k3, k4⟩ := gs F2 c2
      obtain ⟨w1, w2⟩ := s_RoHT hN k2.1 k3 c3
      cases w1
      subst w2
      obtain ⟨w3, w4⟩ := s_HWW hN k2.1 k3 k4 c4
      cases w3
      subst w4
      have hsub := s2_sub (a := wL L E (bts (F (F 2 13) 2)) (bts (F (F 2 13) 1))) (b := wP L E (bts (F (F 2 13) 2)) (bts (F (F 2 13) 1))) (d := wD L E (bts (F (F 2 13) 2)) (bts (F (F 2 13) 1))) (m := nn) (f := nn) (fun j t hj ht => wLPD hN hj ht)
      have hle := s2_le (w := wL L E (bts (F (F 2 13) 2)) (bts (F (F 2 13) 1))) hn hn (fun j t _ ht => wL_le hN ht)
      rw [b_sub (by omega) (by omega), show s2 (wL L E (bts (F (F 2 13) 2)) (bts (F (F 2 13) 1))) nn nn - s2 (wP L E (bts (F (F 2 13) 2)) (bts (F (F 2 13) 1))) nn nn = s2 (wD L E (bts (F (F 2 13) 2)) (bts (F (F 2 13) 1))) nn nn by omega] at x
      exact fin _ _ k1 x y
    · obtain ⟨F2, c2, n3, F3, c3, x⟩ := Q.2.2.2.2.1 e
      have y := QG.2.2.2.2.1 e
      clear Q QG
      obtain ⟨k1, k2, k3, k4⟩ := gs F2 c2
      obtain ⟨w1, w2⟩ := s_GrPW hN k2.1 k4 c3
      cases w1
      subst w2
      exact fin _ _ k1 x y
  · exact fin _ F1 fxo.rf (Q.1 (Or.inr (by clear Q QG; omega))) (QG.1 (Or.inr (by clear Q QG; omega)))
end PAIRS
