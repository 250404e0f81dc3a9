/-! pivots agrees (names of other parts: sm_sub s2_le msw_none s_Grsee c_far_v lr.kk) -/
section PIVM
theorem sm_one {a : Nat → Nat} {v : Nat} : ∀ k, sm a k = sm (fun j => if j = v then 0 else a j) k + (if v < k then a v else 0)
  | 0 => by rw [if_neg (Nat.not_lt_zero _)]; rfl
  | k + 1 => by
    have ih := sm_one (a := a) (v := v) k
    show sm a k + a k = sm (fun j => if j = v then 0 else a j) k + (if k = v then 0 else a k) + _
    rcases Nat.lt_trichotomy v k with h | h | h
    · rw [if_pos h] at ih
      rw [if_neg (by omega), if_pos (by omega)]
      omega
    · rw [if_neg (by omega)] at ih
      rw [if_pos h.symm, if_pos (by omega), h]
      rw [h] at ih
      omega
    · rw [if_neg (by omega)] at ih
      rw [if_neg (by omega), if_neg (by omega)]
      omega
theorem sm_lt {a b : Nat → Nat} : ∀ k, (∀ j, j < k → a j ≤ b j) → sm a k ≤ sm b k ∧ (sm a k < sm b k ↔ ∃ j, j < k ∧ a j < b j)
  | 0, _ => ⟨Nat.le_refl _, fun z => absurd z (Nat.lt_irrefl _), fun ⟨j, hj, _⟩ => absurd hj (Nat.not_lt_zero _)⟩
  | k + 1, h => by
    obtain ⟨h1, h2⟩ := sm_lt (a := a) (b := b) k (fun j hj => h j (by omega))
    have h3 := h k (by omega)
    show sm a k + a k ≤ sm b k + b k ∧ (sm a k + a k < sm b k + b k ↔ _)
    refine ⟨by omega, fun z => ?_, fun ⟨j, hj, hab⟩ => ?_⟩
    · rcases Nat.lt_or_ge (a k) (b k) with y | y
      · exact ⟨k, by omega, y⟩
      · obtain ⟨j, hj, hab⟩ := h2.mp (by omega)
        exact ⟨j, by omega, hab⟩
    · by_cases e : j = k
      · subst e; omega
      · have := h2.mpr ⟨j, by omega, hab⟩
        omega
theorem s2_lt {a b : Nat → Nat → Nat} {m f : Nat} (h : ∀ j t, j < f → t < m → a j t ≤ b j t) : s2 a m f ≤ s2 b m f ∧ (s2 a m f < s2 b m f ↔ ∃ j t, j < f ∧ t < m ∧ a j t < b j t) := by
  have h1 : ∀ j, j < f → sm (a j) m ≤ sm (b j) m ∧ (sm (a j) m < sm (b j) m ↔ ∃ t, t < m ∧ a j t < b j t) := fun j hj => sm_lt m (fun t ht => h j t hj ht)
  obtain ⟨h2, h3⟩ := sm_lt (a := fun j => sm (a j) m) (b := fun j => sm (b j) m) f (fun j hj => (h1 j hj).1)
  refine ⟨h2, fun z => ?_, fun ⟨j, t, hj, ht, hab⟩ => h3.mpr ⟨j, hj, (h1 j hj).2.mpr ⟨t, ht, hab⟩⟩⟩
  obtain ⟨j, hj, hab⟩ := h3.mp z
  obtain ⟨t, ht, hx⟩ := (h1 j hj).2.mp hab
  exact ⟨j, t, hj, ht, hx⟩
variable {nn L : Nat} {E : Nat → Nat} {st st2 : Nat → Bool}
theorem wk_mono (h : ∀ l, l < L → st l = true → st2 l = true) {r : Nat} : ∀ {d v : Nat}, wk L E st r d v → wk L E st2 r d v := by
  intro d
  induction d with
  | zero => intro v hv; exact hv
  | succ d ih =>
    rintro v ⟨c, h1, h2, h3, h4⟩
    exact ⟨c, h1, h _ (by omega) h2, h3, ih h4⟩
theorem ds_congr (h : ∀ l, l < L → st l = st2 l) {r d v : Nat} : ds L E st r d v ↔ ds L E st2 r d v := by
  have a : ∀ {e}, wk L E st r e v → wk L E st2 r e v := fun hw => wk_mono (fun l hl z => (h l hl).symm.trans z) hw
  have b : ∀ {e}, wk L E st2 r e v → wk L E st r e v := fun hw => wk_mono (fun l hl z => (h l hl).trans z) hw
  exact ⟨fun ⟨x, y⟩ => ⟨a x, fun e he hw => y e he (b hw)⟩, fun ⟨x, y⟩ => ⟨b x, fun e he hw => y e he (a hw)⟩⟩
theorem fr_congr (h : ∀ l, l < L → st l = st2 l) {r v : Nat} : fr L E st r v = fr L E st2 r v := by
  by_cases ex : ∃ d, ds L E st r d v
  · obtain ⟨d, hd⟩ := ex
    rw [fr_ds hd, fr_ds ((ds_congr h).mp hd)]
  · rw [fr_no (fun d hd => ex ⟨d, hd⟩), fr_no (fun d hd => ex ⟨d, (ds_congr h).mpr hd⟩)]
theorem fr_wk (hN : nt_ok nn L E) {r v : Nat} (hr : r < nn) : fr L E st r v < 10 ↔ ∃ d, wk L E st r d v := by
  refine ⟨fun z => ?_, fun ⟨d, hd⟩ => ?_⟩
  · by_cases ex : ∃ d, ds L E st r d v
    · obtain ⟨d, hd⟩ := ex
      exact ⟨d, hd.1⟩
    · rw [fr_no (fun d hd => ex ⟨d, hd⟩)] at z
      exact absurd z (Nat.lt_irrefl _)
  · obtain ⟨e, -, he⟩ := ds_ex hd
    exact fr_lt hN hr ⟨e, he⟩
theorem wk_rev {r v : Nat} : ∀ (d n x : Nat), wk L E st r d x → wk L E st v n x → wk L E st v (n + d) r := by
  intro d
  induction d with
  | zero =>
    intro n x h hw
    have e : x = r := h
    rw [e] at hw
    exact hw
  | succ d ih =>
    rintro n x ⟨c, h1, h2, h3, h4⟩ hw
    have k := ih (n + 1) (E c) h4 ⟨nf c, nf_lt h1, by rw [nf_div]; exact h2, by rw [nf_nf], by rw [h3]; exact hw⟩
    rw [show n + (d + 1) = n + 1 + d by omega]
    exact k
theorem fr_sym (hN : nt_ok nn L E) {r v : Nat} (hr : r < nn) (hv : v < nn) : fr L E st r v < 10 ↔ fr L E st v r < 10 := by
  rw [fr_wk hN hr, fr_wk hN hv]
  exact ⟨fun ⟨d, hd⟩ => ⟨0 + d, wk_rev d 0 v hd rfl⟩, fun ⟨d, hd⟩ => ⟨0 + d, wk_rev d 0 r hd rfl⟩⟩
/-- links that stand and don't end at w -/
def stw (E : Nat → Nat) (st : Nat → Bool) (w l : Nat) : Bool := st l && (!(Nat.beq (E (2 * l)) w) && !(Nat.beq (E (2 * l + 1)) w))
/-- a pair that has a way -/
noncomputable def wA (L : Nat) (E : Nat → Nat) (st : Nat → Bool) (f t : Nat) : Nat := if t ≠ f ∧ fr L E st f t < 10 then 1 else 0
/-- without a switch -/
noncomputable def wC (L : Nat) (E : Nat → Nat) (st : Nat → Bool) (w f t : Nat) : Nat := if f ≠ w ∧ t ≠ w ∧ t ≠ f ∧ fr L E st f t < 10 then 1 else 0
theorem wA_le {f t : Nat} : wA L E st f t ≤ 20 := by unfold wA; split <;> omega
theorem wC_le {w f t : Nat} : wC L E st w f t ≤ 20 := by unfold wC; split <;> omega
theorem wA_sum (hN : nt_ok nn L E) {v : Nat} (hv : v < nn) : s2 (wA L E st) nn nn = s2 (wC L E st v) nn nn + 2 * sm (wA L E st v) nn := by
  have avv : wA L E st v v = 0 := if_neg (fun z => z.1 rfl)
  have h1 := sm_one (a := fun f => sm (wA L E st f) nn) (v := v) nn
  rw [if_pos hv] at h1
  have h2 : sm (fun j => if j = v then 0 else sm (wA L E st j) nn) nn = sm (fun j => sm (wC L E st v j) nn) nn + sm (fun f => wA L E st f v) nn := sm_sub nn (fun f hf => by
    show (if f = v then 0 else sm (wA L E st f) nn) = sm (wC L E st v f) nn + wA L E st f v
    by_cases e : f = v
    · rw [if_pos e, e, avv]
      have : sm (wC L E st v v) nn = sm (fun _ => 0) nn := sm_congr nn (fun t _ => if_neg (fun z => z.1 rfl))
      rw [this]
      have z0 : ∀ k, sm (fun _ => 0) k = 0 := fun k => by
        have := sm_le (w := fun _ => 0) (B := 0) k (fun _ _ => Nat.le_refl 0)
        omega
      rw [z0]
    · rw [if_neg e]
      have h3 := sm_one (a := wA L E st f) (v := v) nn
      rw [if_pos hv] at h3
      rw [h3]
      congr 1
      refine sm_congr nn (fun t _ => ?_)
      unfold wA wC
      by_cases et : t = v
      · rw [if_pos et, if_neg (fun z => z.2.1 et)]
      · rw [if_neg et]
        by_cases q : t ≠ f ∧ fr L E st f t < 10
        · rw [if_pos q, if_pos ⟨e, et, q⟩]
        · rw [if_neg q, if_neg (fun z => q z.2.2)])
  have h4 : sm (fun f => wA L E st f v) nn = sm (wA L E st v) nn := sm_congr nn (fun f hf => by
    unfold wA
    have hs := fr_sym (st := st) hN hf hv
    by_cases q : v ≠ f ∧ fr L E st f v < 10
    · rw [if_pos q, if_pos ⟨fun z => q.1 z.symm, hs.mp q.2⟩]
    · rw [if_neg q, if_neg (fun z => q ⟨fun y => z.1 y.symm, hs.mpr z.2⟩)])
  show sm (fun f => sm (wA L E st f) nn) nn = sm (fun j => sm (wC L E st v j) nn) nn + 2 * sm (wA L E st v) nn
  rw [h1, h2, h4]
  show _ + sm (wA L E st v) nn + sm (wA L E st v) nn = _
  omega
theorem stw_fr (hN : nt_ok nn L E) {v f t : Nat} (hf : f < nn) (h : fr L E (stw E st v) f t < 10) : fr L E st f t < 10 := by
  obtain ⟨d, hd⟩ := (fr_wk hN hf).mp h
  exact (fr_wk hN hf).mpr ⟨d, wk_mono (fun l _ z => by
    unfold stw at z
    rw [Bool.and_eq_true] at z
    exact z.1) hd⟩
/-- a switch parts others -/
def prt (nn L : Nat) (E : Nat → Nat) (st : Nat → Bool) (v : Nat) : Prop := ∃ f t, f < nn ∧ t < nn ∧ f ≠ v ∧ t ≠ v ∧ ¬ fr L E (stw E st v) f t < 10 ∧ fr L E st f t < 10
theorem prt_iff (hN : nt_ok nn L E) {v : Nat} : s2 (wC L E (stw E st v) v) nn nn ≤ s2 (wC L E st v) nn nn ∧ (s2 (wC L E (stw E st v) v) nn nn < s2 (wC L E st v) nn nn ↔ prt nn L E st v) := by
  have hle : ∀ j t, j < nn → t < nn → wC L E (stw E st v) v j t ≤ wC L E st v j t := fun j t hj ht => by
    unfold wC
    by_cases q : j ≠ v ∧ t ≠ v ∧ t ≠ j ∧ fr L E (stw E st v) j t < 10
    · rw [if_pos q, if_pos ⟨q.1, q.2.1, q.2.2.1, stw_fr hN hj q.2.2.2⟩]; exact Nat.le_refl 1
    · rw [if_neg q]; exact Nat.zero_le _
  obtain ⟨h1, h2⟩ := s2_lt hle
  refine ⟨h1, fun z => ?_, fun ⟨f, t, hf, ht, k1, k2, k3, k4⟩ => h2.mpr ⟨f, t, hf, ht, ?_⟩⟩
  · obtain ⟨f, t, hf, ht, k⟩ := h2.mp z
    unfold wC at k
    by_cases q : f ≠ v ∧ t ≠ v ∧ t ≠ f ∧ fr L E st f t < 10
    · refine ⟨f, t, hf, ht, q.1, q.2.1, fun y => ?_, q.2.2.2⟩
      rw [if_pos ⟨q.1, q.2.1, q.2.2.1, y⟩, if_pos q] at k
      exact absurd k (Nat.lt_irrefl _)
    · rw [if_neg q] at k
      exact absurd k (Nat.not_lt_zero _)
  · have hft : t ≠ f := fun e => k3 (by rw [e, fr_self]; decide)
    unfold wC
    rw [if_neg (fun q => k3 q.2.2.2), if_pos ⟨k1, k2, hft, k4⟩]
    decide
end PIVM
section PIVC
variable {nn L R N s b : Nat} {E C : Nat → Nat} {st : Nat → Bool} {v v2 : fx_V} {F F' F1 F2 G G' G1 : fx_F}
theorem s_parts (hN : nt_ok nn L E) (hs : s < 2147483648) (hb : b < nn) (hc : cn F nn L E) (hr : ∀ r, r < nn → c_far (fun u => F 41 (10 * r + u)) nn L E (bts s) r) (h : Cl k_Gr_parts [(2, 40), (0, b), (0, s)] F v F') : ∃ x, v = (0, x) ∧ (x ≠ 0 ↔ prt nn L E (bts s) b) ∧ fxo [42] F F' := by
  have hn := hN.1
  have hL := hN.2.1
  obtain ⟨n0, h⟩ := c_Gr_parts h
  obtain ⟨m0, -, h0⟩ := q_Gr_parts_0 h
  have l67 : ∀ (n : Nat) (F2 : fx_F) (rs f : Nat), rs < 2147483648 → (∀ l, l < L → bts rs l = stw E (bts s) b l) → Rn n k_Gr_parts 67 [(2, 40), (0, b), (3, 0), (0, rs), (0, f), (3, 0)] [] F2 v F' → f ≤ nn → fxo [42] F F2 → (∀ f' t, f' < f → t < nn → f' ≠ b → t ≠ b → ¬ fr L E (stw E (bts s) b) f' t < 10 → ¬ fr L E (bts s) f' t < 10) → ∃ x, v = (0, x) ∧ (x ≠ 0 ↔ prt nn L E (bts s) b) ∧ fxo [42] F F' := by
    intro n
    induction n using Nat.strongRecOn with
    | ind n ih =>
      intro F2 rs f hrs hst h hf ho hI
      have hc2 := hc.keep ho (by decide) (by decide) (by decide)
      have q := q_Gr_parts_67 h
      rw [hc2.1] at q
      rcases Nat.lt_or_ge f nn with z | z
      · replace q := q.2 (by rw [b_lt (by clear q; omega) (by clear q; omega)]; exact z)
        rw [b_add (show f + 1 < 4294967296 by clear q; omega)] at q
        by_cases e : f = b
        · obtain ⟨m, hm, hR⟩ := q.1 e
          clear q
          refine ih m hm F2 rs (f + 1) hrs hst hR z ho (fun f' t hf' ht h1 h2 => ?_)
          exact hI f' t (by omega) ht h1 h2
        · obtain ⟨F3, c3, m, hm, hR⟩ := q.2 e
          clear q
          obtain ⟨k1, k2⟩ := s_spread hN hc2 z hrs (show 0 < 100000 by decide) (by decide) c3
          have far : ∀ t, t < nn → F3 42 t = if fr L E (stw E (bts s) b) f t < 10 then fr L E (stw E (bts s) b) f t else 4294967295 := fun t ht => by
            have := c_far_v hN z ht k2
            rw [fr_congr (st := fun l => rs.testBit l) (st2 := stw E (bts s) b) hst] at this
            have e0 : F3 42 (0 + t) = _ := this
            rw [Nat.zero_add] at e0
            exact e0
          have ho3 : fxo [42] F F3 := ho.tr k1.1
          have hc3 := hc.keep ho3 (by decide) (by decide) (by decide)
          have l103 : ∀ (n2 t : Nat), n2 < n → Rn n2 k_Gr_parts 103 [(2, 40), (0, b), (3, 0), (0, rs), (0, f), (0, t)] [] F3 v F' → t ≤ nn → (∀ t', t' < t → t' ≠ b → ¬ fr L E (stw E (bts s) b) f t' < 10 → ¬ fr L E (bts s) f t' < 10) → ∃ x, v = (0, x) ∧ (x ≠ 0 ↔ prt nn L E (bts s) b) ∧ fxo [42] F F' := by
            intro n2
            induction n2 using Nat.strongRecOn with
            | ind n2 ih2 =>
              intro t hn2 h ht hJ
              have q := q_Gr_parts_103 h
              rw [hc3.1] at q
              rcases Nat.lt_or_ge t nn with y | y
              · replace q := q.2 (by rw [b_lt (by clear q; omega) (by clear q; omega)]; exact y)
                rw [b_add (show t + 1 < 4294967296 by clear q; omega), far t y, ixg (show f < 10 by clear q; omega) (show t < 10 by clear q; omega), ho3 41 _ (by decide)] at q
                have e41 : F 41 (10 * f + t) = if fr L E (bts s) f t < 10 then fr L E (bts s) f t else 4294967295 := c_far_v hN z y (hr f z)
                by_cases eb : t = b
                · obtain ⟨m, hm, hR⟩ := q.1 eb
                  clear q
                  exact ih2 m hm (t + 1) (by omega) hR y (fun t' ht' h1 h2 => hJ t' (by omega) h1 h2)
                · replace q := q.2 eb
                  by_cases w : fr L E (stw E (bts s) b) f t < 10
                  · rw [if_pos w] at q
                    obtain ⟨m, hm, hR⟩ := q.1 (by clear q; omega)
                    clear q
                    refine ih2 m hm (t + 1) (by omega) hR y (fun t' ht' h1 h2 => ?_)
                    by_cases et : t' = t
                    · rw [et] at h2; exact absurd w h2
                    · exact hJ t' (by omega) h1 h2
                  · rw [if_neg w] at q
                    replace q := q.2 rfl
                    by_cases w2 : fr L E (bts s) f t < 10
                    · rw [e41, if_pos w2] at q
                      obtain ⟨x1, x2⟩ := q.2 (by clear q; omega)
                      subst x2
                      exact ⟨1, x1, ⟨fun _ => ⟨f, t, z, y, e, eb, w, w2⟩, fun _ => by decide⟩, ho3⟩
                    · rw [e41, if_neg w2] at q
                      obtain ⟨m, hm, hR⟩ := q.1 rfl
                      clear q
                      refine ih2 m hm (t + 1) (by omega) hR y (fun t' ht' h1 h2 => ?_)
                      by_cases et : t' = t
                      · rw [et]; exact w2
                      · exact hJ t' (by omega) h1 h2
              · obtain ⟨m, hm, hR⟩ := q.1 (by rw [b_le (by clear q; omega) (by clear q; omega)]; exact y)
                clear q
                rw [b_add (show f + 1 < 4294967296 by omega)] at hR
                refine ih m (by omega) F3 rs (f + 1) hrs hst hR z ho3 (fun f' t' hf' ht' h1 h2 h3 => ?_)
                by_cases ef : f' = f
                · rw [ef] at h3 ⊢
                  exact hJ t' (by omega) h2 h3
                · exact hI f' t' (by omega) ht' h1 h2 h3
          exact l103 m 0 hm hR (Nat.zero_le _) (fun t' ht' => absurd ht' (Nat.not_lt_zero _))
      · obtain ⟨x1, x2⟩ := q.1 (by rw [b_le (by clear q; omega) (by clear q; omega)]; exact z)
        clear q
        subst x2
        exact ⟨0, x1, ⟨fun w => absurd rfl w, fun ⟨f', t, hf', ht, h1, h2, h3, h4⟩ => absurd h4 (hI f' t (by omega) ht h1 h2 h3)⟩, ho⟩
  have l5 : ∀ (n rs l : Nat), rs < 2147483648 → l ≤ L → (∀ i, i < L → bts rs i = if i < l then stw E (bts s) b i else bts s i) → Rn n k_Gr_parts 5 [(2, 40), (0, b), (3, 0), (0, rs), (0, l), (3, 0)] [] F v F' → ∃ x, v = (0, x) ∧ (x ≠ 0 ↔ prt nn L E (bts s) b) ∧ fxo [42] F F' := by
    intro n
    induction n using Nat.strongRecOn with
    | ind n ih =>
      intro rs l hrs hl hI h
      have q := q_Gr_parts_5 h
      rw [hc.2.1] at q
      rcases Nat.lt_or_ge l L with z | z
      · replace q := q.2 (by rw [b_lt (by clear q; omega) (by clear q; omega)]; exact z)
        have f4 : F 4 (2 * l) = E (2 * l) := (hc.2.2 (2 * l) (by clear q; omega)).1
        have f5 : F 5 (2 * l) = E (2 * l + 1) := by
          rw [(hc.2.2 (2 * l) (by clear q; omega)).2]
          congr 1
          unfold nf; rw [if_pos (by clear q; omega)]
        rw [b_mul (show 2 * l < 4294967296 by clear q; omega), b_add (show l + 1 < 4294967296 by clear q; omega), f4, f5] at q
        obtain ⟨z1, z2⟩ := b_clr (x := rs) (l := l) (by clear q; omega) (by clear q; omega)
        have hle : i_and rs (i_xor (i_shl 1 l) 4294967295) < 2147483648 := Nat.lt_of_lt_of_le (tb_lt (k := 31) (fun i hi => by
          rw [z2, Bool.and_eq_true] at hi
          rcases Nat.lt_or_ge i 31 with w | w
          · exact w
          · rw [tb_out (k := 31) hrs w] at hi; cases hi.1)) (by decide)
        have off : stw E (bts s) b l = false → ∀ m, m < n → Rn m k_Gr_parts 5 [(2, 40), (0, b), (3, 0), (0, i_and rs (i_xor (i_shl 1 l) 4294967295)), (0, l + 1), (3, 0)] [] F v F' → ∃ x, v = (0, x) ∧ (x ≠ 0 ↔ prt nn L E (bts s) b) ∧ fxo [42] F F' := fun hz m hm hR => by
          refine ih m hm _ (l + 1) hle z (fun i hi => ?_) hR
          show (i_and rs (i_xor (i_shl 1 l) 4294967295)).testBit i = _
          rw [z2]
          have := hI i hi
          replace this : rs.testBit i = _ := this
          by_cases e : i = l
          · rw [e, if_pos (by omega), hz, decide_eq_false (fun z => z rfl), Bool.and_false]
          · rw [decide_eq_true e, Bool.and_true, this]
            by_cases w : i < l
            · rw [if_pos w, if_pos (by omega)]
            · rw [if_neg w, if_neg (by omega)]
        by_cases e1 : E (2 * l) = b
        · obtain ⟨m, hm, hR⟩ := q.1 e1
          refine off ?_ m hm hR
          unfold stw
          rw [rx_beq.mpr e1]
          simp
        · replace q := q.2 e1
          by_cases e2 : E (2 * l + 1) = b
          · obtain ⟨m, hm, hR⟩ := q.2 e2
            refine off ?_ m hm hR
            unfold stw
            rw [rx_beq.mpr e2]
            simp
          · obtain ⟨m, hm, hR⟩ := q.1 e2
            refine ih m hm rs (l + 1) hrs z (fun i hi => ?_) hR
            rw [hI i hi]
            by_cases e : i = l
            · rw [e, if_neg (Nat.lt_irrefl _), if_pos (by omega)]
              unfold stw
              rw [show Nat.beq (E (2 * l)) b = false from Bool.eq_false_iff.mpr (fun w => e1 (rx_beq.mp w)), show Nat.beq (E (2 * l + 1)) b = false from Bool.eq_false_iff.mpr (fun w => e2 (rx_beq.mp w))]
              simp
            · by_cases w : i < l
              · rw [if_pos w, if_pos (by omega)]
              · rw [if_neg w, if_neg (by omega)]
      · obtain ⟨m, hm, hR⟩ := q.1 (by rw [b_le (by clear q; omega) (by clear q; omega)]; exact z)
        exact l67 m F rs 0 hrs (fun i hi => by rw [hI i hi, if_pos (by clear q; omega)]) hR (Nat.zero_le _) fxo.rf (fun f' t hf' => absurd hf' (Nat.not_lt_zero _))
  exact l5 m0 s 0 hs (Nat.zero_le _) (fun i _ => by rw [if_neg (Nat.not_lt_zero _)]) h0
/-- the reference's count -/
theorem s_plainPairs (hN : nt_ok nn L E) {w : Nat} (hm : mn G nn L E) (hst : ∀ l, l < L → st l = msw G E w l) (h : Cl k_M_plainPairs [(2, 175), (0, w)] G v G') : v = (0, s2 (wC L E st w) nn nn) ∧ fxo [188] G G' := by
  have hn := hN.1
  obtain ⟨n0, h⟩ := c_M_plainPairs h
  obtain ⟨m0, -, h0⟩ := q_M_plainPairs_0 h
  have b1 : ∀ f, f ≤ nn → s2 (wC L E st w) nn f ≤ 2000 := fun f hf => s2_le hn (by omega) (fun j t _ _ => wC_le)
  have h29 : ∀ (n f t : Nat) (G2 : fx_F), f < nn → f ≠ w → t ≤ nn → fxo [188] G G2 → (∀ u, u < nn → G2 188 u = fr L E st f u) → Rn n k_M_plainPairs 29 [(2, 175), (0, w), (0, s2 (wC L E st w) nn f + sm (wC L E st w f) t), (0, f), (0, t)] [] G2 v G' → ∃ m, m < n ∧ Rn m k_M_plainPairs 4 [(2, 175), (0, w), (0, s2 (wC L E st w) nn (f + 1)), (0, f + 1), (3, 0)] [] G2 v G' := by
    intro n
    induction n using Nat.strongRecOn with
    | ind n ih =>
      intro f t G2 hf hfw ht ho hfar h
      have hm2 : mn G2 nn L E := hm.keep ho (by decide) (by decide) (by decide) (by decide)
      have q := q_M_plainPairs_29 h
      rw [hm2.2.1] at q
      have c1 := b1 f (Nat.le_of_lt hf)
      have c2 := sm_le (w := wC L E st w f) (B := 20) t (fun j _ => wC_le)
      rcases Nat.lt_or_ge t nn with z | z
      · replace q := q.2 (by rw [b_lt (by clear q; omega) (by clear q; omega)]; exact z)
        rw [b_add (show t + 1 < 4294967296 by clear q; omega), hfar t z, b_add (show s2 (wC L E st w) nn f + sm (wC L E st w f) t + 0 < 4294967296 by clear q; omega), b_add (show s2 (wC L E st w) nn f + sm (wC L E st w f) t + 1 < 4294967296 by clear q; omega)] at q
        have go : ∀ x, wC L E st w f t = x → (∃ m, m < n ∧ Rn m k_M_plainPairs 29 [(2, 175), (0, w), (0, s2 (wC L E st w) nn f + sm (wC L E st w f) t + x), (0, f), (0, t + 1)] [] G2 v G') → ∃ m, m < n ∧ Rn m k_M_plainPairs 4 [(2, 175), (0, w), (0, s2 (wC L E st w) nn (f + 1)), (0, f + 1), (3, 0)] [] G2 v G' := by
          clear q
          rintro x hx ⟨m, hm, hR⟩
          rw [← hx, Nat.add_assoc] at hR
          obtain ⟨m', hm', hR'⟩ := ih m hm f (t + 1) G2 hf hfw z ho hfar hR
          exact ⟨m', by omega, hR'⟩
        by_cases e1 : t = f
        · exact go 0 (if_neg (fun y => y.2.2.1 e1)) (q.1 e1)
        · replace q := q.2 e1
          by_cases e2 : t = w
          · exact go 0 (if_neg (fun y => y.2.1 e2)) (q.1 e2)
          · replace q := q.2 e2
            have hle := fr_le (st := st) (u := t) hN hf
            rcases Nat.lt_or_ge (fr L E st f t) 10 with y | y
            · exact go 1 (if_pos ⟨hfw, e2, e1, y⟩) (q.2 (by rw [b_lt (by clear q; omega) (by decide)]; exact y))
            · exact go 0 (if_neg (fun k => absurd k.2.2.2 (by omega))) (q.1 (by rw [b_le (by decide) (by clear q; omega)]; exact y))
      · obtain ⟨m, hm, hR⟩ := q.1 (by rw [b_le (by clear q; omega) (by clear q; omega)]; exact z)
        rw [show t = nn by clear q; omega, b_add (show f + 1 < 4294967296 by clear q; omega)] at hR
        exact ⟨m, hm, hR⟩
  have h4 : ∀ (n f : Nat) (G2 : fx_F), f ≤ nn → fxo [188] G G2 → Rn n k_M_plainPairs 4 [(2, 175), (0, w), (0, s2 (wC L E st w) nn f), (0, f), (3, 0)] [] G2 v G' → v = (0, s2 (wC L E st w) nn nn) ∧ fxo [188] G G' := by
    intro n
    induction n using Nat.strongRecOn with
    | ind n ih =>
      intro f G2 hf ho h
      have hm2 : mn G2 nn L E := hm.keep ho (by decide) (by decide) (by decide) (by decide)
      have q := q_M_plainPairs_4 h
      rw [hm2.2.1] at q
      rcases Nat.lt_or_ge f nn with z | z
      · replace q := q.2 (by rw [b_lt (by clear q; omega) (by clear q; omega)]; exact z)
        by_cases e : f = w
        · obtain ⟨m, hm, hR⟩ := q.2 e
          clear q
          rw [b_add (show f + 1 < 4294967296 by omega)] at hR
          refine ih m hm (f + 1) G2 z ho ?_
          have z0 : sm (wC L E st w f) nn = 0 := by
            have h1 : sm (wC L E st w f) nn = sm (fun _ => 0) nn := sm_congr nn (fun t _ => if_neg (fun y => y.1 e))
            have h2 := sm_le (w := fun _ => 0) (B := 0) nn (fun _ _ => Nat.le_refl 0)
            omega
          have e2 : s2 (wC L E st w) nn (f + 1) = s2 (wC L E st w) nn f := by
            show s2 (wC L E st w) nn f + sm (wC L E st w f) nn = _
            rw [z0]; rfl
          rw [e2]
          exact hR
        · obtain ⟨G3, c3, m, hm, hR⟩ := q.1 e
          clear q
          have hst2 : ∀ l, l < L → st l = msw G2 E w l := fun l hl => by
            rw [hst l hl]; unfold msw mst; rw [ho 176 _ (by decide)]
          obtain ⟨u1, u2⟩ := s_layFar (st := st) hN (Or.inl z) (by omega) hm2 hst2 c3
          obtain ⟨m', hm', hR'⟩ := h29 m f 0 G3 z e (Nat.zero_le _) (ho.tr u1) u2 hR
          exact ih m' (by omega) (f + 1) G3 z (ho.tr u1) hR'
      · obtain ⟨x1, x2⟩ := q.1 (by rw [b_le (by clear q; omega) (by clear q; omega)]; exact z)
        clear q
        subst x2
        rw [show f = nn by omega] at x1
        exact ⟨x1, ho⟩
  exact h4 m0 0 G (Nat.zero_le _) fxo.rf h0
theorem s_pairsOf (hN : nt_ok nn L E) (hb : b < nn) (hm : mn G nn L E) (hst : ∀ l, l < L → st l = mst G l) (h : Cl k_M_pairsOf [(2, 175), (0, b)] G v G') : v = (0, 2 * sm (wA L E st b) nn) ∧ fxo [188] G G' := by
  have hn := hN.1
  obtain ⟨n0, h⟩ := c_M_pairsOf h
  obtain ⟨G1, c1, m0, -, h0⟩ := q_M_pairsOf_0 h
  obtain ⟨u1, u2⟩ := s_layFar (st := st) hN (Or.inl hb) (by omega) hm (msw_none hN hst) c1
  have hm1 : mn G1 nn L E := hm.keep u1 (by decide) (by decide) (by decide) (by decide)
  have lp : ∀ (n t : Nat), t ≤ nn → Rn n k_M_pairsOf 10 [(2, 175), (0, b), (0, 2 * sm (wA L E st b) t), (0, t)] [] G1 v G' → v = (0, 2 * sm (wA L E st b) nn) ∧ G' = G1 := by
    intro n
    induction n using Nat.strongRecOn with
    | ind n ih =>
      intro t ht h
      have q := q_M_pairsOf_10 h
      rw [hm1.2.1] at q
      have c2 := sm_le (w := wA L E st b) (B := 20) t (fun j _ => wA_le)
      rcases Nat.lt_or_ge t nn with z | z
      · replace q := q.2 (by rw [b_lt (by clear q; omega) (by clear q; omega)]; exact z)
        rw [b_add (show t + 1 < 4294967296 by clear q; omega), u2 t z, b_add (show 2 * sm (wA L E st b) t + 0 < 4294967296 by clear q; omega), b_add (show 2 * sm (wA L E st b) t + 2 < 4294967296 by clear q; omega)] at q
        have go : ∀ x, 2 * wA L E st b t = x → (∃ m, m < n ∧ Rn m k_M_pairsOf 10 [(2, 175), (0, b), (0, 2 * sm (wA L E st b) t + x), (0, t + 1)] [] G1 v G') → v = (0, 2 * sm (wA L E st b) nn) ∧ G' = G1 := by
          clear q
          rintro x hx ⟨m, hm, hR⟩
          rw [← hx, ← Nat.mul_add] at hR
          exact ih m hm (t + 1) z hR
        by_cases e1 : t = b
        · exact go 0 (by rw [show wA L E st b t = 0 from if_neg (fun y => y.1 e1)]) (q.1 e1)
        · replace q := q.2 e1
          have hle := fr_le (st := st) (u := t) hN hb
          rcases Nat.lt_or_ge (fr L E st b t) 10 with y | y
          · exact go 2 (by rw [show wA L E st b t = 1 from if_pos ⟨e1, y⟩]) (q.2 (by rw [b_lt (by clear q; omega) (by decide)]; exact y))
          · exact go 0 (by rw [show wA L E st b t = 0 from if_neg (fun k => absurd k.2 (by omega))]) (q.1 (by rw [b_le (by decide) (by clear q; omega)]; exact y))
      · obtain ⟨x1, x2⟩ := q.1 (by rw [b_le (by clear q; omega) (by clear q; omega)]; exact z)
        rw [show t = nn by clear q; omega] at x1
        exact ⟨x1, x2⟩
  obtain ⟨r1, r2⟩ := lp m0 0 (Nat.zero_le _) h0
  subst r2
  exact ⟨r1, u1⟩
theorem o_pivots (h : lr F G nn L E C N R) (hF : Cl k_T_pivots [(2, 2)] F v F') (hG : Cl k_M_pivots [(2, 175)] G v2 G') : v = v2 ∧ lr F' G' nn L E C N R ∧ sF F F' ∧ sG G G' := by
  refine ⟨?_, h.kk (h_T_pivots h hF) (g_M_pivots hG)⟩
  have hN := h.1.1
  have hn := hN.1
  have hL := hN.2.1
  have hb := sc_lt hN h.2.2.2.1.2
  have hI := h.mgi
  obtain ⟨nF, hF⟩ := c_T_pivots hF
  obtain ⟨nG, hG⟩ := c_M_pivots hG
  obtain ⟨n1, F1, c1, x1, x2⟩ := q_T_pivots_0 hF
  obtain ⟨m1, G1, d1, mG, hmG, hS⟩ := q_M_pivots_0 hG
  obtain ⟨nP, c1⟩ := c_Gr_findPivots c1
  obtain ⟨F2, c2, mF, hmF, hR⟩ := q_Gr_findPivots_0 c1
  generalize hss : F (F 2 13) 2 = s at *
  have hs31 : s < 2147483648 := by omega
  obtain ⟨-, k1, k2⟩ := s_Grsee hN hs31 h.2.1.1 c2
  have hc2 : cn F2 nn L E := h.2.1.1.keep k1 (by decide) (by decide) (by decide)
  obtain ⟨e1, u1⟩ := s_plainPairs hN hI.1 (msw_none hN hI.2.1) d1
  have eA : s2 (wC L E (bts s) 4294967295) nn nn = s2 (wA L E (bts s)) nn nn := s2_congr (fun f t hf ht => by
    unfold wC wA
    by_cases q : t ≠ f ∧ fr L E (bts s) f t < 10
    · rw [if_pos q, if_pos ⟨by omega, by omega, q⟩]
    · rw [if_neg q, if_neg (fun z => q z.2.2)])
  rw [eA] at e1
  cases e1
  have lp : ∀ (n nG : Nat) (F3 G3 : fx_F) (bits l : Nat), l ≤ nn → fxo [42] F2 F3 → fxo [188] G G3 → Rn n k_Gr_findPivots 9 [(2, 40), (0, s), (0, bits), (0, l)] [] F3 (0, n1) F1 → Rn nG k_M_pivots 10 [(2, 175), (0, bits), (0, s2 (wA L E (bts s)) nn nn), (0, l)] [] G3 v2 G' → ((0, n1) : fx_V) = v2 := by
    intro n
    induction n using Nat.strongRecOn with
    | ind n ih =>
      intro nG F3 G3 bits l hl hoF hoG hA hB
      have hc3 := hc2.keep hoF (by decide) (by decide) (by decide)
      have hI3 := hI.keep hoG (by decide) (by decide) (by decide) (by decide) (by decide)
      have q := q_Gr_findPivots_9 hA
      have qg := q_M_pivots_10 hB
      rw [hc3.1] at q
      rw [hI3.1.2.1] at qg
      rcases Nat.lt_or_ge l nn with z | z
      · have zz : s_lt l nn := by rw [b_lt (by clear q qg; omega) (by clear q qg; omega)]; exact z
        obtain ⟨y, F4, c4, q1, q2⟩ := q.2 zz
        obtain ⟨y2, G4, d4, y3, G5, d5, g1, g2⟩ := qg.2 zz
        clear q qg
        rw [b_add (show l + 1 < 4294967296 by clear q1 q2 g1 g2; omega)] at q1 q2 g1 g2
        obtain ⟨x, w1, w2, w3⟩ := s_parts hN hs31 z hc3 (fun r hr => by
          intro t ht
          have := k2 r hr t ht
          show (F3 41 (10 * r + t) ≠ 4294967295 → ds L E (bts s) r (F3 41 (10 * r + t)) t) ∧ ∀ d, ds L E (bts s) r d t → F3 41 (10 * r + t) = d
          rw [hoF 41 _ (by decide)]
          exact this) c4
        cases w1
        obtain ⟨w4, w5⟩ := s_plainPairs (st := stw E (bts s) l) hN hI3.1 (fun i hi => by unfold stw msw; rw [hI3.2.1 i hi]) d4
        cases w4
        have hI4 := hI3.keep w5 (by decide) (by decide) (by decide) (by decide) (by decide)
        obtain ⟨w6, w7⟩ := s_pairsOf hN z hI4.1 hI4.2.1 d5
        cases w6
        have hsum := wA_sum (st := bts s) hN z
        obtain ⟨p1, p2⟩ := prt_iff (st := bts s) (v := l) hN
        have hle := s2_le (w := wC L E (bts s) l) hn hn (fun j t _ _ => wC_le)
        have hle2 := s2_le (w := wA L E (bts s)) hn hn (fun j t _ _ => wA_le)
        have hsub : i_sub (s2 (wA L E (bts s)) nn nn) (2 * sm (wA L E (bts s) l) nn) = s2 (wC L E (bts s) l) nn nn := by
          rw [b_sub (by clear q1 q2 g1 g2; omega) (by clear q1 q2 g1 g2; omega)]
          clear q1 q2 g1 g2
          omega
        rw [hsub] at g1 g2
        have hoG5 := (hoG.tr w5).tr w7
        by_cases pp : prt nn L E (bts s) l
        · obtain ⟨m, hm, hR⟩ := q2 (w2.mpr pp)
          obtain ⟨m', hm', hS⟩ := g2 (by rw [b_lt (by clear q1 q2 g1 g2; omega) (by clear q1 q2 g1 g2; omega)]; exact p2.mpr pp)
          exact ih m hm m' F4 G5 _ (l + 1) z (hoF.tr w3) hoG5 hR hS
        · obtain ⟨m, hm, hR⟩ := q1 (Classical.byContradiction (fun k => pp (w2.mp k)))
          obtain ⟨m', hm', hS⟩ := g1 (by rw [b_le (by clear q1 q2 g1 g2; omega) (by clear q1 q2 g1 g2; omega)]; exact Nat.le_of_not_lt (fun k => pp (p2.mp k)))
          exact ih m hm m' F4 G5 _ (l + 1) z (hoF.tr w3) hoG5 hR hS
      · have zz : s_le nn l := by rw [b_le (by clear q qg; omega) (by clear q qg; omega)]; exact z
        exact (q.1 zz).1.trans (qg.1 zz).1.symm
  rw [x1]
  exact lp mF mG F2 G1 0 0 (Nat.zero_le _) fxo.rf u1 hR hS
end PIVC
