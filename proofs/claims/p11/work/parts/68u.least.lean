/-! The least used channel -/
theorem cnt_nth {p : Nat → Bool} : ∀ {N j : Nat}, j < cnt p N → ∃ c, c < N ∧ p c = true ∧ cnt p c = j
  | 0, j, h => absurd h (Nat.not_lt_zero _)
  | N + 1, j, h => by
    have h : j < cnt p N + (if p N then 1 else 0) := h
    by_cases e : j < cnt p N
    · obtain ⟨c, h1, h2, h3⟩ := cnt_nth e
      exact ⟨c, by omega, h2, h3⟩
    · cases hp : p N with
      | false => rw [hp, if_neg (by decide)] at h; omega
      | true => rw [hp, if_pos rfl] at h; exact ⟨N, by omega, hp, by omega⟩
theorem cnt_up {p : Nat → Bool} {k : Nat} : ∀ j, cnt p k ≤ cnt p (k + j)
  | 0 => Nat.le_refl _
  | j + 1 => Nat.le_trans (cnt_up j) (by show cnt p (k + j) ≤ cnt p (k + j) + _; omega)
theorem cnt_up2 {p : Nat → Bool} {k m : Nat} (h : k ≤ m) : cnt p k ≤ cnt p m := by
  have := cnt_up (p := p) (k := k) (m - k)
  rw [show k + (m - k) = m by omega] at this
  exact this
theorem cnt_none {p : Nat → Bool} {k m c : Nat} (he : cnt p k = cnt p m) (h1 : k ≤ c) (h2 : c < m) : p c = false := by
  cases hp : p c with
  | false => rfl
  | true =>
    have a := cnt_up2 (p := p) h1
    have b := cnt_up2 (p := p) (show c + 1 ≤ m from h2)
    have d : cnt p (c + 1) = cnt p c + 1 := by
      show cnt p c + (if p c then 1 else 0) = _
      rw [hp, if_pos rfl]
    omega
section LEAST
variable {nn L s p g up : Nat} {E : Nat → Nat} {st u : Nat → Bool} {v : fx_V} {F' : fx_F}
/-- the class lists each switch's channels -/
def ocl (F : fx_F) (nn L : Nat) (E : Nat → Nat) : Prop := (∀ w, w ≤ nn → F 6 w ≤ 40) ∧ ∀ w, w < nn → F 6 (w + 1) = F 6 w + cnt (fun c => Nat.beq (E c) w) (2 * L) ∧ ∀ c, c < 2 * L → E c = w → F 7 (F 6 w + cnt (fun c => Nat.beq (E c) w) c) = c
theorem ocl.keep {F F' : fx_F} (h : ocl F nn L E) {S : List Nat} (ho : fxo S F F') (h6 : 6 ∉ S) (h7 : 7 ∉ S) : ocl F' nn L E := ⟨fun w hw => by rw [ho 6 _ h6]; exact h.1 w hw, fun w hw => by
  rw [ho 6 _ h6, ho 6 _ h6]
  exact ⟨(h.2 w hw).1, fun c hc he => by rw [ho 7 _ h7]; exact (h.2 w hw).2 c hc he⟩⟩
/-- the channels that go on from node w in state t -/
def lq (L : Nat) (E : Nat → Nat) (st u : Nat → Bool) (g w t : Nat) (c : Nat) : Prop := E c = w ∧ lds L E st u g c t
theorem s_cleast (hN : nt_ok nn L E) (hg : g < nn) (hs : s < 2147483648) (hp : 24 ≤ p) {w t : Nat} (hw : w < nn) (ht : t < 2) {F : fx_F} (hcn : cn F nn L E) (hol : ocl F nn L E) (hr : rcs F nn L E p up s) (hus : ∀ c, c < 2 * L → F (p + 3) c < 2147483648) (h : Cl k_Ro_leastUsed [(2, p), (0, g), (0, w), (0, t)] F v F') : F' = F ∧ v = (0, lus (lq L E (bts s) (bts up) g w t) (F (p + 3)) (2 * L)) := by
  obtain ⟨n, h⟩ := c_Ro_leastUsed h
  obtain ⟨m, hm2, hR⟩ := q_Ro_leastUsed_0 h
  have hL := hN.2.1
  have hn := hN.1
  obtain ⟨o1, o2⟩ := hol.2 w hw
  have ob := hol.1 (w + 1) (by omega)
  generalize hcp : (fun c => Nat.beq (E c) w) = cp at o1 o2
  have hcp2 : ∀ c, cp c = true ↔ E c = w := fun c => by rw [← hcp]; exact rx_beq
  have lp : ∀ (n k : Nat), Rn n k_Ro_leastUsed 14 [(2, p), (0, g), (0, w), (0, t), (0, lus (lq L E (bts s) (bts up) g w t) (F (p + 3)) k), (0, F 6 w + cnt cp k), (3, 0)] [] F v F' → k ≤ 2 * L → F' = F ∧ v = (0, lus (lq L E (bts s) (bts up) g w t) (F (p + 3)) (2 * L)) := by
    intro n
    induction n using Nat.strongRecOn with
    | ind n ih =>
      intro k h hk
      have hck := cnt_up2 (p := cp) hk
      have q := q_Ro_leastUsed_14 h
      rw [b_add (show w + 1 < 4294967296 by clear q; omega), o1] at q
      by_cases e : cnt cp k = cnt cp (2 * L)
      · obtain ⟨x1, x2⟩ := q.1 (by rw [b_le (by clear q; omega) (by clear q; omega)]; clear q; omega)
        clear q
        refine ⟨x2, x1.trans ?_⟩
        rw [lus_gap2 (us := F (p + 3)) hk (fun c h1 h2 hq => ?_)]
        have := cnt_none e h1 h2
        rw [(hcp2 c).mpr hq.1] at this
        cases this
      · obtain ⟨n1, F1, c1, q1, q2⟩ := q.2 (by rw [b_lt (by clear q; omega) (by clear q; omega)]; clear q; omega)
        clear q
        obtain ⟨c, hc, hpc, hcc⟩ := cnt_nth (show cnt cp k < cnt cp (2 * L) by clear q1 q2; omega)
        have hEc := (hcp2 c).mp hpc
        have h7 : F 7 (F 6 w + cnt cp k) = c := by rw [← hcc]; exact o2 c hc hEc
        have hkc : k ≤ c := by
          rcases Nat.lt_or_ge c k with z | z
          · have a := cnt_up2 (p := cp) (show c + 1 ≤ k from z)
            have d : cnt cp (c + 1) = cnt cp c + 1 := by
              show cnt cp c + (if cp c then 1 else 0) = _
              rw [hpc, if_pos rfl]
            clear q1 q2
            omega
          · exact z
        have d : cnt cp (c + 1) = cnt cp k + 1 := by
          show cnt cp c + (if cp c then 1 else 0) = _
          rw [hpc, if_pos rfl, hcc]
        have hlk : lus (lq L E (bts s) (bts up) g w t) (F (p + 3)) k = lus (lq L E (bts s) (bts up) g w t) (F (p + 3)) c := (lus_gap2 hkc (fun c' h1 h2 hq => by
          have := cnt_none (p := cp) (k := k) (m := c) hcc.symm h1 h2
          rw [(hcp2 c').mpr hq.1] at this
          cases this)).symm
        have ei : i_add (F 6 w + cnt cp k) 1 = F 6 w + cnt cp (c + 1) := by
          rw [b_add (by clear q1 q2; omega), d]; rfl
        rw [h7] at c1 q2
        rw [ei, hlk] at q1 q2
        obtain ⟨a1, a2⟩ := s_leadsOn hN hg hs hp hc ht hcn hr c1
        subst a1
        have hl := lus_q (Q := lq L E (bts s) (bts up) g w t) (us := F1 (p + 3)) c
        have hc1 : c + 1 ≤ 2 * L := hc
        rcases a2 with ⟨e1, e2⟩ | ⟨e1, e2⟩
        · cases e1
          have hQ : lq L E (bts s) (bts up) g w t c := ⟨hEc, e2⟩
          obtain ⟨q3, q4⟩ := q2 (by decide)
          by_cases y : lus (lq L E (bts s) (bts up) g w t) (F1 (p + 3)) c = 4294967295
          · obtain ⟨m, hm, hR⟩ := q3 y
            exact ih m hm (c + 1) (by rw [lus_y hQ (Or.inl y)]; exact hR) hc1
          · obtain ⟨q5, q6⟩ := q4 y
            have hl2 := (hl.resolve_left y).1
            have b1 := hus c hc
            have b2 := hus _ (Nat.lt_trans hl2 hc)
            rcases Nat.lt_or_ge (F1 (p + 3) c) (F1 (p + 3) (lus (lq L E (bts s) (bts up) g w t) (F1 (p + 3)) c)) with z | z
            · obtain ⟨m, hm, hR⟩ := q6 (by rw [b_lt b1 b2]; exact z)
              exact ih m hm (c + 1) (by rw [lus_y hQ (Or.inr z)]; exact hR) hc1
            · obtain ⟨m, hm, hR⟩ := q5 (by rw [b_le b2 b1]; exact z)
              exact ih m hm (c + 1) (by rw [lus_n (fun _ => ⟨y, z⟩)]; exact hR) hc1
        · cases e1
          obtain ⟨m, hm, hR⟩ := q1 rfl
          exact ih m hm (c + 1) (by rw [lus_n (fun z => absurd z.2 e2)]; exact hR) hc1
  exact lp m 0 hR (Nat.zero_le _)
theorem s_mleast (hN : nt_ok nn L E) (hg : g < nn) {w t : Nat} (hw : w < nn) (ht : t < 2) {F : fx_F} (hI : mgi F nn L E st u) (hr : mrow nn L E st u g (fun x => F 193 (20 * g + x))) (hus : ∀ c, c < 2 * L → F 197 c < 2147483648) (h : Cl k_M_leastUsed [(2, 175), (0, g), (0, w), (0, t)] F v F') : F' = F ∧ v = (0, lus (lq L E st u g w t) (F 197) (2 * L)) := by
  obtain ⟨n, h⟩ := c_M_leastUsed h
  obtain ⟨m, hm2, hR⟩ := q_M_leastUsed_0 h
  have hL := hN.2.1
  have hn := hN.1
  have lp : ∀ (n k : Nat), Rn n k_M_leastUsed 6 [(2, 175), (0, g), (0, w), (0, t), (0, lus (lq L E st u g w t) (F 197) k), (0, k)] [] F v F' → k ≤ 2 * L → F' = F ∧ v = (0, lus (lq L E st u g w t) (F 197) (2 * L)) := by
    intro n
    induction n using Nat.strongRecOn with
    | ind n ih =>
      intro k h hk
      have q := q_M_leastUsed_6 h
      rw [hI.1.2.2.1, b_mul (show 2 * L < 4294967296 by clear q; omega)] at q
      rcases Nat.lt_or_ge k (2 * L) with hlt | hge
      · replace q := q.2 (by rw [b_lt (by clear q; omega) (by clear q; omega)]; exact hlt)
        rw [mFr hI.1 hL hlt, b_add (show k + 1 < 4294967296 by clear q; omega)] at q
        have hk1 : k + 1 ≤ 2 * L := hlt
        by_cases e : E k = w
        · obtain ⟨n1, F1, c1, q1, q2⟩ := q.2 e
          clear q
          obtain ⟨a1, a2⟩ := s_isNext hN hg hlt ht hI hr c1
          subst a1
          have hl := lus_q (Q := lq L E st u g w t) (us := F1 197) k
          rcases a2 with ⟨e1, e2⟩ | ⟨e1, e2⟩
          · cases e1
            have hQ : lq L E st u g w t k := ⟨e, e2⟩
            obtain ⟨q3, q4⟩ := q1 (by decide)
            by_cases y : lus (lq L E st u g w t) (F1 197) k = 4294967295
            · obtain ⟨m, hm, hR⟩ := q3 (by rw [y, b_neg (by decide)]; decide)
              exact ih m hm (k + 1) (by rw [lus_y hQ (Or.inl y)]; exact hR) hk1
            · have hl2 := (hl.resolve_left y).1
              have hl3 : lus (lq L E st u g w t) (F1 197) k < 2147483648 := by clear q1 q2 q3 q4; omega
              obtain ⟨q5, q6⟩ := q4 (by rw [b_pos (Nat.lt_trans hl3 (by decide))]; exact hl3)
              have b1 := hus k hlt
              have b2 := hus _ (Nat.lt_trans hl2 hlt)
              rcases Nat.lt_or_ge (F1 197 k) (F1 197 (lus (lq L E st u g w t) (F1 197) k)) with z | z
              · obtain ⟨m, hm, hR⟩ := q6 (by rw [b_lt b1 b2]; exact z)
                exact ih m hm (k + 1) (by rw [lus_y hQ (Or.inr z)]; exact hR) hk1
              · obtain ⟨m, hm, hR⟩ := q5 (by rw [b_le b2 b1]; exact z)
                exact ih m hm (k + 1) (by rw [lus_n (fun _ => ⟨y, z⟩)]; exact hR) hk1
          · cases e1
            obtain ⟨m, hm, hR⟩ := q2 rfl
            exact ih m hm (k + 1) (by rw [lus_n (fun z => absurd z.2 e2)]; exact hR) hk1
        · obtain ⟨m, hm, hR⟩ := q.1 e
          clear q
          exact ih m hm (k + 1) (by rw [lus_n (fun z => absurd z.1 e)]; exact hR) hk1
      · obtain ⟨x1, x2⟩ := q.1 (by rw [b_le (by clear q; omega) (by clear q; omega)]; exact hge)
        clear q
        have : k = 2 * L := by omega
        subst this
        exact ⟨x2, x1⟩
  exact lp m 0 hR (Nat.zero_le _)
end LEAST
