/-! Both worlds at once -/
noncomputable def lw_alln (p : Nat → Bool) (n : Nat) : Bool := Nat.rec true (fun i ih => bif p i then ih else false) n
theorem lw_alln_ok {p : Nat → Bool} : ∀ {n : Nat}, lw_alln p n = true → ∀ i, i < n → p i = true
  | 0, _, i, hi => absurd hi (Nat.not_lt_zero _)
  | n + 1, h, i, hi => by
    replace h : (bif p n then lw_alln p n else false) = true := h
    cases hp : p n with
    | false => rw [hp] at h; cases h
    | true =>
      rw [hp, cond_true] at h
      rcases Nat.lt_or_ge i n with hl | hl
      · exact lw_alln_ok h i hl
      · rw [show i = n by omega]; exact hp
noncomputable def lw_sub1 (w : ax_W) (l2 l1 : List (Nat × ax_Y)) (i : Nat) : Bool := match ax_at l2 i, ax_at l1 i with
  | some t, some s => ax_sub w t s
  | _, _ => false
noncomputable def lw_subR (w2 w1 : ax_W) (g : Nat) : Bool := match rx_nth w2.2.1 g, rx_nth w1.2.1 g with
  | some (k2, n2, l2), some (k1, n1, l1) => Nat.beq k2 k1 && (Nat.beq n2 n1 && lw_alln (lw_sub1 w1 l2 l1) n2)
  | _, _ => false
noncomputable def lw_isC (g : Nat) : Bool := Nat.blt g 44 && !(Nat.beq g 11)
noncomputable def lw_subs (w2 w1 : ax_W) (S : Nat → Bool) : Bool := lw_alln (fun g => bif S g then lw_subR w2 w1 g else true) 75
theorem lw_mem_md {md : List (Nat × Nat)} {S : Nat → Bool} {g i : Nat} (h : md.all (fun x => S x.1) = true) (hg : S g = false) : ax_mem md g i = false := by
  refine Bool.eq_false_iff.mpr (fun z => ?_)
  obtain ⟨x, hx, hz⟩ := List.any_eq_true.mp z
  have h1 := List.all_eq_true.mp h x hx
  have h2 : x.1 = g := rx_beq.mp (rx_and2.mp hz).1
  rw [h2, hg] at h1
  cases h1
theorem lw_mrg {w1 w2 : ax_W} {hp hp' : rx_H} {md : List (Nat × Nat)} {S : Nat → Bool} (hw : w2.1 = w1.1) (h1 : ax_HT w1 hp) (h2 : ax_HT w2 hp') (hr : ax_HR w2 md hp hp') (hmd : md.all (fun x => S x.1) = true) (hS : lw_subs w2 w1 S = true) (hN : w1.2.1.length ≤ 75) : ax_HT w1 hp' := by
  refine ⟨by rw [hr.1]; exact h1.1, fun q g hq => ?_⟩
  obtain ⟨k, n, tl, f, b1, b2, b3, b4⟩ := h1.2 q g hq
  have hq2 : w2.1[q]? = some g := by rw [hw]; exact hq
  cases hSg : S g with
  | true =>
    obtain ⟨k', n', tl', f', c1, c2, c3, c4⟩ := h2.2 q g hq2
    have hgN : g < 75 := Nat.lt_of_lt_of_le (List.getElem?_eq_some_iff.mp b1).1 hN
    have hs : (bif S g then lw_subR w2 w1 g else true) = true := lw_alln_ok hS g hgN
    rw [hSg, cond_true] at hs
    unfold lw_subR at hs
    rw [rx_nth_eq, rx_nth_eq, c1, b1] at hs
    dsimp only at hs
    obtain ⟨s1, hs2⟩ := rx_and2.mp hs
    obtain ⟨s2, hs3⟩ := rx_and2.mp hs2
    have s1' : k' = k := rx_beq.mp s1
    have s2' : n' = n := rx_beq.mp s2
    clear hs hs2 s1 s2
    subst s1'
    subst s2'
    refine ⟨k', n', tl, f', b1, c2, c3, fun i v hv => ?_⟩
    obtain ⟨t, t1, t2⟩ := c4 i v hv
    have hi : i < n' := by rw [← c3]; exact (List.getElem?_eq_some_iff.mp hv).1
    have hsi := lw_alln_ok hs3 i hi
    unfold lw_sub1 at hsi
    rw [t1] at hsi
    cases hu : ax_at tl i with
    | none => rw [hu] at hsi; cases hsi
    | some u =>
      rw [hu] at hsi
      have t3 : ax_ok w1 t v := by
        unfold ax_ok at t2 ⊢
        rw [← hw]
        exact t2
      exact ⟨u, rfl, ax_sub_ty hsi t3⟩
  | false =>
    obtain ⟨l', e1, e2⟩ := hr.2 q g hq2 k n f b2
    have el : l' = f := List.ext_getElem? (fun i => e2 i (lw_mem_md hmd hSg))
    subst el
    exact ⟨k, n, tl, l', b1, e1, b3, b4⟩
theorem lw_ay {w : ax_W} {md : List (Nat × Nat)} {hp hp' : rx_H} {q g i v : Nat} (hR : ax_HR w md hp hp') (hg : w.1[q]? = some g) (hm : ax_mem md g i = false) (h : ay_at hp q i = some v) : ay_at hp' q i = some v := by
  cases e : rx_hg hp q with
  | none =>
    unfold ay_at at h
    rw [e] at h
    cases h
  | some cl =>
    obtain ⟨k, n, f⟩ := cl
    rw [ay_eq e] at h
    obtain ⟨l', e1, e2⟩ := hR.2 q g hg k n f e
    rw [ay_eq e1, e2 i hm]
    exact h
/-- names that stand on other regions -/
theorem lw_xd {w : ax_W} {X : ax_X} (hX : ax_XD w X) {x : Nat} {vs : List Nat} {dl md : List (Nat × Nat)} {S : Nat → Bool} {hp hp' : rx_H} (hd : w.2.2[x]? = some dl) (hdl : dl.all (fun d => !(S d.1)) = true) (hmd : md.all (fun y => S y.1) = true) (hR : ax_HR w md hp hp') (h : X x vs hp) : X x vs hp' := by
  refine hX x vs dl md hp hp' hd (List.all_eq_true.mpr (fun d hdm => ?_)) hR h
  have h1 := List.all_eq_true.mp hdl d hdm
  cases hz : md.any (fun y => Nat.beq y.1 d.1 && (Nat.beq y.2 d.2 || (Nat.beq y.2 999 || Nat.beq d.2 999))) with
  | false => rfl
  | true =>
    obtain ⟨y, hy, hq⟩ := List.any_eq_true.mp hz
    have h2 := List.all_eq_true.mp hmd y hy
    have h3 : y.1 = d.1 := rx_beq.mp (rx_and2.mp hq).1
    rw [h3] at h2
    rw [h2] at h1
    cases h1
theorem lw_w0 : ax_wM0.1 = ax_wC.1 := rfl
theorem lw_w1 : ax_wM1.1 = ax_wC.1 := rfl
theorem lw_sC0 : lw_subs ax_wC ax_wM0 lw_isC = true := by decide +kernel
theorem lw_sC1 : lw_subs ax_wC ax_wM1 lw_isC = true := by decide +kernel
theorem lw_s0C : lw_subs ax_wM0 ax_wC (fun g => !(lw_isC g)) = true := by decide +kernel
theorem lw_s1C : lw_subs ax_wM1 ax_wC (fun g => !(lw_isC g)) = true := by decide +kernel
/-- what holds of the heap between calls, but for the two sizes -/
noncomputable def lw_XM5 (b : Nat) (hp : rx_H) : Prop := ax_XM b 0 [80] hp ∧ ax_XM b 1 [] hp ∧ ax_XM b 2 [] hp ∧ ax_XM b 25 [] hp ∧ ax_XM b 26 [] hp
noncomputable def lw_B (b : Nat) (wM : ax_W) (hp : rx_H) : Prop := ax_HT ax_wC hp ∧ ax_XC 0 [80] hp ∧ ax_HT wM hp ∧ lw_XM5 b hp
/-- all that the law needs of a bank's world -/
noncomputable def lw_W (b : Nat) (wM : ax_W) : Prop := wM.1 = ax_wC.1 ∧ lw_subs ax_wC wM lw_isC = true ∧ lw_subs wM ax_wC (fun g => !(lw_isC g)) = true ∧ wM.2.1.length ≤ 75 ∧ ax_XD wM (ax_XM b) ∧ (∀ x ∈ [0, 1, 2, 25, 26], ∃ dl, wM.2.2[x]? = some dl ∧ dl.all (fun d => !(lw_isC d.1)) = true)
theorem lw_W0 : lw_W 0 ax_wM0 := ⟨rfl, lw_sC0, lw_s0C, by decide +kernel, ax_XM0_ok, fun x hx => by
  simp only [List.mem_cons, List.not_mem_nil, or_false] at hx
  rcases hx with rfl | rfl | rfl | rfl | rfl
  · exact ⟨_, rfl, by decide +kernel⟩
  · exact ⟨_, rfl, by decide +kernel⟩
  · exact ⟨_, rfl, by decide +kernel⟩
  · exact ⟨_, rfl, by decide +kernel⟩
  · exact ⟨_, rfl, by decide +kernel⟩⟩
theorem lw_W1 : lw_W 1 ax_wM1 := ⟨rfl, lw_sC1, lw_s1C, by decide +kernel, ax_XM1_ok, fun x hx => by
  simp only [List.mem_cons, List.not_mem_nil, or_false] at hx
  rcases hx with rfl | rfl | rfl | rfl | rfl
  · exact ⟨_, rfl, by decide +kernel⟩
  · exact ⟨_, rfl, by decide +kernel⟩
  · exact ⟨_, rfl, by decide +kernel⟩
  · exact ⟨_, rfl, by decide +kernel⟩
  · exact ⟨_, rfl, by decide +kernel⟩⟩
section LWI
variable {b : Nat} {wM : ax_W} {hp hp' : rx_H} {md : List (Nat × Nat)}
/-- a call of the class -/
theorem lw_cls (w : lw_W b wM) (hB : lw_B b wM hp) (h1 : ax_HT ax_wC hp') (h2 : ax_XC 0 [80] hp') (h3 : ax_HR ax_wC md hp hp') (hmd : md.all (fun x => lw_isC x.1) = true) : lw_B b wM hp' := by
  obtain ⟨b1, b2, b3, b4, b5, b6, b7, b8⟩ := hB
  obtain ⟨w1, w2, w3, w4, w5, w6⟩ := w
  have hR : ax_HR wM md hp hp' := ay_HRw w1 h3
  have kx : ∀ x vs, x ∈ [0, 1, 2, 25, 26] → ax_XM b x vs hp → ax_XM b x vs hp' := fun x vs hx h => by
    obtain ⟨dl, d1, d2⟩ := w6 x hx
    exact lw_xd w5 d1 d2 hmd hR h
  exact ⟨h1, h2, lw_mrg w1.symm b3 h1 h3 hmd w2 w4, kx 0 [80] (by decide) b4, kx 1 [] (by decide) b5, kx 2 [] (by decide) b6, kx 25 [] (by decide) b7, kx 26 [] (by decide) b8⟩
/-- a call of the reference, which may end in the other bank -/
theorem lw_mod {b' : Nat} {wM' : ax_W} (w' : lw_W b' wM') (hB : lw_B b wM hp) (h1 : ax_HT wM' hp') (h2 : lw_XM5 b' hp') (h3 : ax_HR ax_wC md hp hp') (hmd : md.all (fun x => !(lw_isC x.1)) = true) : lw_B b' wM' hp' := by
  obtain ⟨b1, b2, b3, b4⟩ := hB
  obtain ⟨w1, w2, w3, w4, w5, w6⟩ := w'
  have h0 : ax_XC 0 [80] hp' := lw_xd (S := fun g => !(lw_isC g)) ax_XC_ok (x := 0) rfl (by decide +kernel) hmd h3 b2
  exact ⟨lw_mrg (S := fun g => !(lw_isC g)) w1 b1 h1 (ay_HRw w1 h3) hmd w3 (by decide +kernel), h0, h1, h2⟩
theorem lw_rcT (h : ax_HT ax_wC hp) : rx_obj hp 10 10 = true := by
  obtain ⟨k, n, tl, f, b1, b2, b3, b4⟩ := h.2 0 0 rfl
  have e : (ax_wC.2.1[0]?).map (fun z => z.1) = some 10 := rfl
  rw [b1] at e
  have e : k = 10 := Option.some.inj e
  subst e
  show (match rx_hg hp 0 with
    | some (t, _, _) => Nat.beq t 10
    | none => false) = true
  rw [b2]
  rfl
theorem lw_rcM (h : ax_HT ax_wC hp) : rx_obj hp 11 702 = true := by
  obtain ⟨k, n, tl, f, b1, b2, b3, b4⟩ := h.2 173 11 rfl
  have e : (ax_wC.2.1[11]?).map (fun z => z.1) = some 11 := rfl
  rw [b1] at e
  have e : k = 11 := Option.some.inj e
  subst e
  show (match rx_hg hp 173 with
    | some (t, _, _) => Nat.beq t 11
    | none => false) = true
  rw [b2]
  rfl
end LWI
/-- a cell that a call leaves alone -/
theorem lw_ayE {w : ax_W} {md : List (Nat × Nat)} {hp hp' : rx_H} {q g i : Nat} (hR : ax_HR w md hp hp') (hT : ay_ex hp q) (hg : w.1[q]? = some g) (hm : ax_mem md g i = false) : ay_at hp' q i = ay_at hp q i := by
  obtain ⟨k, n, f, e⟩ := hT
  obtain ⟨l', e1, e2⟩ := hR.2 q g hg k n f e
  rw [ay_eq e1, ay_eq e, e2 i hm]
noncomputable def lw_x30C (g : Nat) (hp : rx_H) : Prop := pz_x30 g (ay_at hp 8 1) (ay_at hp 9)
noncomputable def lw_x30M (g : Nat) (hp : rx_H) : Prop := pz_x30 g (ay_at hp 173 11) (ay_at hp 183)
noncomputable def lw_31 (hp : rx_H) : Prop := pz_x31 (ay_at hp 10 6) (ay_at hp 10 7) (ay_at hp 10 10) (ay_at hp 10 11)
noncomputable def lw_F (hp : rx_H) : Prop := ay_at hp 8 3 = ay_at hp 173 20 ∧ ay_at hp 8 4 = ay_at hp 173 21
noncomputable def lw_S (hp : rx_H) : Prop := (∃ g, g % 4 = 1 ∧ lw_x30C g hp ∧ lw_x30M g hp) ∧ lw_31 hp ∧ lw_F hp
/-- .. and with them -/
noncomputable def lw_K (b : Nat) (wM : ax_W) (hp : rx_H) : Prop := lw_B b wM hp ∧ lw_S hp
noncomputable def lw_J (hp : rx_H) : Prop := lw_K 0 ax_wM0 hp ∨ lw_K 1 ax_wM1 hp
/-- the other side's cells -/
theorem lw_sameM {hp hp' : rx_H} {md : List (Nat × Nat)} (hT : ax_HT ax_wC hp) (hR : ax_HR ax_wC md hp hp') (m1 : md.all (fun x => lw_isC x.1) = true) : (∀ i, ay_at hp' 173 i = ay_at hp 173 i) ∧ ay_at hp' 183 = ay_at hp 183 :=
  ⟨fun i => lw_ayE (g := 11) hR (ax_cellT hT rfl) rfl (lw_mem_md m1 rfl), funext (fun i => lw_ayE (g := 53) hR (ax_cellT hT (g := 53) rfl) rfl (lw_mem_md m1 rfl))⟩
theorem lw_sameC {hp hp' : rx_H} {md : List (Nat × Nat)} (hT : ax_HT ax_wC hp) (hR : ax_HR ax_wC md hp hp') (m1 : md.all (fun x => !(lw_isC x.1)) = true) : (∀ i, ay_at hp' 8 i = ay_at hp 8 i) ∧ ay_at hp' 9 = ay_at hp 9 ∧ (∀ i, ay_at hp' 10 i = ay_at hp 10 i) :=
  ⟨fun i => lw_ayE (g := 2) hR (ax_cellT hT (g := 2) rfl) rfl (lw_mem_md (S := fun g => !(lw_isC g)) m1 rfl), funext (fun i => lw_ayE (g := 20) hR (ax_cellT hT (g := 20) rfl) rfl (lw_mem_md (S := fun g => !(lw_isC g)) m1 rfl)), fun i => lw_ayE (g := 1) hR (ax_cellT hT (g := 1) rfl) rfl (lw_mem_md (S := fun g => !(lw_isC g)) m1 rfl)⟩
noncomputable def lw_nm (md : List (Nat × Nat)) (g i : Nat) : Bool := !(ax_mem md g i)
theorem lw_nm_ok {md : List (Nat × Nat)} {g i : Nat} (h : lw_nm md g i = true) : ax_mem md g i = false := by
  unfold lw_nm at h
  cases hz : ax_mem md g i with
  | false => rfl
  | true => rw [hz] at h; cases h
noncomputable def lw_ng (md : List (Nat × Nat)) (g : Nat) : Bool := md.all (fun x => !(Nat.beq x.1 g))
theorem lw_ng_ok {md : List (Nat × Nat)} {g i : Nat} (h : lw_ng md g = true) : ax_mem md g i = false := lw_mem_md (S := fun x => !(Nat.beq x g)) h (by show (!(Nat.beq g g)) = false; rw [show Nat.beq g g = true from rx_beq.mpr rfl]; rfl)
noncomputable def lw_kC (md : List (Nat × Nat)) : Bool := md.all (fun x => lw_isC x.1) && (lw_nm md 2 1 && (lw_nm md 2 3 && (lw_nm md 2 4 && (lw_nm md 1 6 && (lw_nm md 1 7 && (lw_nm md 1 10 && (lw_nm md 1 11 && lw_ng md 20)))))))
noncomputable def lw_kM (md : List (Nat × Nat)) : Bool := md.all (fun x => !(lw_isC x.1)) && (lw_nm md 11 11 && (lw_nm md 11 20 && (lw_nm md 11 21 && lw_ng md 53)))
theorem lw_SC {hp hp' : rx_H} {md : List (Nat × Nat)} (hS : lw_S hp) (hT : ax_HT ax_wC hp) (hR : ax_HR ax_wC md hp hp') (hk : lw_kC md = true) : lw_S hp' := by
  obtain ⟨m1, hk⟩ := rx_and2.mp hk
  obtain ⟨k1, hk⟩ := rx_and2.mp hk
  obtain ⟨k2, hk⟩ := rx_and2.mp hk
  obtain ⟨k3, hk⟩ := rx_and2.mp hk
  obtain ⟨k4, hk⟩ := rx_and2.mp hk
  obtain ⟨k5, hk⟩ := rx_and2.mp hk
  obtain ⟨k7, hk⟩ := rx_and2.mp hk
  obtain ⟨k8, k6⟩ := rx_and2.mp hk
  obtain ⟨s1, s2⟩ := lw_sameM hT hR m1
  have c := fun i h => lw_ayE (i := i) (q := 8) (g := 2) hR (ax_cellT hT (g := 2) rfl) rfl (lw_nm_ok h)
  have d := fun i h => lw_ayE (i := i) (q := 10) (g := 1) hR (ax_cellT hT (g := 1) rfl) rfl (lw_nm_ok h)
  have t : ay_at hp' 9 = ay_at hp 9 := funext (fun i => lw_ayE (g := 20) hR (ax_cellT hT (g := 20) rfl) rfl (lw_ng_ok k6))
  unfold lw_S lw_x30C lw_x30M lw_31 lw_F at *
  rw [c _ k1, c _ k2, c _ k3, d _ k4, d _ k5, d _ k7, d _ k8, t, s1, s1, s1, s2]
  exact hS
theorem lw_SM {hp hp' : rx_H} {md : List (Nat × Nat)} (hS : lw_S hp) (hT : ax_HT ax_wC hp) (hR : ax_HR ax_wC md hp hp') (hk : lw_kM md = true) : lw_S hp' := by
  obtain ⟨m1, hk⟩ := rx_and2.mp hk
  obtain ⟨k1, hk⟩ := rx_and2.mp hk
  obtain ⟨k2, hk⟩ := rx_and2.mp hk
  obtain ⟨k3, k4⟩ := rx_and2.mp hk
  obtain ⟨s1, s2, s3⟩ := lw_sameC hT hR m1
  have c := fun i h => lw_ayE (i := i) (q := 173) (g := 11) hR (ax_cellT hT (g := 11) rfl) rfl (lw_nm_ok h)
  have t : ay_at hp' 183 = ay_at hp 183 := funext (fun i => lw_ayE (g := 53) hR (ax_cellT hT (g := 53) rfl) rfl (lw_ng_ok k4))
  unfold lw_S lw_x30C lw_x30M lw_31 lw_F at *
  rw [c _ k1, c _ k2, c _ k3, t, s1, s1, s1, s2, s3, s3, s3, s3]
  exact hS
theorem lw_J.T {hp : rx_H} (h : lw_J hp) : ax_HT ax_wC hp := by
  rcases h with h | h
  · exact h.1.1
  · exact h.1.1
-- contracts of ordinary calls
noncomputable def lw_ro (l : List Nat) : Nat → Nat := fun k => l.getD k 0
noncomputable def lw_hs (xf : List ax_N) (x : ax_N) : Bool := xf.any (fun y => Nat.beq y.1 x.1 && rx_eqL y.2 x.2)
theorem lw_hs_ok {xf : List ax_N} {x : ax_N} (h : lw_hs xf x = true) : x ∈ xf := by
  obtain ⟨y, hy, hz⟩ := List.any_eq_true.mp h
  obtain ⟨z1, z2⟩ := rx_and2.mp hz
  have e : y = x := Prod.ext (rx_beq.mp z1) (rx_eqL_ok z2)
  rw [← e]
  exact hy
noncomputable def lw_pks (kd : Nat) (need : List ax_N) (ps : List ax_T) : Bool := ps.all (fun po => (match po.1 with
  | [r] => ax_isK po.2 kd r
  | _ => false) && need.all (lw_hs po.2.2.2.2.2))
noncomputable def lw_any : ax_Y := (0, 0, 4294967295)
noncomputable def lw_GL : List ax_N := [(0, [80]), (1, []), (2, []), (25, []), (26, [])]
noncomputable def lw_pre (this : List ax_Y) (need : List ax_N) (n : Nat) : ax_E := (n + this.length, List.replicate n lw_any ++ this, [], [], need)
theorem lw_int_ok {w : ax_W} {v : Nat} (h : v < 4294967296) : ax_ok w lw_any (rx_int v) := by
  refine Or.inl ⟨rfl, lw_int4 v, by show rx_pl (rx_int v) < _; rw [lw_pl]; exact h, Nat.zero_le _, ?_⟩
  show (rx_int v / 4 + 2147483648) % 4294967296 ≤ 4294967295
  omega
/-- what an end of a contract gives -/
theorem lw_end {w : ax_W} {X : ax_X} {md : List (Nat × Nat)} {hp : rx_H} {n0 kd : Nat} {ps : List ax_T} {ρ : Nat → Nat} {o : rx_O} {need : List ax_N} (hk : kd = 0 ∨ kd = 1) (hpk : lw_pks kd need ps = true)
    (h : ∃ po ∈ ps, ∃ (ρ' : Nat → Nat) (r : Nat), (∀ k, k < n0 → ρ' k = ρ k) ∧ po.1 = [r] ∧ ax_ev po.2.1 ρ' r = some o.1 ∧ ax_EO w X ρ' po.2 o.2.1 ∧ ax_HT w o.2.1 ∧ ax_HR w md hp o.2.1 ∧ o.2.2 = []) : o.2.2 = [] ∧ o.1 % 4 = kd ∧ ax_HT w o.2.1 ∧ ax_HR w md hp o.2.1 ∧ ∃ (ρ' : Nat → Nat) (po : ax_T), ax_EO w X ρ' po.2 o.2.1 ∧ ∀ x ∈ need, x ∈ po.2.2.2.2.2 := by
  obtain ⟨po, hpo, ρ', r, p1, p2, p3, p4, p5, p6, p7⟩ := h
  have hz := List.all_eq_true.mp hpk po hpo
  obtain ⟨z1, z2⟩ := rx_and2.mp hz
  rw [p2] at z1
  dsimp only at z1
  refine ⟨p7, ?_, p5, p6, ρ', po, p4, fun x hx => lw_hs_ok (List.all_eq_true.mp z2 x hx)⟩
  rcases hk with rfl | rfl
  · exact (ax_isK0 p4 z1 p3).1
  · exact ax_isK1 p4 z1 p3
theorem lw_gx {w : ax_W} {X : ax_X} {ρ : Nat → Nat} {E : ax_E} {hp : rx_H} (hE : ax_EO w X ρ E hp) {x : Nat} {vs : List Nat} (hx : x < 500) (hc : vs.map (ax_vl ρ) = vs) (h : (x, vs) ∈ E.2.2.2.2) : X x vs hp := by
  have e := (ax_XF_lt hx).mp (ax_gx hE (x, vs) h)
  dsimp only at e
  rw [hc] at e
  exact e
theorem lw_80 {ρ : Nat → Nat} : ([80] : List Nat).map (ax_vl ρ) = [80] := by
  show [ax_vl ρ 80] = [80]
  rw [ax_vl_c (by decide)]
theorem lw_gx5 {b : Nat} {w : ax_W} {ρ : Nat → Nat} {E : ax_E} {hp : rx_H} (hE : ax_EO w (ax_XM b) ρ E hp) (h : ∀ x ∈ lw_GL, x ∈ E.2.2.2.2) : lw_XM5 b hp :=
  ⟨lw_gx hE (by decide) lw_80 (h _ (by simp [lw_GL])), lw_gx hE (by decide) rfl (h _ (by simp [lw_GL])), lw_gx hE (by decide) rfl (h _ (by simp [lw_GL])), lw_gx hE (by decide) rfl (h _ (by simp [lw_GL])), lw_gx hE (by decide) rfl (h _ (by simp [lw_GL]))⟩
/-- named facts with no symbols -/
theorem lw_NO {X : ax_X} {n : Nat} {ρ : Nat → Nat} {hp : rx_H} {x : Nat} {vs : List Nat} (hx : x < 500) (hc : vs.map (ax_ev n ρ) = vs.map some) (h : X x vs hp) : ax_NO X n ρ hp (x, vs) := ⟨vs, hc, (ax_XF_lt hx).mpr h⟩
theorem lw_80e {n : Nat} {ρ : Nat → Nat} : ([80] : List Nat).map (ax_ev n ρ) = ([80] : List Nat).map some := by
  show [ax_ev n ρ 80] = [some 80]
  rw [ax_ev_c (by decide)]
theorem lw_NO5 {b n : Nat} {ρ : Nat → Nat} {hp : rx_H} (h : lw_XM5 b hp) : ∀ x ∈ lw_GL, ax_NO (ax_XM b) n ρ hp x := by
  obtain ⟨h0, h1, h2, h3, h4⟩ := h
  intro x hx
  simp only [lw_GL, List.mem_cons, List.not_mem_nil, or_false] at hx
  rcases hx with rfl | rfl | rfl | rfl | rfl
  · exact lw_NO (by decide) lw_80e h0
  · exact lw_NO (by decide) rfl h1
  · exact lw_NO (by decide) rfl h2
  · exact lw_NO (by decide) rfl h3
  · exact lw_NO (by decide) rfl h4
theorem lw_rep {n j : Nat} {this : List ax_Y} {t : ax_Y} (h : (List.replicate n lw_any ++ this)[j]? = some t) : (j < n ∧ t = lw_any) ∨ (n ≤ j ∧ this[j - n]? = some t) := by
  rcases Nat.lt_or_ge j n with hj | hj
  · rw [List.getElem?_append_left (by simpa using hj), List.getElem?_replicate, if_pos hj] at h
    exact Or.inl ⟨hj, (Option.some.inj h).symm⟩
  · rw [List.getElem?_append_right (by simpa using hj)] at h
    exact Or.inr ⟨hj, by simpa using h⟩
theorem lw_EOc {hp : rx_H} {vals : List Nat} (hv : ∀ v ∈ vals, v < 4294967296) (h0 : ax_XC 0 [80] hp) : ax_EO ax_wC ax_XC (lw_ro (10 :: vals.map rx_int)) (lw_pre [(2, 0, 0)] [(0, [80])] vals.length) hp := by
  refine ⟨by simp [lw_pre], fun k t hk ht => ?_, (fun f hf => by cases hf), (fun d hd => by cases hd), fun x hx => ?_⟩
  · replace hk : k < vals.length + 1 := hk
    replace ht : (List.replicate vals.length lw_any ++ [(2, 0, 0)])[vals.length + 1 - 1 - k]? = some t := ht
    rcases lw_rep ht with ⟨h1, rfl⟩ | ⟨h1, h2⟩
    · have hk1 : k - 1 < vals.length := by omega
      have e : lw_ro (10 :: vals.map rx_int) k = rx_int vals[k - 1] := by
        obtain ⟨j, rfl⟩ : ∃ j, k = j + 1 := ⟨k - 1, by omega⟩
        show (10 :: vals.map rx_int).getD (j + 1) 0 = _
        rw [List.getD_cons_succ, List.getD_eq_getElem?_getD, List.getElem?_map, List.getElem?_eq_getElem (by omega)]
        rfl
      rw [e]
      exact lw_int_ok (hv _ (List.getElem_mem hk1))
    · have hk0 : k = 0 := by omega
      subst hk0
      rw [show vals.length + 1 - 1 - 0 - vals.length = 0 by omega] at h2
      cases h2
      exact Or.inr (Or.inr (Or.inl ⟨rfl, (show 10 % 4 = 2 from rfl), (show 2 ≤ 10 / 4 by decide), (show 10 / 4 < 258 by decide), (show ax_wC.1[10 / 4 - 2]? = some 0 from rfl)⟩))
  · cases List.mem_singleton.mp hx
    exact lw_NO (by decide) lw_80e h0
theorem lw_EOm {b : Nat} {wM : ax_W} {hp : rx_H} {vals : List Nat} (hv : ∀ v ∈ vals, v < 4294967296) (h0 : lw_XM5 b hp) : ax_EO wM (ax_XM b) (lw_ro (vals.map rx_int)) (lw_pre [] lw_GL vals.length) hp := by
  refine ⟨by simp [lw_pre], fun k t hk ht => ?_, (fun f hf => by cases hf), (fun d hd => by cases hd), fun x hx => lw_NO5 h0 x hx⟩
  replace hk : k < vals.length + 0 := hk
  replace ht : (List.replicate vals.length lw_any ++ [])[vals.length + 0 - 1 - k]? = some t := ht
  rcases lw_rep ht with ⟨h1, rfl⟩ | ⟨h1, h2⟩
  · have hk1 : k < vals.length := by omega
    have e : lw_ro (vals.map rx_int) k = rx_int vals[k] := by
      show (vals.map rx_int).getD k 0 = _
      rw [List.getD_eq_getElem?_getD, List.getElem?_map, List.getElem?_eq_getElem hk1]
      rfl
    rw [e]
    exact lw_int_ok (hv _ (List.getElem_mem hk1))
  · cases h2
/-- what a call of one side leaves -/
noncomputable def lw_fC (hp hp' : rx_H) : Prop := ∃ md : List (Nat × Nat), md.all (fun x => lw_isC x.1) = true ∧ ax_HR ax_wC md hp hp'
noncomputable def lw_fM (hp hp' : rx_H) : Prop := ∃ md : List (Nat × Nat), md.all (fun x => !(lw_isC x.1)) = true ∧ ax_HR ax_wC md hp hp'
section LWO
variable {l : Launch} {cy : Nat → ClassId} {D : va_G} {q : rx_M} {hp : rx_H} {kd : Nat} {vals : List Nat}
noncomputable def lw_QC (kd : Nat) (hp : rx_H) (o : rx_O) : Prop := o.2.2 = [] ∧ o.1 % 4 = kd ∧ lw_J o.2.1 ∧ lw_fC hp o.2.1
noncomputable def lw_QM (kd : Nat) (hp : rx_H) (o : rx_O) : Prop := o.2.2 = [] ∧ o.1 % 4 = kd ∧ lw_J o.2.1 ∧ lw_fM hp o.2.1
theorem lw_ordC {C : ax_C} (hCon : ax_Con ax_wC ax_XC rx_P (rx_DF, rx_FK) q C) (hk : kd = 0 ∨ kd = 1) (hv : ∀ v ∈ vals, v < 4294967296) (hE : C.1.2 = lw_pre [(2, 0, 0)] [(0, [80])] vals.length) (hm : C.1.1.map (ax_ev C.1.2.1 (lw_ro (10 :: vals.map rx_int))) = (10 :: vals.map rx_int).map some)
    (hpo : lw_pks kd [(0, [80])] C.2.2 = true) (hmd : lw_kC C.2.1 = true) (hJ : lw_J hp) : ax_Wp rx_P (rx_DF, rx_FK) q (0, rx_args (10 :: vals.map rx_int) (rx_mL (rx_n q)), [], hp, [], 0, 0) (lw_QC kd hp) := by
  have m1 := (rx_and2.mp hmd).1
  have hx0 : ax_XC 0 [80] hp := by rcases hJ with h | h <;> exact h.1.2.1
  refine ax_wp_mono (hCon _ hp _ hm (by rw [hE]; exact lw_EOc hv hx0) hJ.T) (fun o ho => ?_)
  obtain ⟨e1, e2, e3, e4, ρ', po, e5, e6⟩ := lw_end hk hpo ho
  have x0 := lw_gx e5 (by decide) lw_80 (e6 _ List.mem_cons_self)
  refine ⟨e1, e2, ?_, _, m1, e4⟩
  rcases hJ with ⟨hB, hS⟩ | ⟨hB, hS⟩
  · exact Or.inl ⟨lw_cls lw_W0 hB e3 x0 e4 m1, lw_SC hS hB.1 e4 hmd⟩
  · exact Or.inr ⟨lw_cls lw_W1 hB e3 x0 e4 m1, lw_SC hS hB.1 e4 hmd⟩
/-- of one bank -/
theorem lw_ordM1 {b : Nat} {wM : ax_W} {C : ax_C} (w : lw_W b wM) (hCon : ax_Con wM (ax_XM b) rx_P (rx_DF, rx_FK) q C) (hk : kd = 0 ∨ kd = 1) (hv : ∀ v ∈ vals, v < 4294967296) (hE : C.1.2 = lw_pre [] lw_GL vals.length) (hm : C.1.1.map (ax_ev C.1.2.1 (lw_ro (vals.map rx_int))) = (702 :: vals.map rx_int).map some)
    (hpo : lw_pks kd lw_GL C.2.2 = true) (hmd : lw_kM C.2.1 = true) (hK : lw_K b wM hp) : ax_Wp rx_P (rx_DF, rx_FK) q (0, rx_args (702 :: vals.map rx_int) (rx_mL (rx_n q)), [], hp, [], 0, 0) (fun o => o.2.2 = [] ∧ o.1 % 4 = kd ∧ lw_K b wM o.2.1 ∧ lw_fM hp o.2.1) := by
  have m1 := (rx_and2.mp hmd).1
  obtain ⟨hB, hS⟩ := hK
  refine ax_wp_mono (hCon _ hp _ hm (by rw [hE]; exact lw_EOm hv hB.2.2.2) hB.2.2.1) (fun o ho => ?_)
  obtain ⟨e1, e2, e3, e4, ρ', po, e5, e6⟩ := lw_end hk hpo ho
  have e4' : ax_HR ax_wC C.2.1 hp o.2.1 := ay_HRw w.1.symm e4
  exact ⟨e1, e2, ⟨lw_mod w hB e3 (lw_gx5 e5 e6) e4' m1, lw_SM hS hB.1 e4' hmd⟩, _, m1, e4'⟩
theorem lw_ordM {C0 C1 : ax_C} (h0 : ax_Con ax_wM0 (ax_XM 0) rx_P (rx_DF, rx_FK) q C0) (h1 : ax_Con ax_wM1 (ax_XM 1) rx_P (rx_DF, rx_FK) q C1) (hk : kd = 0 ∨ kd = 1) (hv : ∀ v ∈ vals, v < 4294967296)
    (hE0 : C0.1.2 = lw_pre [] lw_GL vals.length) (hm0 : C0.1.1.map (ax_ev C0.1.2.1 (lw_ro (vals.map rx_int))) = (702 :: vals.map rx_int).map some) (hpo0 : lw_pks kd lw_GL C0.2.2 = true) (hmd0 : lw_kM C0.2.1 = true)
    (hE1 : C1.1.2 = lw_pre [] lw_GL vals.length) (hm1 : C1.1.1.map (ax_ev C1.1.2.1 (lw_ro (vals.map rx_int))) = (702 :: vals.map rx_int).map some) (hpo1 : lw_pks kd lw_GL C1.2.2 = true) (hmd1 : lw_kM C1.2.1 = true) (hJ : lw_J hp) : ax_Wp rx_P (rx_DF, rx_FK) q (0, rx_args (702 :: vals.map rx_int) (rx_mL (rx_n q)), [], hp, [], 0, 0) (lw_QM kd hp) := by
  rcases hJ with hK | hK
  · exact ax_wp_mono (lw_ordM1 lw_W0 h0 hk hv hE0 hm0 hpo0 hmd0 hK) (fun o h => ⟨h.1, h.2.1, Or.inl h.2.2.1, h.2.2.2⟩)
  · exact ax_wp_mono (lw_ordM1 lw_W1 h1 hk hv hE1 hm1 hpo1 hmd1 hK) (fun o h => ⟨h.1, h.2.1, Or.inr h.2.2.1, h.2.2.2⟩)
end LWO
