section RXE
variable {p : Program} {l : Launch} {e : Env} {R : Room} {s : State} {m : MethodId} {args : Array Value} {below : List Frame} {meth : Method} {c : Code} {Q : State → Prop}
variable {cy : Nat → ClassId} {D : va_G} {b : Nat → Nat} {A : Nat → Prop} {H0 : Heap} {ad0 : List Nat} {en0 : List Int32}
set_option maxHeartbeats 1000000 in
/-- one instruction, whatever comes then (f) and is made of a return (z) -/
theorem rx_go_ok {P : List rx_M} {K : rx_K} (hP : ∀ q ∈ P, rx_QW q ∧ rx_ST P K q) {g : rx_M → rx_S → Option (List rx_O)} (ih : rx_SndG P K l cy D g) {r : rx_M} (hST : rx_ST P K r) (C : rx_Cx cy D r p R s m args meth c) (hSc : rx_Sc (rx_n r) b A H0 en0 s) (hA : ∀ q, H0.size ≤ q → A q) {β : Type} {f : rx_M → rx_S → Option (List β)} {z : rx_O → Option (List β)} {σ : rx_S} {outs : List β} (h : rx_go P K g f z r σ = some outs)
    (go : ∀ (σ : rx_S) (o : List β), f r σ = some o → (∀ y ∈ o, y ∈ outs) → rx_G p l e R s m args below meth c Q cy D b A H0 ad0 en0 (rx_mL (rx_n r)) σ)
    (hret : ∀ (x : rx_O) (o : List β), z x = some o → (∀ y ∈ o, y ∈ outs) → rx_Ret p l e R s m args below meth c Q cy D b A H0 ad0 en0 r x) : rx_G p l e R s m args below meth c Q cy D b A H0 ad0 en0 (rx_mL (rx_n r)) σ := by
  obtain ⟨pc, lv, st, hp, iv, cn, sn⟩ := σ
  have C0 := C
  obtain ⟨hx, hb, hr, hml, hown, hts, hlocks, hmn, hK, hNest, hAO, hR1, hR2, hR3, hR4⟩ := C0
  unfold rx_go at h
  dsimp only at h
  cases hl : rx_look (rx_cd r) pc with
  | none => rw [hl] at h; cases h
  | some x =>
    rw [hl] at h
    dsimp only at h
    obtain ⟨⟨ch, hc1, hc2⟩, hpc⟩ := rx_look_ok hl
    have hOK := hST ch hc1 x hc2
    obtain ⟨xpc, kd, hh, ins, len, na, nb, w1, w2⟩ := x
    obtain ⟨o1, o2, o3, o4, o5⟩ := hOK
    dsimp only at h o1 o2 o3 o4 o5 hpc
    subst hpc
    subst o2
    have outz : ∀ {q : Option (List rx_O)}, rx_out z q = some outs → ∃ xs, q = some xs ∧ ∀ x ∈ xs, rx_Ret p l e R s m args below meth c Q cy D b A H0 ad0 en0 r x := by
      intro q hq
      cases q with
      | none => cases hq
      | some xs =>
        replace hq : rx_all z xs = some outs := hq
        exact ⟨xs, rfl, fun x hx => by obtain ⟨o, ho, hsub⟩ := rx_all_ok hq x hx; exact hret x o ho hsub⟩
    rcases rx_kd_or ins with hk | rfl | rfl | rfl | rfl | ⟨i, rfl⟩ | ⟨i, rfl⟩ | ⟨i, rfl⟩
    · have hh0 := o3 hk
      subst hh0
      unfold rx_do at h
      rw [hk] at h
      replace h : rx_nxt f r (rx_sem ins K (rx_n r) xpc na nb lv st hp iv cn sn) = some outs := h
      cases hst : rx_sem ins K (rx_n r) xpc na nb lv st hp iv cn sn with
      | none => rw [hst] at h; cases h
      | some out =>
        rw [hst] at h
        replace h : rx_all (f r) out = some outs := h
        refine rx_s_sem C rfl hSc hA o1 o4 hst (fun σ' hσ' => ?_)
        obtain ⟨o, ho, hsub⟩ := rx_all_ok h σ' hσ'
        exact go σ' o ho hsub
    · replace h : rx_out z (rx_iret (rx_n r) st hp iv cn sn) = some outs := h
      obtain ⟨xs, hxs, hR⟩ := outz h
      match st, hxs with
      | [], hxs => cases hxs
      | _ :: _ :: _, hxs => cases hxs
      | [v], hxs =>
        obtain ⟨hc, hxs⟩ := rx_cond hxs
        obtain ⟨hf, hc⟩ := rx_and2.mp hc
        obtain ⟨f1, f2⟩ := rx_and2.mp hf
        cases hxs
        intro ad en ls stA H locs ws hRl
        obtain ⟨h1, h2, h3, h4, h5, h6, h7, h8, h9⟩ := hRl
        obtain ⟨xv, rA, rfl, hxv, h8n⟩ := rx_st_cons h8
        have hrA : rA = [] := by cases rA with | nil => rfl | cons _ _ => cases h8n
        subst hrA
        have hkv := rx_kn_cv h9 hxv
        have key : (rx_rk (rx_n r) = 1 ∨ rx_rk (rx_n r) = 2) ∧ ∃ z : Int32, xv = .int z ∧ (rx_rk (rx_n r) = 2 → z = 0 ∨ z = 1) := by
          rcases rx_or2.mp hc with hc | hc
          · obtain ⟨d1, d2⟩ := rx_and2.mp hc
            have d1 := rx_beq.mp d1
            obtain ⟨z, rfl⟩ := rx_isI_cv d2 hxv
            exact ⟨Or.inl d1, z, rfl, fun hz => by omega⟩
          · obtain ⟨d1, d2⟩ := rx_and2.mp hc
            have d1 := rx_beq.mp d1
            rcases rx_bit_cv d2 hkv with rfl | rfl
            · exact ⟨Or.inr d1, 0, rfl, fun _ => Or.inl rfl⟩
            · exact ⟨Or.inr d1, 1, rfl, fun _ => Or.inr rfl⟩
        obtain ⟨kk, zz, rfl, kz⟩ := key
        exact hR _ List.mem_cons_self ad en ls [.int zz] H locs ws cn sn xpc (Or.inr (Or.inl ⟨kk, o1, zz, rfl, hkv, kz⟩)) h1 h2 h3 h4 h5 h6 h9 (rx_ble.mp f1) (rx_ble.mp f2)
    · replace h : rx_out z (rx_lret (rx_n r) st hp iv cn sn) = some outs := h
      obtain ⟨xs, hxs, hR⟩ := outz h
      match st, hxs with
      | [], hxs => cases hxs
      | _ :: _ :: _, hxs => cases hxs
      | [v], hxs =>
        obtain ⟨hc, hxs⟩ := rx_cond hxs
        obtain ⟨hf, hc⟩ := rx_and2.mp hc
        obtain ⟨f1, f2⟩ := rx_and2.mp hf
        obtain ⟨d1, d2⟩ := rx_and2.mp hc
        cases hxs
        intro ad en ls stA H locs ws hRl
        obtain ⟨h1, h2, h3, h4, h5, h6, h7, h8, h9⟩ := hRl
        obtain ⟨xv, rA, rfl, hxv, h8n⟩ := rx_st_cons h8
        have hrA : rA = [] := by cases rA with | nil => rfl | cons _ _ => cases h8n
        subst hrA
        have hj := rx_isJ_cv d2 hxv
        subst hj
        exact hR _ List.mem_cons_self ad en ls _ H locs ws cn sn xpc (Or.inr (Or.inr (Or.inl ⟨rx_beq.mp d1, o1, _, rfl, hxv⟩))) h1 h2 h3 h4 h5 h6 h9 (rx_ble.mp f1) (rx_ble.mp f2)
    · replace h : rx_out z (rx_aret (rx_n r) st hp iv cn sn) = some outs := h
      obtain ⟨xs, hxs, hR⟩ := outz h
      match st, hxs with
      | [], hxs => cases hxs
      | _ :: _ :: _, hxs => cases hxs
      | [v], hxs =>
        obtain ⟨hc, hxs⟩ := rx_cond hxs
        obtain ⟨hf, hc⟩ := rx_and2.mp hc
        obtain ⟨f1, f2⟩ := rx_and2.mp hf
        obtain ⟨d1, d2⟩ := rx_and2.mp hc
        cases hxs
        intro ad en ls stA H locs ws hRl
        obtain ⟨h1, h2, h3, h4, h5, h6, h7, h8, h9⟩ := hRl
        obtain ⟨xv, rA, rfl, hxv, h8n⟩ := rx_st_cons h8
        have hrA : rA = [] := by cases rA with | nil => rfl | cons _ _ => cases h8n
        subst hrA
        exact hR _ List.mem_cons_self ad en ls _ H locs ws cn sn xpc (Or.inr (Or.inr (Or.inr ⟨rx_beq.mp d1, o1, _, rfl, rx_isA_cv d2 hxv, hxv⟩))) h1 h2 h3 h4 h5 h6 h9 (rx_ble.mp f1) (rx_ble.mp f2)
    · replace h : rx_out z (rx_vret (rx_n r) st hp iv cn sn) = some outs := h
      obtain ⟨xs, hxs, hR⟩ := outz h
      match st, hxs with
      | _ :: _, hxs => cases hxs
      | [], hxs =>
        obtain ⟨hc, hxs⟩ := rx_cond hxs
        obtain ⟨d1, hf⟩ := rx_and2.mp hc
        obtain ⟨f1, f2⟩ := rx_and2.mp hf
        cases hxs
        intro ad en ls stA H locs ws hRl
        obtain ⟨h1, h2, h3, h4, h5, h6, h7, h8, h9⟩ := hRl
        have hrA : stA = [] := by cases stA with | nil => rfl | cons _ _ => cases h8
        subst hrA
        exact hR _ List.mem_cons_self ad en ls [] H locs ws cn sn xpc (Or.inl ⟨rx_beq.mp d1, o1, rfl⟩) h1 h2 h3 h4 h5 h6 h9 (rx_ble.mp f1) (rx_ble.mp f2)
    · replace h : rx_call false P g f r xpc na nb lv st hp iv cn sn = some outs := h
      have o5' := o5
      rcases o5' with ⟨hn, u1⟩ | ⟨hn, u1⟩ | ⟨hn1, hn2, hn3, -⟩
      · subst hn
        replace h : rx_invS f r xpc 3 lv st hp iv cn sn = some outs := h
        exact rx_s_primS C rfl hSc.2.1 hSc.2.2 hA o1 (Or.inl ⟨rfl, u1⟩) h (fun σ ho => go σ outs ho (fun _ hy => hy))
      · subst hn
        replace h : rx_invS f r xpc 4 lv st hp iv cn sn = some outs := h
        exact rx_s_primS C rfl hSc.2.1 hSc.2.2 hA o1 (Or.inr ⟨rfl, u1⟩) h (fun σ ho => go σ outs ho (fun _ hy => hy))
      · unfold rx_call at h
        rw [show Nat.beq nb 1 = false from Bool.eq_false_iff.mpr (fun z => hn1 (rx_beq.mp z)), show Nat.beq nb 2 = false from Bool.eq_false_iff.mpr (fun z => hn2 (rx_beq.mp z)), show Nat.beq (Nat.mod nb 4) 1 = false from Bool.eq_false_iff.mpr (fun z => hn3 (rx_beq.mp z)), cond_false, cond_false, cond_false] at h
        exact rx_s_inv hP ih C rfl hSc.2.1 hSc.2.2 hA o1 o5 hn1 hn2 hn3 (Or.inl ⟨i, rfl, rfl⟩) h go
    · replace h : rx_call false P g f r xpc na nb lv st hp iv cn sn = some outs := h
      have o5' := o5
      rcases o5' with ⟨hn, u1, u2, u3⟩ | ⟨hn1, hn2, hn3, -⟩
      · subst hn
        replace h : rx_inv1 f r xpc lv st hp iv cn sn = some outs := h
        exact rx_s_inv1 C rfl o1 u1 u2 u3 h (fun σ ho => go σ outs ho (fun _ hy => hy))
      · unfold rx_call at h
        rw [show Nat.beq nb 1 = false from Bool.eq_false_iff.mpr (fun z => hn1 (rx_beq.mp z)), show Nat.beq nb 2 = false from Bool.eq_false_iff.mpr (fun z => hn2 (rx_beq.mp z)), show Nat.beq (Nat.mod nb 4) 1 = false from Bool.eq_false_iff.mpr (fun z => hn3 (rx_beq.mp z)), cond_false, cond_false, cond_false] at h
        exact rx_s_inv hP ih C rfl hSc.2.1 hSc.2.2 hA o1 o5 hn1 hn2 hn3 (Or.inr (Or.inl ⟨i, rfl, rfl⟩)) h go
    · replace h : rx_call true P g f r xpc na nb lv st hp iv cn sn = some outs := h
      have o5' := o5
      rcases o5' with ⟨hn, u1, u2, u3, u4⟩ | ⟨hn1, hn2, hn3, -⟩ | ⟨hn, u1, u2, u3, u4⟩ | ⟨hn, u1, u2, u3, u4⟩
      · subst hn
        replace h : rx_inv2 f r xpc lv st hp iv cn sn = some outs := h
        unfold rx_inv2 at h
        cases hcp : rx_cpy xpc lv st hp iv cn sn with
        | none => rw [hcp] at h; cases h
        | some σ =>
          rw [hcp] at h
          dsimp only at h
          obtain ⟨hc, h⟩ := rx_cond h
          obtain ⟨c1, c2⟩ := rx_and2.mp hc
          exact rx_s_cpy hx hb hml hown hK (hts _ u1) (hts _ u2) (hts _ u3) (hts _ u4) (Nat.le_trans (rx_ble.mp c1) hR1) (Nat.le_trans (rx_ble.mp c2) hR2) o1 hcp (go σ outs h (fun _ hy => hy))
      · unfold rx_call at h
        rw [show Nat.beq nb 1 = false from Bool.eq_false_iff.mpr (fun z => hn1 (rx_beq.mp z)), show Nat.beq nb 2 = false from Bool.eq_false_iff.mpr (fun z => hn2 (rx_beq.mp z)), show Nat.beq (Nat.mod nb 4) 1 = false from Bool.eq_false_iff.mpr (fun z => hn3 (rx_beq.mp z)), cond_false, cond_false, cond_false] at h
        exact rx_s_inv hP ih C rfl hSc.2.1 hSc.2.2 hA o1 o5 hn1 hn2 hn3 (Or.inr (Or.inr ⟨i, rfl, rfl⟩)) h go
      · subst hn
        replace h : rx_invP f r xpc 1 lv st hp iv cn sn = some outs := h
        exact rx_s_prim C rfl o1 (Or.inl ⟨rfl, u1, u2, u3, u4⟩) h (fun σ ho => go σ outs ho (fun _ hy => hy))
      · subst hn
        replace h : rx_invP f r xpc 2 lv st hp iv cn sn = some outs := h
        exact rx_s_prim C rfl o1 (Or.inr ⟨rfl, u1, u2, u3, u4⟩) h (fun σ ho => go σ outs ho (fun _ hy => hy))
end RXE
/-- THE INTERPRETER IS RIGHT: what it says of a run, the machine does -/
theorem rx_sound {P : List rx_M} {K : rx_K} {l : Launch} {cy : Nat → ClassId} {D : va_G} (hP : ∀ q ∈ P, rx_QW q ∧ rx_ST P K q) : ∀ n, rx_Snd P K l cy D n := by
  intro n
  induction n with
  | zero => intro r _ _ σ outs h; cases h
  | succ n ih =>
    intro r hST hrk σ outs h p e R s m args below meth c Q b A H0 ad0 en0 C hSc hA hret
    replace h : rx_go P K (rx_run P K n) (rx_run P K n) (fun o => some [o]) r σ = some outs := h
    exact rx_go_ok hP ih hST C hSc hA h (fun σ o ho hsub => ih r hST hrk σ o ho p e R s m args below meth c Q b A H0 ad0 en0 C hSc hA (fun y hy => hret y (hsub y hy))) (fun x o ho hsub => hret x (hsub x (by cases ho; exact List.mem_cons_self)))
/-- and so of a stretch of a method's own instructions -/
theorem rx_adv_ok {P : List rx_M} {K : rx_K} {l : Launch} {cy : Nat → ClassId} {D : va_G} (hP : ∀ q ∈ P, rx_QW q ∧ rx_ST P K q) {p : Program} {e : Env} {R : Room} {s : State} {m : MethodId} {args : Array Value} {below : List Frame} {meth : Method} {c : Code} {Q : State → Prop} {b : Nat → Nat} {A : Nat → Prop} {H0 : Heap} {ad0 : List Nat} {en0 : List Int32} {n stop : Nat} {r : rx_M} (hST : rx_ST P K r) (C : rx_Cx cy D r p R s m args meth c) (hSc : rx_Sc (rx_n r) b A H0 en0 s) (hA : ∀ q, H0.size ≤ q → A q) :
    ∀ (k : Nat) (σ : rx_S) (l' : List rx_S), rx_adv P K n stop r k σ = some l' → (∀ σ' ∈ l', rx_G p l e R s m args below meth c Q cy D b A H0 ad0 en0 (rx_mL (rx_n r)) σ') → rx_G p l e R s m args below meth c Q cy D b A H0 ad0 en0 (rx_mL (rx_n r)) σ
  | 0, σ, l', h, hG => by
    cases h
    exact hG σ List.mem_cons_self
  | k + 1, σ, l', h, hG => by
    replace h : (bif Nat.beq σ.1 stop then some [σ] else rx_go P K (rx_run P K n) (fun _ σ' => rx_adv P K n stop r k σ') (fun _ => none) r σ) = some l' := h
    cases hs : Nat.beq σ.1 stop with
    | true =>
      rw [hs, cond_true] at h
      cases h
      exact hG σ List.mem_cons_self
    | false =>
      rw [hs, cond_false] at h
      exact rx_go_ok hP (rx_sound hP n) hST C hSc hA h (fun σ' o ho hsub => rx_adv_ok hP hST C hSc hA k σ' o ho (fun y hy => hG y (hsub y hy))) (fun x o ho _ => by cases ho)
