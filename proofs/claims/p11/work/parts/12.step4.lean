theorem rx_map_get {b : Nat → Nat} {ad : List Nat} {en : List Int32} {l : List Nat} {fs : List Value} (h : l.map (rx_cv b ad en) = fs.map some) {i v : Nat} (hv : l[i]? = some v) : ∃ x, fs[i]? = some x ∧ rx_cv b ad en v = some x := by
  have h1 : (l.map (rx_cv b ad en))[i]? = (fs.map some)[i]? := by rw [h]
  rw [List.getElem?_map, List.getElem?_map, hv] at h1
  cases e : fs[i]? with
  | none => rw [e] at h1; cases h1
  | some x => rw [e] at h1; exact ⟨x, rfl, Option.some.inj h1⟩
theorem rx_map_set {b : Nat → Nat} {ad : List Nat} {en : List Int32} {l : List Nat} {fs : List Value} (h : l.map (rx_cv b ad en) = fs.map some) {i v : Nat} {x : Value} (hv : rx_cv b ad en v = some x) : (l.set i v).map (rx_cv b ad en) = (fs.set i x).map some := by
  rw [List.map_set, List.map_set, h, hv]
theorem rx_map_len {b : Nat → Nat} {ad : List Nat} {en : List Int32} {l : List Nat} {fs : List Value} (h : l.map (rx_cv b ad en) = fs.map some) : fs.length = l.length := by
  have := congrArg List.length h
  simpa using this.symm
/-- a reference to a place -/
theorem rx_ref_at {cy : Nat → ClassId} {b : Nat → Nat} {ad : List Nat} {en : List Int32} {hp : rx_H} {ws : va_W} (h3 : rx_RW cy b ad en hp ws) {v : Nat} {x : Value} {cl : rx_C} (ht : (Nat.beq (rx_tk v) 2 && Nat.ble 2 (rx_pl v)) = true) (hx : rx_cv b ad en v = some x) (hg : rx_hg hp (Nat.sub (rx_pl v) 2) = some cl) : ∃ (a : Nat) (e : va_E), x = .ref a ∧ ad[Nat.sub (rx_pl v) 2]? = some a ∧ ws[Nat.sub (rx_pl v) 2]? = some (a, e) ∧ rx_RC cy b ad en cl e := by
  obtain ⟨t1, t2⟩ := rx_and2.mp ht
  obtain ⟨a, e, h1, h2, h4⟩ := h3.2.2.2 _ _ hg
  refine ⟨a, e, ?_, h1, h2, h4⟩
  have hlt := rx_hg_lt hg
  have h256 := h3.1
  have hlt2 : v / 4 - 2 < hp.1 := hlt
  rw [rx_cv2 (rx_beq.mp t1) (rx_ble.mp t2) (by omega)] at hx
  have h1' : ad[v / 4 - 2]? = some a := h1
  rw [h1'] at hx
  exact (Option.some.inj hx).symm
theorem rx_RC.obj {cy : Nat → ClassId} {b : Nat → Nat} {ad : List Nat} {en : List Int32} {c : rx_C} {e : va_E} (h : rx_RC cy b ad en c e) (hc : c.1 < 12) : ∃ fs : List Value, e = .inr (c.1, fs) ∧ c.2.2.map (rx_cv b ad en) = fs.map some := by
  rcases h.2 with ⟨-, h⟩ | ⟨h1, -⟩ | ⟨h1, -⟩ | ⟨h1, -⟩
  · exact h
  · omega
  · omega
  · omega
theorem rx_RC.nums {cy : Nat → ClassId} {b : Nat → Nat} {ad : List Nat} {en : List Int32} {c : rx_C} {e : va_E} (h : rx_RC cy b ad en c e) (hc : c.1 = 12 ∨ c.1 = 13 ∨ c.1 = 15) : ∃ f : Nat → Int32, e = .inl (cy c.1, c.2.1, .inl f) ∧ ∀ j v, c.2.2[j]? = some v → rx_cv b ad en v = some (.int (f j)) := by
  rcases h.2 with ⟨h1, -⟩ | ⟨-, h⟩ | ⟨h1, -⟩ | ⟨h1, -⟩
  · omega
  · exact h
  · omega
  · omega
theorem rx_RC.refs {cy : Nat → ClassId} {b : Nat → Nat} {ad : List Nat} {en : List Int32} {c : rx_C} {e : va_E} (h : rx_RC cy b ad en c e) (hc : c.1 = 16) : ∃ f : Nat → Option Nat, e = .inl (cy 16, c.2.1, .inr (.inr (.inr (.inr f)))) ∧ ∀ j v, c.2.2[j]? = some v → rx_cv b ad en v = some (va_rf (f j)) := by
  rcases h.2 with ⟨h1, -⟩ | ⟨h1, -⟩ | ⟨h1, -⟩ | ⟨-, h⟩
  · omega
  · omega
  · omega
  · exact h
theorem rx_RC.lngs {cy : Nat → ClassId} {b : Nat → Nat} {ad : List Nat} {en : List Int32} {c : rx_C} {e : va_E} (h : rx_RC cy b ad en c e) (hc : c.1 = 14) : ∃ f : Nat → Int64, e = .inl (cy 14, c.2.1, .inr (.inl f)) ∧ ∀ j v, c.2.2[j]? = some v → rx_cv b ad en v = some (.long (f j)) := by
  rcases h.2 with ⟨h1, -⟩ | ⟨h1, -⟩ | ⟨-, h⟩ | ⟨h1, -⟩
  · omega
  · omega
  · exact h
  · omega
/-- what the tables say of a field that is read -/
noncomputable def rx_SF (own : String) (idx na nb : Nat) : Prop := ∃ (C : String) (T : u_T) (Nf : Nat), vwCl[na]? = some (C, T, Nf) ∧ na < 12 ∧ nb < Nf ∧ Cond.fieldLink own idx (T nb).1 (T nb).2.1 (T nb).2.2.1 ∈ lw_G ∧ ∀ w ∈ u_ws C T Nf, w ∈ lw_G
noncomputable def rx_fkt (k : Nat) (ty : FieldType) : Prop := (k = 0 ∧ ty = .int) ∨ (k = 1 ∧ ty = .boolean) ∨ (k = 2 ∧ ((∃ n, ty = .object n) ∨ ∃ t, ty = .array t))
/-- and of one that is written -/
noncomputable def rx_SP (K : rx_K) (own mn : String) (idx na nb : Nat) : Prop := ∃ (C : String) (T : u_T) (Nf : Nat) (ty0 : Nat → FieldType), vwCl[na]? = some (C, T, Nf) ∧ na < 12 ∧ nb < Nf ∧ Cond.fieldLink own idx (T nb).1 (T nb).2.1 (T nb).2.2.1 ∈ lw_G ∧ (∀ w ∈ u_ws C T Nf, w ∈ lw_G) ∧
  (∀ k, k < Nf → parseFieldDescriptor (T k).2.2.1 = some (ty0 k)) ∧ (∀ a, a < Nf → ∀ b, b < Nf → a ≠ b → (T a).2.1 ≠ (T b).2.1) ∧ ((T nb).2.2.2 = false ∨ ((T nb).2.2.2 = true ∧ mn = "<init>" ∧ (T nb).1 = own)) ∧ ∀ ks k, rx_nth K.2 na = some ks → rx_nth ks nb = some k → rx_fkt k (ty0 nb)
theorem rx_bit_cv {b : Nat → Nat} {ad : List Nat} {en : List Int32} {v : Nat} {x : Value} (h : rx_bit v = true) (hx : rx_cv b ad en v = some x) : x = .int 0 ∨ x = .int 1 := by
  rcases rx_or2.mp h with h | h
  · have h := rx_beq.mp h
    subst h
    exact Or.inl (Option.some.inj (hx.symm.trans (rx_int_cv b ad en 0)))
  · have h := rx_beq.mp h
    subst h
    exact Or.inr (Option.some.inj (hx.symm.trans (rx_int_cv b ad en 1)))
theorem rx_fok_cv {b : Nat → Nat} {ad : List Nat} {en : List Int32} {k v : Nat} {x : Value} {ty : FieldType} (hk : rx_fkt k ty) (h : rx_fok k v = true) (hx : rx_cv b ad en v = some x) : narrow ty x = x ∧ fits ty x = true := by
  unfold rx_fok at h
  rcases hk with ⟨rfl, rfl⟩ | ⟨rfl, rfl⟩ | ⟨rfl, ht⟩
  · replace h : rx_isI v = true := h
    obtain ⟨n, rfl⟩ := rx_isI_cv h hx
    exact ⟨rfl, rfl⟩
  · replace h : rx_bit v = true := h
    rcases rx_bit_cv h hx with rfl | rfl
    · exact ⟨rfl, rfl⟩
    · exact ⟨rfl, rfl⟩
  · replace h : rx_isA v = true := h
    rcases ht with ⟨n, rfl⟩ | ⟨n, rfl⟩ <;> rcases rx_isA_cv h hx with rfl | ⟨a, rfl⟩ <;> exact ⟨rfl, rfl⟩
section RXS4
variable {p : Program} {l : Launch} {e : Env} {R : Room} {s : State} {m : MethodId} {args : Array Value} {below : List Frame} {meth : Method} {c : Code} {Q : State → Prop} {cc : ByteArray}
variable {cy : Nat → ClassId} {D : va_G} {b : Nat → Nat} {A : Nat → Prop} {H0 : Heap} {ad0 : List Nat} {en0 : List Int32} {nL : Nat}
variable {K : rx_K} {N : rx_N} {pc na nb cn sn : Nat} {lv : rx_L} {st : List Nat} {hp : rx_H} {iv : rx_I} {out : List rx_S} {own : String}
theorem rx_s_gf {idx : Nat} (hx : p.tables.exec = Jvm.exec) (hb : c.code = cc) (hts : ∀ w ∈ lw_G, w.before args s = true) (hown : s.vm.findClass own = some m.cls) (hK : va_K D vwCl (rx_tys cy) s) (hd : decode cc pc = .ok (.getfield idx, 3)) (hF : rx_SF own idx na nb)
    (h : rx_h_gf K N pc na nb lv st hp iv cn sn = some out) (hG : ∀ σ ∈ out, rx_G p l e R s m args below meth c Q cy D b A H0 ad0 en0 nL σ) : rx_G p l e R s m args below meth c Q cy D b A H0 ad0 en0 nL (pc, lv, st, hp, iv, cn, sn) := by
  intro ad en ls stA H locs ws hR
  obtain ⟨h1, h2, h3, h4, h5, h6, h7, h8, h9⟩ := hR
  match st, h with
  | [], h => cases h
  | v :: st', h =>
    obtain ⟨ht, h⟩ := rx_cond h
    cases hg : rx_hg hp (Nat.sub (rx_pl v) 2) with
    | none => rw [hg] at h; cases h
    | some cl =>
      obtain ⟨t, n, f⟩ := cl
      rw [hg] at h
      obtain ⟨hta, hn⟩ := rx_cond h
      have hta : t = na := rx_beq.mp hta
      subst hta
      rw [rx_nth_eq] at hn
      cases hv : f[nb]? with
      | none => rw [hv] at hn; cases hn
      | some w =>
        rw [hv] at hn
        cases hn
        obtain ⟨x, r, rfl, hxv, h8n⟩ := rx_st_cons h8
        obtain ⟨a, ee, rfl, ha, hw, hc⟩ := rx_ref_at h3 ht hxv hg
        obtain ⟨C, T, Nf, q1, q2, q3, q4, q5⟩ := hF
        obtain ⟨fs, rfl, hfs⟩ := hc.obj q2
        obtain ⟨y, hy, hcv⟩ := rx_map_get hfs hv
        exact va_get hx hb hts q5 hown hK h4 _ hw q1 nb q3 (hts _ q4) (fun _ z => z) hy hd (hG _ List.mem_cons_self ad en ls (y :: r) H locs ws ⟨h1, h2, h3, h4, h5, h6, h7, rx_st_push hcv h8n, h9⟩)
theorem rx_s_pf {idx : Nat} {mn : String} (hx : p.tables.exec = Jvm.exec) (hb : c.code = cc) (hts : ∀ w ∈ lw_G, w.before args s = true) (hown : s.vm.findClass own = some m.cls) (hK : va_K D vwCl (rx_tys cy) s) (hmn : mn = "<init>" → meth.name = "<init>") (hd : decode cc pc = .ok (.putfield idx, 3)) (hF : rx_SP K own mn idx na nb)
    (h : rx_h_pf K N pc na nb lv st hp iv cn sn = some out) (hG : ∀ σ ∈ out, rx_G p l e R s m args below meth c Q cy D b A H0 ad0 en0 nL σ) : rx_G p l e R s m args below meth c Q cy D b A H0 ad0 en0 nL (pc, lv, st, hp, iv, cn, sn) := by
  intro ad en ls stA H locs ws hR
  obtain ⟨h1, h2, h3, h4, h5, h6, h7, h8, h9⟩ := hR
  match st, h with
  | [], h => cases h
  | [_], h => cases h
  | u :: v :: st', h =>
    obtain ⟨ht, h⟩ := rx_cond h
    cases hg : rx_hg hp (Nat.sub (rx_pl v) 2) with
    | none => rw [hg] at h; cases h
    | some cl =>
      obtain ⟨t, n, f⟩ := cl
      rw [hg] at h
      replace h : (match rx_nth K.2 na with
        | some ks => (match rx_nth ks nb with
          | some k => bif Nat.beq t na && (Nat.blt nb n && rx_fok k u) then some [(Nat.add pc 3, lv, st', rx_hs hp (Nat.sub (rx_pl v) 2) (t, n, rx_upd f nb u), iv, cn, sn)] else none
          | none => none)
        | none => none) = some out := h
      cases hks : rx_nth K.2 na with
      | none => rw [hks] at h; cases h
      | some ks =>
        rw [hks] at h
        replace h : (match rx_nth ks nb with
          | some k => bif Nat.beq t na && (Nat.blt nb n && rx_fok k u) then some [(Nat.add pc 3, lv, st', rx_hs hp (Nat.sub (rx_pl v) 2) (t, n, rx_upd f nb u), iv, cn, sn)] else none
          | none => none) = some out := h
        cases hk : rx_nth ks nb with
        | none => rw [hk] at h; cases h
        | some k =>
          rw [hk] at h
          obtain ⟨hc, hn⟩ := rx_cond h
          obtain ⟨hta, hc⟩ := rx_and2.mp hc
          obtain ⟨hbn, hfok⟩ := rx_and2.mp hc
          have hta : t = na := rx_beq.mp hta
          have hbn : nb < n := rx_blt.mp hbn
          subst hta
          cases hn
          obtain ⟨y, r1, rfl, hy, h8a⟩ := rx_st_cons h8
          obtain ⟨x, r, rfl, hxv, h8n⟩ := rx_st_cons h8a
          obtain ⟨a, ee, rfl, ha, hw, hcl⟩ := rx_ref_at h3 ht hxv hg
          obtain ⟨C, T, Nf, ty0, q1, q2, q3, q4, q5, q6, q7, q8, q9⟩ := hF
          obtain ⟨fs, rfl, hfs⟩ := hcl.obj q2
          obtain ⟨hn1, hn2⟩ := rx_fok_cv (q9 ks k hks hk) hfok hy
          have hlen : nb < fs.length := by rw [rx_map_len hfs]; show nb < f.length; rw [show f.length = n from hcl.1]; exact hbn
          have hcl2 : rx_RC cy b ad en (t, n, rx_upd f nb u) (.inr (t, fs.set nb y)) := by
            refine ⟨by show (rx_upd f nb u).length = n; rw [rx_upd_eq, List.length_set]; exact hcl.1, Or.inl ⟨q2, _, rfl, ?_⟩⟩
            show (rx_upd f nb u).map _ = _
            rw [rx_upd_eq]
            exact rx_map_set hfs hy
          have hRW := h3.set (rx_hg_lt hg) ha hcl2
          have done : ∀ (H1 : Heap) (locs1 : List Loc), va_P D vwCl (ws.set (Nat.sub (rx_pl v) 2) (a, .inr (t, fs.set nb y))) H1 → va_D A (ws.set (Nat.sub (rx_pl v) 2) (a, .inr (t, fs.set nb y))) → va_S A H0 H1 locs1 → W p l e R s m args below meth c H1 locs1 cn sn Q (F0 m (pc + 3) ls r) := fun H1 locs1 p1 p2 p3 =>
            hG _ List.mem_cons_self ad en ls r H1 locs1 _ ⟨h1, h2, hRW, p1, p2, p3, h7, h8n, h9⟩
          rcases q8 with q8 | ⟨q8, q10, q11⟩
          · exact va_put hx hb hts q5 ty0 q6 q7 hown hK h4 h5 h6 _ hw q1 nb q3 (hts _ q4) (fun _ z => z) q8 (q6 nb q3) hn1 hn2 hlen hd done
          · exact va_putF hx hb hts q5 ty0 q6 q7 hown hK h4 h5 h6 _ hw q1 nb q3 (hts _ q4) (fun _ z => z) q8 (hmn q10) q11 (q6 nb q3) hn1 hn2 hlen hd done
end RXS4
