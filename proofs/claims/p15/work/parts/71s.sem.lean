/-- a world with the cells of ax_wM0 -/
def ax_WW (w : ax_W) : Prop := w.1 = ax_wM0.1 ∧ w.2.1.map (fun z => z.2.1) = ax_wM0.2.1.map (fun z => z.2.1)
theorem ax_WW0 : ax_WW ax_wM0 := ⟨rfl, rfl⟩
theorem ax_wc {w : ax_W} {q g : Nat} (hw : ax_WW w) (h : ax_wM0.1[q]? = some g) : w.1[q]? = some g := by rw [hw.1]; exact h
theorem ax_wn {w : ax_W} {g n : Nat} (hw : ax_WW w) (h : (ax_wM0.2.1[g]?).map (fun z => z.2.1) = some n) : (w.2.1[g]?).map (fun z => z.2.1) = some n := by
  rw [← List.getElem?_map, hw.2, List.getElem?_map]
  exact h
/-- the names whose facts are told of a bank -/
def ax_spl : List Nat := [11, 12, 13, 14, 15, 16, 17, 18, 19, 20, 21, 22, 24, 25, 26, 28, 29, 30, 31, 32, 33, 34, 36, 40, 42, 50, 52, 53, 54, 55, 64, 65, 152, 210, 216, 217, 241, 243]
def ax_sp (x : Nat) : Bool := ax_spl.any (fun y => Nat.beq x y)
theorem ax_sp_all {P : Nat → Prop} (h : ∀ y ∈ ax_spl, P y) {x : Nat} (hs : ax_sp x = true) : P x := by
  obtain ⟨y, hy, e⟩ := List.any_eq_true.mp hs
  rw [Nat.eq_of_beq_eq_true e]
  exact h y hy
theorem ax_cg_173 : ax_wM0.1[173]? = some 11 := rfl
theorem ax_cg_174 : ax_wM0.1[174]? = some 44 := rfl
theorem ax_cg_175 : ax_wM0.1[175]? = some 45 := rfl
theorem ax_cg_176 : ax_wM0.1[176]? = some 46 := rfl
theorem ax_cg_177 : ax_wM0.1[177]? = some 47 := rfl
theorem ax_cg_178 : ax_wM0.1[178]? = some 48 := rfl
theorem ax_cg_179 : ax_wM0.1[179]? = some 49 := rfl
theorem ax_cg_180 : ax_wM0.1[180]? = some 50 := rfl
theorem ax_cg_181 : ax_wM0.1[181]? = some 51 := rfl
theorem ax_cg_182 : ax_wM0.1[182]? = some 52 := rfl
theorem ax_cg_183 : ax_wM0.1[183]? = some 53 := rfl
theorem ax_cg_184 : ax_wM0.1[184]? = some 54 := rfl
theorem ax_cg_185 : ax_wM0.1[185]? = some 55 := rfl
theorem ax_cg_186 : ax_wM0.1[186]? = some 56 := rfl
theorem ax_cg_187 : ax_wM0.1[187]? = some 57 := rfl
theorem ax_cg_188 : ax_wM0.1[188]? = some 58 := rfl
theorem ax_cg_189 : ax_wM0.1[189]? = some 59 := rfl
theorem ax_cg_190 : ax_wM0.1[190]? = some 60 := rfl
theorem ax_cg_191 : ax_wM0.1[191]? = some 61 := rfl
theorem ax_cg_192 : ax_wM0.1[192]? = some 62 := rfl
theorem ax_cg_193 : ax_wM0.1[193]? = some 63 := rfl
theorem ax_cg_194 : ax_wM0.1[194]? = some 64 := rfl
theorem ax_cg_195 : ax_wM0.1[195]? = some 65 := rfl
theorem ax_cg_196 : ax_wM0.1[196]? = some 66 := rfl
theorem ax_cg_197 : ax_wM0.1[197]? = some 67 := rfl
theorem ax_cg_198 : ax_wM0.1[198]? = some 68 := rfl
theorem ax_cg_199 : ax_wM0.1[199]? = some 69 := rfl
theorem ax_cg_200 : ax_wM0.1[200]? = some 70 := rfl
theorem ax_cg_201 : ax_wM0.1[201]? = some 71 := rfl
theorem ax_cg_202 : ax_wM0.1[202]? = some 72 := rfl
theorem ax_cg_203 : ax_wM0.1[203]? = some 73 := rfl
theorem ax_cg_204 : ax_wM0.1[204]? = some 74 := rfl
theorem ax_cn_11 : (ax_wM0.2.1[11]?).map (fun z => z.2.1) = some 58 := rfl
theorem ax_cn_44 : (ax_wM0.2.1[44]?).map (fun z => z.2.1) = some 103 := rfl
theorem ax_cn_45 : (ax_wM0.2.1[45]?).map (fun z => z.2.1) = some 2 := rfl
theorem ax_cn_46 : (ax_wM0.2.1[46]?).map (fun z => z.2.1) = some 2 := rfl
theorem ax_cn_47 : (ax_wM0.2.1[47]?).map (fun z => z.2.1) = some 2 := rfl
theorem ax_cn_48 : (ax_wM0.2.1[48]?).map (fun z => z.2.1) = some 2 := rfl
theorem ax_cn_49 : (ax_wM0.2.1[49]?).map (fun z => z.2.1) = some 2 := rfl
theorem ax_cn_50 : (ax_wM0.2.1[50]?).map (fun z => z.2.1) = some 2 := rfl
theorem ax_cn_51 : (ax_wM0.2.1[51]?).map (fun z => z.2.1) = some 80 := rfl
theorem ax_cn_52 : (ax_wM0.2.1[52]?).map (fun z => z.2.1) = some 200 := rfl
theorem ax_cn_53 : (ax_wM0.2.1[53]?).map (fun z => z.2.1) = some 800 := rfl
theorem ax_cn_55 : (ax_wM0.2.1[55]?).map (fun z => z.2.1) = some 100 := rfl
theorem ax_cn_64 : (ax_wM0.2.1[64]?).map (fun z => z.2.1) = some 200 := rfl
theorem ax_cn_69 : (ax_wM0.2.1[69]?).map (fun z => z.2.1) = some 10 := rfl
theorem ax_cn_70 : (ax_wM0.2.1[70]?).map (fun z => z.2.1) = some 20 := rfl
theorem ax_cn_72 : (ax_wM0.2.1[72]?).map (fun z => z.2.1) = some 2163 := rfl
theorem ax_cn_73 : (ax_wM0.2.1[73]?).map (fun z => z.2.1) = some 206 := rfl
/-- what ax_XD says of one name, in any such world -/
noncomputable def ax_XMdg (w : ax_W) (b : Nat) (x : Nat) : Prop := ∀ (vs : List Nat) (dl md : List (Nat × Nat)) (hp hp' : rx_H), ax_wM0.2.2[x]? = some dl → dl.all (fun d => !(md.any (fun y => Nat.beq y.1 d.1 && (Nat.beq y.2 d.2 || (Nat.beq y.2 999 || Nat.beq d.2 999))))) = true → ax_HR w md hp hp' → ax_XM b x vs hp → ax_XM b x vs hp'
theorem ax_XMo_0 {w : ax_W} {b : Nat} (hw : ax_WW w) : ax_XMdg w b 0 := by
  intro vs dl md hp hp' hdl hall hR hX
  match vs, hX with
  | [k], hX =>
    have hdl : [(11, 56), (11, 57)] = dl := Option.some.inj hdl
    subst hdl
    obtain ⟨kk, n, d, u, f, e1, e2, e3, e4⟩ := hX
    obtain ⟨f', e5, e6⟩ := hR.2 173 11 (ax_wc hw ax_cg_173) kk n f e1
    have hD := ax_mem_no (List.all_eq_true.mp hall (11, 56) List.mem_cons_self)
    have hU := ax_mem_no (List.all_eq_true.mp hall (11, 57) (List.mem_cons_of_mem _ List.mem_cons_self))
    exact ⟨kk, n, d, u, f', e5, (e6 _ hD).trans e2, (e6 _ hU).trans e3, e4⟩
  | [], _ => trivial
  | _ :: _ :: _, _ => trivial
theorem ax_XMo_1 {w : ax_W} {b : Nat} (hw : ax_WW w) : ax_XMdg w b 1 := by
  intro vs dl md hp hp' hdl hall hR hX
  match vs, hX with
  | [], hX =>
    have hdl : [(72, 999)] = dl := Option.some.inj hdl
    subst hdl
    obtain ⟨kk, m, f, e1, e2⟩ := hX
    exact ⟨kk, m, f, ax_same hR (q := 202) (ax_wc hw ax_cg_202) (List.all_eq_true.mp hall (72, 999) List.mem_cons_self) e1, e2⟩
  | _ :: _, _ => trivial
theorem ax_XMo_2 {w : ax_W} {b : Nat} (hw : ax_WW w) : ax_XMdg w b 2 := by
  intro vs dl md hp hp' hdl hall hR hX
  match vs, hX with
  | [], hX =>
    have hdl : [(73, 999)] = dl := Option.some.inj hdl
    subst hdl
    obtain ⟨kk, m, f, e1, e2⟩ := hX
    exact ⟨kk, m, f, ax_same hR (q := 203) (ax_wc hw ax_cg_203) (List.all_eq_true.mp hall (73, 999) List.mem_cons_self) e1, e2⟩
  | _ :: _, _ => trivial
theorem ax_XMo_3 {w : ax_W} {b : Nat} (hw : ax_WW w) : ax_XMdg w b 3 := by
  intro vs dl md hp hp' hdl hall hR hX
  match vs, hX with
  | [], hX =>
    have hdl : [(44, 999)] = dl := Option.some.inj hdl
    subst hdl
    obtain ⟨kk, m, f, e1, e2⟩ := hX
    exact ⟨kk, m, f, ax_same hR (q := 174) (ax_wc hw ax_cg_174) (List.all_eq_true.mp hall (44, 999) List.mem_cons_self) e1, e2⟩
  | _ :: _, _ => trivial
theorem ax_XMo_4 {w : ax_W} {b : Nat} (hw : ax_WW w) : ax_XMdg w b 4 := by
  intro vs dl md hp hp' hdl hall hR hX
  match vs, hX with
  | [p], hX =>
    have hdl : [(44, 999)] = dl := Option.some.inj hdl
    subst hdl
    obtain ⟨kk, m, f, e1, e2⟩ := hX
    exact ⟨kk, m, f, ax_same hR (q := 174) (ax_wc hw ax_cg_174) (List.all_eq_true.mp hall (44, 999) List.mem_cons_self) e1, e2⟩
  | [], _ => trivial
  | _ :: _ :: _, _ => trivial
theorem ax_XMo_5 {w : ax_W} {b : Nat} (hw : ax_WW w) : ax_XMdg w b 5 := by
  intro vs dl md hp hp' hdl hall hR hX
  match vs, hX with
  | [s, c], hX =>
    have hdl : [(61, 999)] = dl := Option.some.inj hdl
    subst hdl
    obtain ⟨kk, m, f, e1, e2⟩ := hX
    exact ⟨kk, m, f, ax_same hR (q := 191) (ax_wc hw ax_cg_191) (List.all_eq_true.mp hall (61, 999) List.mem_cons_self) e1, e2⟩
  | [], _ => trivial
  | [_], _ => trivial
  | _ :: _ :: _ :: _, _ => trivial
theorem ax_XMo_6 {w : ax_W} {b : Nat} (hw : ax_WW w) : ax_XMdg w b 6 := by
  intro vs dl md hp hp' hdl hall hR hX
  match vs, hX with
  | [k, s, n], hX => exact hX
  | [], _ => trivial
  | [_], _ => trivial
  | [_, _], _ => trivial
  | _ :: _ :: _ :: _ :: _, _ => trivial
theorem ax_XMo_7 {w : ax_W} {b : Nat} (hw : ax_WW w) : ax_XMdg w b 7 := by
  intro vs dl md hp hp' hdl hall hR hX
  match vs, hX with
  | [k, s], hX => exact hX
  | [], _ => trivial
  | [_], _ => trivial
  | _ :: _ :: _ :: _, _ => trivial
theorem ax_XMo_8 {w : ax_W} {b : Nat} (hw : ax_WW w) : ax_XMdg w b 8 := by
  intro vs dl md hp hp' hdl hall hR hX
  match vs, hX with
  | [s, c], hX =>
    have hdl : [(69, 999)] = dl := Option.some.inj hdl
    subst hdl
    obtain ⟨x0, hX⟩ := hX
    have e0 : ay_at hp' 199 = ay_at hp 199 := ay_same hR x0 (g := 69) (ax_wc hw ax_cg_199) (List.all_eq_true.mp hall (69, 999) (by simp))
    refine ⟨ay_ex_same hR x0 (g := 69) (ax_wc hw ax_cg_199), ?_⟩
    show ay_M8 s c (ay_at hp' 199)
    rw [e0]
    exact hX
  | [], _ => trivial
  | [_], _ => trivial
  | _ :: _ :: _ :: _, _ => trivial
theorem ax_XMo_9 {w : ax_W} {b : Nat} (hw : ax_WW w) : ax_XMdg w b 9 := by
  intro vs dl md hp hp' hdl hall hR hX
  match vs, hX with
  | [f, i], hX =>
    have hdl : [(69, 999)] = dl := Option.some.inj hdl
    subst hdl
    obtain ⟨x0, hX⟩ := hX
    have e0 : ay_at hp' 199 = ay_at hp 199 := ay_same hR x0 (g := 69) (ax_wc hw ax_cg_199) (List.all_eq_true.mp hall (69, 999) (by simp))
    refine ⟨ay_ex_same hR x0 (g := 69) (ax_wc hw ax_cg_199), ?_⟩
    show ay_M9 f i (ay_at hp' 199)
    rw [e0]
    exact hX
  | [], _ => trivial
  | [_], _ => trivial
  | _ :: _ :: _ :: _, _ => trivial
theorem ax_XMo_10 {w : ax_W} {b : Nat} (hw : ax_WW w) : ax_XMdg w b 10 := by
  intro vs dl md hp hp' hdl hall hR hX
  match vs, hX with
  | [f, i], hX =>
    have hdl : [(69, 999)] = dl := Option.some.inj hdl
    subst hdl
    obtain ⟨x0, hX⟩ := hX
    have e0 : ay_at hp' 199 = ay_at hp 199 := ay_same hR x0 (g := 69) (ax_wc hw ax_cg_199) (List.all_eq_true.mp hall (69, 999) (by simp))
    refine ⟨ay_ex_same hR x0 (g := 69) (ax_wc hw ax_cg_199), ?_⟩
    show ay_M10 f i (ay_at hp' 199)
    rw [e0]
    exact hX
  | [], _ => trivial
  | [_], _ => trivial
  | _ :: _ :: _ :: _, _ => trivial
theorem ax_XMo_23 {w : ax_W} {b : Nat} (hw : ax_WW w) : ax_XMdg w b 23 := fun vs dl md hp hp' _ _ _ _ => trivial
theorem ax_XMo_27 {w : ax_W} {b : Nat} (hw : ax_WW w) : ax_XMdg w b 27 := fun vs dl md hp hp' _ _ _ _ => trivial
theorem ax_XMo_35 {w : ax_W} {b : Nat} (hw : ax_WW w) : ax_XMdg w b 35 := fun vs dl md hp hp' _ _ _ _ => trivial
theorem ax_XMo_37 {w : ax_W} {b : Nat} (hw : ax_WW w) : ax_XMdg w b 37 := fun vs dl md hp hp' _ _ _ _ => trivial
theorem ax_XMo_38 {w : ax_W} {b : Nat} (hw : ax_WW w) : ax_XMdg w b 38 := fun vs dl md hp hp' _ _ _ _ => trivial
theorem ax_XMo_39 {w : ax_W} {b : Nat} (hw : ax_WW w) : ax_XMdg w b 39 := fun vs dl md hp hp' _ _ _ _ => trivial
theorem ax_XMo_41 {w : ax_W} {b : Nat} (hw : ax_WW w) : ax_XMdg w b 41 := fun vs dl md hp hp' _ _ _ _ => trivial
theorem ax_XMo_43 {w : ax_W} {b : Nat} (hw : ax_WW w) : ax_XMdg w b 43 := fun vs dl md hp hp' _ _ _ _ => trivial
theorem ax_XMo_44 {w : ax_W} {b : Nat} (hw : ax_WW w) : ax_XMdg w b 44 := fun vs dl md hp hp' _ _ _ _ => trivial
theorem ax_XMo_45 {w : ax_W} {b : Nat} (hw : ax_WW w) : ax_XMdg w b 45 := fun vs dl md hp hp' _ _ _ _ => trivial
theorem ax_XMo_46 {w : ax_W} {b : Nat} (hw : ax_WW w) : ax_XMdg w b 46 := fun vs dl md hp hp' _ _ _ _ => trivial
theorem ax_XMo_47 {w : ax_W} {b : Nat} (hw : ax_WW w) : ax_XMdg w b 47 := fun vs dl md hp hp' _ _ _ _ => trivial
theorem ax_XMo_48 {w : ax_W} {b : Nat} (hw : ax_WW w) : ax_XMdg w b 48 := fun vs dl md hp hp' _ _ _ _ => trivial
theorem ax_XMo_49 {w : ax_W} {b : Nat} (hw : ax_WW w) : ax_XMdg w b 49 := fun vs dl md hp hp' _ _ _ _ => trivial
theorem ax_XMo_51 {w : ax_W} {b : Nat} (hw : ax_WW w) : ax_XMdg w b 51 := fun vs dl md hp hp' _ _ _ _ => trivial
theorem ax_XMo_56 {w : ax_W} {b : Nat} (hw : ax_WW w) : ax_XMdg w b 56 := by
  intro vs dl md hp hp' hdl hall hR hX
  match vs, hX with
  | [k], hX =>
    have hdl : [(11, 27)] = dl := Option.some.inj hdl
    subst hdl
    obtain ⟨x0, hX⟩ := hX
    have e0 : ay_at hp' 173 27 = ay_at hp 173 27 := ay_same1 hR x0 (g := 11) (ax_wc hw ax_cg_173) (List.all_eq_true.mp hall (11, 27) (by simp))
    refine ⟨ay_ex_same hR x0 (g := 11) (ax_wc hw ax_cg_173), ?_⟩
    show ay_M56 k (ay_at hp' 173 27)
    rw [e0]
    exact hX
  | [], _ => trivial
  | _ :: _ :: _, _ => trivial
theorem ax_XMo_57 {w : ax_W} {b : Nat} (hw : ax_WW w) : ax_XMdg w b 57 := by
  intro vs dl md hp hp' hdl hall hR hX
  match vs, hX with
  | [], hX =>
    have hdl : [(11, 27), (55, 999)] = dl := Option.some.inj hdl
    subst hdl
    obtain ⟨x0, x1, hX⟩ := hX
    have e0 : ay_at hp' 173 27 = ay_at hp 173 27 := ay_same1 hR x0 (g := 11) (ax_wc hw ax_cg_173) (List.all_eq_true.mp hall (11, 27) (by simp))
    have e1 : ay_at hp' 185 = ay_at hp 185 := ay_same hR x1 (g := 55) (ax_wc hw ax_cg_185) (List.all_eq_true.mp hall (55, 999) (by simp))
    refine ⟨ay_ex_same hR x0 (g := 11) (ax_wc hw ax_cg_173), ay_ex_same hR x1 (g := 55) (ax_wc hw ax_cg_185), ?_⟩
    show ay_M57 (ay_at hp' 173 27) (ay_at hp' 185)
    rw [e0, e1]
    exact hX
  | _ :: _, _ => trivial
theorem ax_XMo_58 {w : ax_W} {b : Nat} (hw : ax_WW w) : ax_XMdg w b 58 := by
  intro vs dl md hp hp' hdl hall hR hX
  match vs, hX with
  | [], hX =>
    have hdl : [(11, 27), (55, 999)] = dl := Option.some.inj hdl
    subst hdl
    obtain ⟨x0, x1, hX⟩ := hX
    have e0 : ay_at hp' 173 27 = ay_at hp 173 27 := ay_same1 hR x0 (g := 11) (ax_wc hw ax_cg_173) (List.all_eq_true.mp hall (11, 27) (by simp))
    have e1 : ay_at hp' 185 = ay_at hp 185 := ay_same hR x1 (g := 55) (ax_wc hw ax_cg_185) (List.all_eq_true.mp hall (55, 999) (by simp))
    refine ⟨ay_ex_same hR x0 (g := 11) (ax_wc hw ax_cg_173), ay_ex_same hR x1 (g := 55) (ax_wc hw ax_cg_185), ?_⟩
    show ay_M58 (ay_at hp' 173 27) (ay_at hp' 185)
    rw [e0, e1]
    exact hX
  | _ :: _, _ => trivial
theorem ax_XMo_59 {w : ax_W} {b : Nat} (hw : ax_WW w) : ax_XMdg w b 59 := by
  intro vs dl md hp hp' hdl hall hR hX
  match vs, hX with
  | [], hX =>
    have hdl : [(11, 27), (55, 999)] = dl := Option.some.inj hdl
    subst hdl
    obtain ⟨x0, x1, hX⟩ := hX
    have e0 : ay_at hp' 173 27 = ay_at hp 173 27 := ay_same1 hR x0 (g := 11) (ax_wc hw ax_cg_173) (List.all_eq_true.mp hall (11, 27) (by simp))
    have e1 : ay_at hp' 185 = ay_at hp 185 := ay_same hR x1 (g := 55) (ax_wc hw ax_cg_185) (List.all_eq_true.mp hall (55, 999) (by simp))
    refine ⟨ay_ex_same hR x0 (g := 11) (ax_wc hw ax_cg_173), ay_ex_same hR x1 (g := 55) (ax_wc hw ax_cg_185), ?_⟩
    show ay_M59 (ay_at hp' 173 27) (ay_at hp' 185)
    rw [e0, e1]
    exact hX
  | _ :: _, _ => trivial
theorem ax_XMo_60 {w : ax_W} {b : Nat} (hw : ax_WW w) : ax_XMdg w b 60 := fun vs dl md hp hp' _ _ _ _ => trivial
theorem ax_XMo_61 {w : ax_W} {b : Nat} (hw : ax_WW w) : ax_XMdg w b 61 := by
  intro vs dl md hp hp' hdl hall hR hX
  match vs, hX with
  | [], hX =>
    have hdl : [(11, 27), (55, 999)] = dl := Option.some.inj hdl
    subst hdl
    obtain ⟨x0, x1, hX⟩ := hX
    have e0 : ay_at hp' 173 27 = ay_at hp 173 27 := ay_same1 hR x0 (g := 11) (ax_wc hw ax_cg_173) (List.all_eq_true.mp hall (11, 27) (by simp))
    have e1 : ay_at hp' 185 = ay_at hp 185 := ay_same hR x1 (g := 55) (ax_wc hw ax_cg_185) (List.all_eq_true.mp hall (55, 999) (by simp))
    refine ⟨ay_ex_same hR x0 (g := 11) (ax_wc hw ax_cg_173), ay_ex_same hR x1 (g := 55) (ax_wc hw ax_cg_185), ?_⟩
    show ay_M61 (ay_at hp' 173 27) (ay_at hp' 185)
    rw [e0, e1]
    exact hX
  | _ :: _, _ => trivial
theorem ax_XMo_62 {w : ax_W} {b : Nat} (hw : ax_WW w) : ax_XMdg w b 62 := by
  intro vs dl md hp hp' hdl hall hR hX
  match vs, hX with
  | [], hX =>
    have hdl : [(11, 18), (11, 15), (11, 14), (11, 12), (53, 999)] = dl := Option.some.inj hdl
    subst hdl
    obtain ⟨x0, x1, x2, x3, x4, hX⟩ := hX
    have e0 : ay_at hp' 173 18 = ay_at hp 173 18 := ay_same1 hR x0 (g := 11) (ax_wc hw ax_cg_173) (List.all_eq_true.mp hall (11, 18) (by simp))
    have e1 : ay_at hp' 173 15 = ay_at hp 173 15 := ay_same1 hR x1 (g := 11) (ax_wc hw ax_cg_173) (List.all_eq_true.mp hall (11, 15) (by simp))
    have e2 : ay_at hp' 173 14 = ay_at hp 173 14 := ay_same1 hR x2 (g := 11) (ax_wc hw ax_cg_173) (List.all_eq_true.mp hall (11, 14) (by simp))
    have e3 : ay_at hp' 173 12 = ay_at hp 173 12 := ay_same1 hR x3 (g := 11) (ax_wc hw ax_cg_173) (List.all_eq_true.mp hall (11, 12) (by simp))
    have e4 : ay_at hp' 183 = ay_at hp 183 := ay_same hR x4 (g := 53) (ax_wc hw ax_cg_183) (List.all_eq_true.mp hall (53, 999) (by simp))
    refine ⟨ay_ex_same hR x0 (g := 11) (ax_wc hw ax_cg_173), ay_ex_same hR x1 (g := 11) (ax_wc hw ax_cg_173), ay_ex_same hR x2 (g := 11) (ax_wc hw ax_cg_173), ay_ex_same hR x3 (g := 11) (ax_wc hw ax_cg_173), ay_ex_same hR x4 (g := 53) (ax_wc hw ax_cg_183), ?_⟩
    show ay_M62 (ay_at hp' 173 18) (ay_at hp' 173 15) (ay_at hp' 173 14) (ay_at hp' 173 12) (ay_at hp' 183)
    rw [e0, e1, e2, e3, e4]
    exact hX
  | _ :: _, _ => trivial
theorem ax_XMo_63 {w : ax_W} {b : Nat} (hw : ax_WW w) : ax_XMdg w b 63 := fun vs dl md hp hp' _ _ _ _ => trivial
theorem ax_XMo_66 {w : ax_W} {b : Nat} (hw : ax_WW w) : ax_XMdg w b 66 := fun vs dl md hp hp' _ _ _ _ => trivial
theorem ax_XMo_67 {w : ax_W} {b : Nat} (hw : ax_WW w) : ax_XMdg w b 67 := fun vs dl md hp hp' _ _ _ _ => trivial
theorem ax_XMo_68 {w : ax_W} {b : Nat} (hw : ax_WW w) : ax_XMdg w b 68 := fun vs dl md hp hp' _ _ _ _ => trivial
theorem ax_XMo_69 {w : ax_W} {b : Nat} (hw : ax_WW w) : ax_XMdg w b 69 := fun vs dl md hp hp' _ _ _ _ => trivial
theorem ax_XMo_70 {w : ax_W} {b : Nat} (hw : ax_WW w) : ax_XMdg w b 70 := fun vs dl md hp hp' _ _ _ _ => trivial
theorem ax_XMo_71 {w : ax_W} {b : Nat} (hw : ax_WW w) : ax_XMdg w b 71 := fun vs dl md hp hp' _ _ _ _ => trivial
theorem ax_XMo_72 {w : ax_W} {b : Nat} (hw : ax_WW w) : ax_XMdg w b 72 := fun vs dl md hp hp' _ _ _ _ => trivial
theorem ax_XMo_73 {w : ax_W} {b : Nat} (hw : ax_WW w) : ax_XMdg w b 73 := fun vs dl md hp hp' _ _ _ _ => trivial
theorem ax_XMo_74 {w : ax_W} {b : Nat} (hw : ax_WW w) : ax_XMdg w b 74 := fun vs dl md hp hp' _ _ _ _ => trivial
theorem ax_XMo_75 {w : ax_W} {b : Nat} (hw : ax_WW w) : ax_XMdg w b 75 := fun vs dl md hp hp' _ _ _ _ => trivial
theorem ax_XMo_76 {w : ax_W} {b : Nat} (hw : ax_WW w) : ax_XMdg w b 76 := fun vs dl md hp hp' _ _ _ _ => trivial
theorem ax_XMo_77 {w : ax_W} {b : Nat} (hw : ax_WW w) : ax_XMdg w b 77 := fun vs dl md hp hp' _ _ _ _ => trivial
theorem ax_XMo_78 {w : ax_W} {b : Nat} (hw : ax_WW w) : ax_XMdg w b 78 := fun vs dl md hp hp' _ _ _ _ => trivial
theorem ax_XMo_79 {w : ax_W} {b : Nat} (hw : ax_WW w) : ax_XMdg w b 79 := fun vs dl md hp hp' _ _ _ _ => trivial
theorem ax_XMo_80 {w : ax_W} {b : Nat} (hw : ax_WW w) : ax_XMdg w b 80 := fun vs dl md hp hp' _ _ _ _ => trivial
theorem ax_XMo_81 {w : ax_W} {b : Nat} (hw : ax_WW w) : ax_XMdg w b 81 := fun vs dl md hp hp' _ _ _ _ => trivial
theorem ax_XMo_82 {w : ax_W} {b : Nat} (hw : ax_WW w) : ax_XMdg w b 82 := fun vs dl md hp hp' _ _ _ _ => trivial
theorem ax_XMo_83 {w : ax_W} {b : Nat} (hw : ax_WW w) : ax_XMdg w b 83 := fun vs dl md hp hp' _ _ _ _ => trivial
theorem ax_XMo_84 {w : ax_W} {b : Nat} (hw : ax_WW w) : ax_XMdg w b 84 := fun vs dl md hp hp' _ _ _ _ => trivial
theorem ax_XMo_85 {w : ax_W} {b : Nat} (hw : ax_WW w) : ax_XMdg w b 85 := fun vs dl md hp hp' _ _ _ _ => trivial
theorem ax_XMo_86 {w : ax_W} {b : Nat} (hw : ax_WW w) : ax_XMdg w b 86 := fun vs dl md hp hp' _ _ _ _ => trivial
theorem ax_XMo_87 {w : ax_W} {b : Nat} (hw : ax_WW w) : ax_XMdg w b 87 := fun vs dl md hp hp' _ _ _ _ => trivial
theorem ax_XMo_88 {w : ax_W} {b : Nat} (hw : ax_WW w) : ax_XMdg w b 88 := fun vs dl md hp hp' _ _ _ _ => trivial
theorem ax_XMo_89 {w : ax_W} {b : Nat} (hw : ax_WW w) : ax_XMdg w b 89 := fun vs dl md hp hp' _ _ _ _ => trivial
theorem ax_XMo_90 {w : ax_W} {b : Nat} (hw : ax_WW w) : ax_XMdg w b 90 := fun vs dl md hp hp' _ _ _ _ => trivial
theorem ax_XMo_91 {w : ax_W} {b : Nat} (hw : ax_WW w) : ax_XMdg w b 91 := fun vs dl md hp hp' _ _ _ _ => trivial
theorem ax_XMo_92 {w : ax_W} {b : Nat} (hw : ax_WW w) : ax_XMdg w b 92 := fun vs dl md hp hp' _ _ _ _ => trivial
theorem ax_XMo_93 {w : ax_W} {b : Nat} (hw : ax_WW w) : ax_XMdg w b 93 := fun vs dl md hp hp' _ _ _ _ => trivial
theorem ax_XMo_94 {w : ax_W} {b : Nat} (hw : ax_WW w) : ax_XMdg w b 94 := fun vs dl md hp hp' _ _ _ _ => trivial
theorem ax_XMo_95 {w : ax_W} {b : Nat} (hw : ax_WW w) : ax_XMdg w b 95 := fun vs dl md hp hp' _ _ _ _ => trivial
theorem ax_XMo_96 {w : ax_W} {b : Nat} (hw : ax_WW w) : ax_XMdg w b 96 := fun vs dl md hp hp' _ _ _ _ => trivial
theorem ax_XMo_97 {w : ax_W} {b : Nat} (hw : ax_WW w) : ax_XMdg w b 97 := fun vs dl md hp hp' _ _ _ _ => trivial
theorem ax_XMo_98 {w : ax_W} {b : Nat} (hw : ax_WW w) : ax_XMdg w b 98 := fun vs dl md hp hp' _ _ _ _ => trivial
theorem ax_XMo_99 {w : ax_W} {b : Nat} (hw : ax_WW w) : ax_XMdg w b 99 := fun vs dl md hp hp' _ _ _ _ => trivial
theorem ax_XMo_100 {w : ax_W} {b : Nat} (hw : ax_WW w) : ax_XMdg w b 100 := fun vs dl md hp hp' _ _ _ _ => trivial
theorem ax_XMo_101 {w : ax_W} {b : Nat} (hw : ax_WW w) : ax_XMdg w b 101 := fun vs dl md hp hp' _ _ _ _ => trivial
theorem ax_XMo_102 {w : ax_W} {b : Nat} (hw : ax_WW w) : ax_XMdg w b 102 := fun vs dl md hp hp' _ _ _ _ => trivial
theorem ax_XMo_103 {w : ax_W} {b : Nat} (hw : ax_WW w) : ax_XMdg w b 103 := fun vs dl md hp hp' _ _ _ _ => trivial
theorem ax_XMo_104 {w : ax_W} {b : Nat} (hw : ax_WW w) : ax_XMdg w b 104 := fun vs dl md hp hp' _ _ _ _ => trivial
theorem ax_XMo_105 {w : ax_W} {b : Nat} (hw : ax_WW w) : ax_XMdg w b 105 := fun vs dl md hp hp' _ _ _ _ => trivial
theorem ax_XMo_106 {w : ax_W} {b : Nat} (hw : ax_WW w) : ax_XMdg w b 106 := fun vs dl md hp hp' _ _ _ _ => trivial
theorem ax_XMo_107 {w : ax_W} {b : Nat} (hw : ax_WW w) : ax_XMdg w b 107 := fun vs dl md hp hp' _ _ _ _ => trivial
theorem ax_XMo_108 {w : ax_W} {b : Nat} (hw : ax_WW w) : ax_XMdg w b 108 := fun vs dl md hp hp' _ _ _ _ => trivial
theorem ax_XMo_109 {w : ax_W} {b : Nat} (hw : ax_WW w) : ax_XMdg w b 109 := fun vs dl md hp hp' _ _ _ _ => trivial
theorem ax_XMo_110 {w : ax_W} {b : Nat} (hw : ax_WW w) : ax_XMdg w b 110 := fun vs dl md hp hp' _ _ _ _ => trivial
theorem ax_XMo_111 {w : ax_W} {b : Nat} (hw : ax_WW w) : ax_XMdg w b 111 := fun vs dl md hp hp' _ _ _ _ => trivial
theorem ax_XMo_112 {w : ax_W} {b : Nat} (hw : ax_WW w) : ax_XMdg w b 112 := fun vs dl md hp hp' _ _ _ _ => trivial
theorem ax_XMo_113 {w : ax_W} {b : Nat} (hw : ax_WW w) : ax_XMdg w b 113 := fun vs dl md hp hp' _ _ _ _ => trivial
theorem ax_XMo_114 {w : ax_W} {b : Nat} (hw : ax_WW w) : ax_XMdg w b 114 := fun vs dl md hp hp' _ _ _ _ => trivial
theorem ax_XMo_115 {w : ax_W} {b : Nat} (hw : ax_WW w) : ax_XMdg w b 115 := fun vs dl md hp hp' _ _ _ _ => trivial
theorem ax_XMo_116 {w : ax_W} {b : Nat} (hw : ax_WW w) : ax_XMdg w b 116 := fun vs dl md hp hp' _ _ _ _ => trivial
theorem ax_XMo_117 {w : ax_W} {b : Nat} (hw : ax_WW w) : ax_XMdg w b 117 := fun vs dl md hp hp' _ _ _ _ => trivial
theorem ax_XMo_118 {w : ax_W} {b : Nat} (hw : ax_WW w) : ax_XMdg w b 118 := fun vs dl md hp hp' _ _ _ _ => trivial
theorem ax_XMo_119 {w : ax_W} {b : Nat} (hw : ax_WW w) : ax_XMdg w b 119 := fun vs dl md hp hp' _ _ _ _ => trivial
theorem ax_XMo_120 {w : ax_W} {b : Nat} (hw : ax_WW w) : ax_XMdg w b 120 := fun vs dl md hp hp' _ _ _ _ => trivial
theorem ax_XMo_121 {w : ax_W} {b : Nat} (hw : ax_WW w) : ax_XMdg w b 121 := fun vs dl md hp hp' _ _ _ _ => trivial
theorem ax_XMo_122 {w : ax_W} {b : Nat} (hw : ax_WW w) : ax_XMdg w b 122 := fun vs dl md hp hp' _ _ _ _ => trivial
theorem ax_XMo_123 {w : ax_W} {b : Nat} (hw : ax_WW w) : ax_XMdg w b 123 := fun vs dl md hp hp' _ _ _ _ => trivial
theorem ax_XMo_124 {w : ax_W} {b : Nat} (hw : ax_WW w) : ax_XMdg w b 124 := fun vs dl md hp hp' _ _ _ _ => trivial
theorem ax_XMo_125 {w : ax_W} {b : Nat} (hw : ax_WW w) : ax_XMdg w b 125 := fun vs dl md hp hp' _ _ _ _ => trivial
theorem ax_XMo_126 {w : ax_W} {b : Nat} (hw : ax_WW w) : ax_XMdg w b 126 := fun vs dl md hp hp' _ _ _ _ => trivial
theorem ax_XMo_127 {w : ax_W} {b : Nat} (hw : ax_WW w) : ax_XMdg w b 127 := fun vs dl md hp hp' _ _ _ _ => trivial
theorem ax_XMo_128 {w : ax_W} {b : Nat} (hw : ax_WW w) : ax_XMdg w b 128 := fun vs dl md hp hp' _ _ _ _ => trivial
theorem ax_XMo_129 {w : ax_W} {b : Nat} (hw : ax_WW w) : ax_XMdg w b 129 := fun vs dl md hp hp' _ _ _ _ => trivial
theorem ax_XMo_130 {w : ax_W} {b : Nat} (hw : ax_WW w) : ax_XMdg w b 130 := by
  intro vs dl md hp hp' hdl hall hR hX
  match vs, hX with
  | [g], hX =>
    have hdl : [(11, 11), (53, 999)] = dl := Option.some.inj hdl
    subst hdl
    obtain ⟨x0, x1, hX⟩ := hX
    have e0 : ay_at hp' 173 11 = ay_at hp 173 11 := ay_same1 hR x0 (g := 11) (ax_wc hw ax_cg_173) (List.all_eq_true.mp hall (11, 11) (by simp))
    have e1 : ay_at hp' 183 = ay_at hp 183 := ay_same hR x1 (g := 53) (ax_wc hw ax_cg_183) (List.all_eq_true.mp hall (53, 999) (by simp))
    refine ⟨ay_ex_same hR x0 (g := 11) (ax_wc hw ax_cg_173), ay_ex_same hR x1 (g := 53) (ax_wc hw ax_cg_183), ?_⟩
    show pz_x30 g (ay_at hp' 173 11) (ay_at hp' 183)
    rw [e0, e1]
    exact hX
  | [], _ => trivial
  | _ :: _ :: _, _ => trivial
theorem ax_XMo_131 {w : ax_W} {b : Nat} (hw : ax_WW w) : ax_XMdg w b 131 := by
  intro vs dl md hp hp' hdl hall hR hX
  match vs, hX with
  | [g], hX =>
    have hdl : [(11, 12), (53, 999)] = dl := Option.some.inj hdl
    subst hdl
    obtain ⟨x0, x1, hX⟩ := hX
    have e0 : ay_at hp' 173 12 = ay_at hp 173 12 := ay_same1 hR x0 (g := 11) (ax_wc hw ax_cg_173) (List.all_eq_true.mp hall (11, 12) (by simp))
    have e1 : ay_at hp' 183 = ay_at hp 183 := ay_same hR x1 (g := 53) (ax_wc hw ax_cg_183) (List.all_eq_true.mp hall (53, 999) (by simp))
    refine ⟨ay_ex_same hR x0 (g := 11) (ax_wc hw ax_cg_173), ay_ex_same hR x1 (g := 53) (ax_wc hw ax_cg_183), ?_⟩
    show pz_x30 g (ay_at hp' 173 12) (ay_at hp' 183)
    rw [e0, e1]
    exact hX
  | [], _ => trivial
  | _ :: _ :: _, _ => trivial
theorem ax_XMo_132 {w : ax_W} {b : Nat} (hw : ax_WW w) : ax_XMdg w b 132 := fun vs dl md hp hp' _ _ _ _ => trivial
theorem ax_XMo_133 {w : ax_W} {b : Nat} (hw : ax_WW w) : ax_XMdg w b 133 := fun vs dl md hp hp' _ _ _ _ => trivial
theorem ax_XMo_134 {w : ax_W} {b : Nat} (hw : ax_WW w) : ax_XMdg w b 134 := by
  intro vs dl md hp hp' hdl hall hR hX
  match vs, hX with
  | [g, p, q, u, v, w, k, r], hX => exact hX
  | [], _ => trivial
  | [_], _ => trivial
  | [_, _], _ => trivial
  | [_, _, _], _ => trivial
  | [_, _, _, _], _ => trivial
  | [_, _, _, _, _], _ => trivial
  | [_, _, _, _, _, _], _ => trivial
  | [_, _, _, _, _, _, _], _ => trivial
  | _ :: _ :: _ :: _ :: _ :: _ :: _ :: _ :: _ :: _, _ => trivial
theorem ax_XMo_135 {w : ax_W} {b : Nat} (hw : ax_WW w) : ax_XMdg w b 135 := by
  intro vs dl md hp hp' hdl hall hR hX
  match vs, hX with
  | [g], hX =>
    have hdl : [(53, 999)] = dl := Option.some.inj hdl
    subst hdl
    obtain ⟨x0, hX⟩ := hX
    have e0 : ay_at hp' 183 = ay_at hp 183 := ay_same hR x0 (g := 53) (ax_wc hw ax_cg_183) (List.all_eq_true.mp hall (53, 999) (by simp))
    refine ⟨ay_ex_same hR x0 (g := 53) (ax_wc hw ax_cg_183), ?_⟩
    show pz_y135 g (ay_at hp' 183)
    rw [e0]
    exact hX
  | [], _ => trivial
  | _ :: _ :: _, _ => trivial
theorem ax_XMo_136 {w : ax_W} {b : Nat} (hw : ax_WW w) : ax_XMdg w b 136 := by
  intro vs dl md hp hp' hdl hall hR hX
  match vs, hX with
  | [g, p, q, u, v, w, k, r], hX => exact hX
  | [], _ => trivial
  | [_], _ => trivial
  | [_, _], _ => trivial
  | [_, _, _], _ => trivial
  | [_, _, _, _], _ => trivial
  | [_, _, _, _, _], _ => trivial
  | [_, _, _, _, _, _], _ => trivial
  | [_, _, _, _, _, _, _], _ => trivial
  | _ :: _ :: _ :: _ :: _ :: _ :: _ :: _ :: _ :: _, _ => trivial
theorem ax_XMo_137 {w : ax_W} {b : Nat} (hw : ax_WW w) : ax_XMdg w b 137 := by
  intro vs dl md hp hp' hdl hall hR hX
  match vs, hX with
  | [g, p, q, u, v, w, r], hX => exact hX
  | [], _ => trivial
  | [_], _ => trivial
  | [_, _], _ => trivial
  | [_, _, _], _ => trivial
  | [_, _, _, _], _ => trivial
  | [_, _, _, _, _], _ => trivial
  | [_, _, _, _, _, _], _ => trivial
  | _ :: _ :: _ :: _ :: _ :: _ :: _ :: _ :: _, _ => trivial
theorem ax_XMo_138 {w : ax_W} {b : Nat} (hw : ax_WW w) : ax_XMdg w b 138 := by
  intro vs dl md hp hp' hdl hall hR hX
  match vs, hX with
  | [g, n, r], hX => exact hX
  | [], _ => trivial
  | [_], _ => trivial
  | [_, _], _ => trivial
  | _ :: _ :: _ :: _ :: _, _ => trivial
theorem ax_XMo_139 {w : ax_W} {b : Nat} (hw : ax_WW w) : ax_XMdg w b 139 := by
  intro vs dl md hp hp' hdl hall hR hX
  match vs, hX with
  | [g, s], hX => exact hX
  | [], _ => trivial
  | [_], _ => trivial
  | _ :: _ :: _ :: _, _ => trivial
theorem ax_XMo_140 {w : ax_W} {b : Nat} (hw : ax_WW w) : ax_XMdg w b 140 := fun vs dl md hp hp' _ _ _ _ => trivial
theorem ax_XMo_141 {w : ax_W} {b : Nat} (hw : ax_WW w) : ax_XMdg w b 141 := fun vs dl md hp hp' _ _ _ _ => trivial
theorem ax_XMo_142 {w : ax_W} {b : Nat} (hw : ax_WW w) : ax_XMdg w b 142 := fun vs dl md hp hp' _ _ _ _ => trivial
theorem ax_XMo_143 {w : ax_W} {b : Nat} (hw : ax_WW w) : ax_XMdg w b 143 := fun vs dl md hp hp' _ _ _ _ => trivial
theorem ax_XMo_144 {w : ax_W} {b : Nat} (hw : ax_WW w) : ax_XMdg w b 144 := fun vs dl md hp hp' _ _ _ _ => trivial
theorem ax_XMo_145 {w : ax_W} {b : Nat} (hw : ax_WW w) : ax_XMdg w b 145 := fun vs dl md hp hp' _ _ _ _ => trivial
theorem ax_XMo_146 {w : ax_W} {b : Nat} (hw : ax_WW w) : ax_XMdg w b 146 := fun vs dl md hp hp' _ _ _ _ => trivial
theorem ax_XMo_147 {w : ax_W} {b : Nat} (hw : ax_WW w) : ax_XMdg w b 147 := fun vs dl md hp hp' _ _ _ _ => trivial
theorem ax_XMo_148 {w : ax_W} {b : Nat} (hw : ax_WW w) : ax_XMdg w b 148 := fun vs dl md hp hp' _ _ _ _ => trivial
theorem ax_XMo_149 {w : ax_W} {b : Nat} (hw : ax_WW w) : ax_XMdg w b 149 := fun vs dl md hp hp' _ _ _ _ => trivial
theorem ax_XMo_150 {w : ax_W} {b : Nat} (hw : ax_WW w) : ax_XMdg w b 150 := fun vs dl md hp hp' _ _ _ _ => trivial
theorem ax_XMo_151 {w : ax_W} {b : Nat} (hw : ax_WW w) : ax_XMdg w b 151 := by
  intro vs dl md hp hp' hdl hall hR hX
  match vs, hX with
  | [g, n], hX =>
    have hdl : [(11, 13), (11, 14), (11, 15), (11, 16), (11, 17)] = dl := Option.some.inj hdl
    subst hdl
    obtain ⟨x0, x1, x2, x3, x4, hX⟩ := hX
    have e0 : ay_at hp' 173 13 = ay_at hp 173 13 := ay_same1 hR x0 (g := 11) (ax_wc hw ax_cg_173) (List.all_eq_true.mp hall (11, 13) (by simp))
    have e1 : ay_at hp' 173 14 = ay_at hp 173 14 := ay_same1 hR x1 (g := 11) (ax_wc hw ax_cg_173) (List.all_eq_true.mp hall (11, 14) (by simp))
    have e2 : ay_at hp' 173 15 = ay_at hp 173 15 := ay_same1 hR x2 (g := 11) (ax_wc hw ax_cg_173) (List.all_eq_true.mp hall (11, 15) (by simp))
    have e3 : ay_at hp' 173 16 = ay_at hp 173 16 := ay_same1 hR x3 (g := 11) (ax_wc hw ax_cg_173) (List.all_eq_true.mp hall (11, 16) (by simp))
    have e4 : ay_at hp' 173 17 = ay_at hp 173 17 := ay_same1 hR x4 (g := 11) (ax_wc hw ax_cg_173) (List.all_eq_true.mp hall (11, 17) (by simp))
    refine ⟨ay_ex_same hR x0 (g := 11) (ax_wc hw ax_cg_173), ay_ex_same hR x1 (g := 11) (ax_wc hw ax_cg_173), ay_ex_same hR x2 (g := 11) (ax_wc hw ax_cg_173), ay_ex_same hR x3 (g := 11) (ax_wc hw ax_cg_173), ay_ex_same hR x4 (g := 11) (ax_wc hw ax_cg_173), ?_⟩
    show pz_y151 g n (ay_at hp' 173 13) (ay_at hp' 173 14) (ay_at hp' 173 15) (ay_at hp' 173 16) (ay_at hp' 173 17)
    rw [e0, e1, e2, e3, e4]
    exact hX
  | [], _ => trivial
  | [_], _ => trivial
  | _ :: _ :: _ :: _, _ => trivial
theorem ax_XMo_153 {w : ax_W} {b : Nat} (hw : ax_WW w) : ax_XMdg w b 153 := by
  intro vs dl md hp hp' hdl hall hR hX
  match vs, hX with
  | [g, n], hX =>
    have hdl : [(11, 13)] = dl := Option.some.inj hdl
    subst hdl
    obtain ⟨x0, hX⟩ := hX
    have e0 : ay_at hp' 173 13 = ay_at hp 173 13 := ay_same1 hR x0 (g := 11) (ax_wc hw ax_cg_173) (List.all_eq_true.mp hall (11, 13) (by simp))
    refine ⟨ay_ex_same hR x0 (g := 11) (ax_wc hw ax_cg_173), ?_⟩
    show pz_at (pz_gt g) (pz_gN g) (ay_ln (ay_at hp' 173 13)) = pz_at (pz_gt g) (pz_gN g) (pz_p (pz_cF g n))
    rw [e0]
    exact hX
  | [], _ => trivial
  | [_], _ => trivial
  | _ :: _ :: _ :: _, _ => trivial
theorem ax_XMo_154 {w : ax_W} {b : Nat} (hw : ax_WW w) : ax_XMdg w b 154 := by
  intro vs dl md hp hp' hdl hall hR hX
  match vs, hX with
  | [g, n], hX =>
    have hdl : [(11, 14)] = dl := Option.some.inj hdl
    subst hdl
    obtain ⟨x0, hX⟩ := hX
    have e0 : ay_at hp' 173 14 = ay_at hp 173 14 := ay_same1 hR x0 (g := 11) (ax_wc hw ax_cg_173) (List.all_eq_true.mp hall (11, 14) (by simp))
    refine ⟨ay_ex_same hR x0 (g := 11) (ax_wc hw ax_cg_173), ?_⟩
    show ay_ln (ay_at hp' 173 14) = pz_at (pz_gt g) (pz_gN g) (pz_p (pz_cF g n))
    rw [e0]
    exact hX
  | [], _ => trivial
  | [_], _ => trivial
  | _ :: _ :: _ :: _, _ => trivial
theorem ax_XMo_155 {w : ax_W} {b : Nat} (hw : ax_WW w) : ax_XMdg w b 155 := by
  intro vs dl md hp hp' hdl hall hR hX
  match vs, hX with
  | [g, n], hX =>
    have hdl : [(11, 13)] = dl := Option.some.inj hdl
    subst hdl
    obtain ⟨x0, hX⟩ := hX
    have e0 : ay_at hp' 173 13 = ay_at hp 173 13 := ay_same1 hR x0 (g := 11) (ax_wc hw ax_cg_173) (List.all_eq_true.mp hall (11, 13) (by simp))
    refine ⟨ay_ex_same hR x0 (g := 11) (ax_wc hw ax_cg_173), ?_⟩
    show pz_e pz_lt (pz_gt g) (pz_gN g) (ay_ln (ay_at hp' 173 13)) = pz_nx (pz_gt g) (pz_gN g) (pz_p (pz_cF g n))
    rw [e0]
    exact hX
  | [], _ => trivial
  | [_], _ => trivial
  | _ :: _ :: _ :: _, _ => trivial
theorem ax_XMo_156 {w : ax_W} {b : Nat} (hw : ax_WW w) : ax_XMdg w b 156 := by
  intro vs dl md hp hp' hdl hall hR hX
  match vs, hX with
  | [g, n], hX =>
    have hdl : [(11, 13)] = dl := Option.some.inj hdl
    subst hdl
    obtain ⟨x0, hX⟩ := hX
    have e0 : ay_at hp' 173 13 = ay_at hp 173 13 := ay_same1 hR x0 (g := 11) (ax_wc hw ax_cg_173) (List.all_eq_true.mp hall (11, 13) (by simp))
    refine ⟨ay_ex_same hR x0 (g := 11) (ax_wc hw ax_cg_173), ?_⟩
    show ay_ln (ay_at hp' 173 13) = pz_nx (pz_gt g) (pz_gN g) (pz_p (pz_cF g n))
    rw [e0]
    exact hX
  | [], _ => trivial
  | [_], _ => trivial
  | _ :: _ :: _ :: _, _ => trivial
theorem ax_XMo_157 {w : ax_W} {b : Nat} (hw : ax_WW w) : ax_XMdg w b 157 := by
  intro vs dl md hp hp' hdl hall hR hX
  match vs, hX with
  | [g, n], hX =>
    have hdl : [(11, 14)] = dl := Option.some.inj hdl
    subst hdl
    obtain ⟨x0, hX⟩ := hX
    have e0 : ay_at hp' 173 14 = ay_at hp 173 14 := ay_same1 hR x0 (g := 11) (ax_wc hw ax_cg_173) (List.all_eq_true.mp hall (11, 14) (by simp))
    refine ⟨ay_ex_same hR x0 (g := 11) (ax_wc hw ax_cg_173), ?_⟩
    show pz_at (pz_gt g) (pz_gN g) (ay_ln (ay_at hp' 173 14)) = pz_at (pz_gt g) (pz_gN g) (pz_p (pz_cF g n))
    rw [e0]
    exact hX
  | [], _ => trivial
  | [_], _ => trivial
  | _ :: _ :: _ :: _, _ => trivial
theorem ax_XMo_158 {w : ax_W} {b : Nat} (hw : ax_WW w) : ax_XMdg w b 158 := by
  intro vs dl md hp hp' hdl hall hR hX
  match vs, hX with
  | [g, n], hX =>
    have hdl : [(11, 13), (11, 16)] = dl := Option.some.inj hdl
    subst hdl
    obtain ⟨x0, x1, hX⟩ := hX
    have e0 : ay_at hp' 173 13 = ay_at hp 173 13 := ay_same1 hR x0 (g := 11) (ax_wc hw ax_cg_173) (List.all_eq_true.mp hall (11, 13) (by simp))
    have e1 : ay_at hp' 173 16 = ay_at hp 173 16 := ay_same1 hR x1 (g := 11) (ax_wc hw ax_cg_173) (List.all_eq_true.mp hall (11, 16) (by simp))
    refine ⟨ay_ex_same hR x0 (g := 11) (ax_wc hw ax_cg_173), ay_ex_same hR x1 (g := 11) (ax_wc hw ax_cg_173), ?_⟩
    show pz_y158 g n (ay_at hp' 173 13) (ay_at hp' 173 16)
    rw [e0, e1]
    exact hX
  | [], _ => trivial
  | [_], _ => trivial
  | _ :: _ :: _ :: _, _ => trivial
theorem ax_XMo_159 {w : ax_W} {b : Nat} (hw : ax_WW w) : ax_XMdg w b 159 := by
  intro vs dl md hp hp' hdl hall hR hX
  match vs, hX with
  | [g, n], hX =>
    have hdl : [(11, 13), (11, 16)] = dl := Option.some.inj hdl
    subst hdl
    obtain ⟨x0, x1, hX⟩ := hX
    have e0 : ay_at hp' 173 13 = ay_at hp 173 13 := ay_same1 hR x0 (g := 11) (ax_wc hw ax_cg_173) (List.all_eq_true.mp hall (11, 13) (by simp))
    have e1 : ay_at hp' 173 16 = ay_at hp 173 16 := ay_same1 hR x1 (g := 11) (ax_wc hw ax_cg_173) (List.all_eq_true.mp hall (11, 16) (by simp))
    refine ⟨ay_ex_same hR x0 (g := 11) (ax_wc hw ax_cg_173), ay_ex_same hR x1 (g := 11) (ax_wc hw ax_cg_173), ?_⟩
    show pz_y159 g n (ay_at hp' 173 13) (ay_at hp' 173 16)
    rw [e0, e1]
    exact hX
  | [], _ => trivial
  | [_], _ => trivial
  | _ :: _ :: _ :: _, _ => trivial
theorem ax_XMo_160 {w : ax_W} {b : Nat} (hw : ax_WW w) : ax_XMdg w b 160 := by
  intro vs dl md hp hp' hdl hall hR hX
  match vs, hX with
  | [g, n, w], hX => exact hX
  | [], _ => trivial
  | [_], _ => trivial
  | [_, _], _ => trivial
  | _ :: _ :: _ :: _ :: _, _ => trivial
theorem ax_XMo_161 {w : ax_W} {b : Nat} (hw : ax_WW w) : ax_XMdg w b 161 := by
  intro vs dl md hp hp' hdl hall hR hX
  match vs, hX with
  | [g, n, w], hX => exact hX
  | [], _ => trivial
  | [_], _ => trivial
  | [_, _], _ => trivial
  | _ :: _ :: _ :: _ :: _, _ => trivial
theorem ax_XMo_162 {w : ax_W} {b : Nat} (hw : ax_WW w) : ax_XMdg w b 162 := by
  intro vs dl md hp hp' hdl hall hR hX
  match vs, hX with
  | [g, n, w, v], hX => exact hX
  | [], _ => trivial
  | [_], _ => trivial
  | [_, _], _ => trivial
  | [_, _, _], _ => trivial
  | _ :: _ :: _ :: _ :: _ :: _, _ => trivial
theorem ax_XMo_163 {w : ax_W} {b : Nat} (hw : ax_WW w) : ax_XMdg w b 163 := by
  intro vs dl md hp hp' hdl hall hR hX
  match vs, hX with
  | [g], hX =>
    have hdl : [(11, 18), (11, 19)] = dl := Option.some.inj hdl
    subst hdl
    obtain ⟨x0, x1, hX⟩ := hX
    have e0 : ay_at hp' 173 18 = ay_at hp 173 18 := ay_same1 hR x0 (g := 11) (ax_wc hw ax_cg_173) (List.all_eq_true.mp hall (11, 18) (by simp))
    have e1 : ay_at hp' 173 19 = ay_at hp 173 19 := ay_same1 hR x1 (g := 11) (ax_wc hw ax_cg_173) (List.all_eq_true.mp hall (11, 19) (by simp))
    refine ⟨ay_ex_same hR x0 (g := 11) (ax_wc hw ax_cg_173), ay_ex_same hR x1 (g := 11) (ax_wc hw ax_cg_173), ?_⟩
    show pz63 (pz_gt g) (pz_gN g) (ay_ln (ay_at hp' 173 18)) (ay_ln (ay_at hp' 173 19))
    rw [e0, e1]
    exact hX
  | [], _ => trivial
  | _ :: _ :: _, _ => trivial
theorem ax_XMo_164 {w : ax_W} {b : Nat} (hw : ax_WW w) : ax_XMdg w b 164 := by
  intro vs dl md hp hp' hdl hall hR hX
  match vs, hX with
  | [g, n, k], hX => exact hX
  | [], _ => trivial
  | [_], _ => trivial
  | [_, _], _ => trivial
  | _ :: _ :: _ :: _ :: _, _ => trivial
theorem ax_XMo_165 {w : ax_W} {b : Nat} (hw : ax_WW w) : ax_XMdg w b 165 := by
  intro vs dl md hp hp' hdl hall hR hX
  match vs, hX with
  | [g, n, k], hX =>
    have hdl : [(11, 14), (11, 18)] = dl := Option.some.inj hdl
    subst hdl
    obtain ⟨x0, x1, hX⟩ := hX
    have e0 : ay_at hp' 173 14 = ay_at hp 173 14 := ay_same1 hR x0 (g := 11) (ax_wc hw ax_cg_173) (List.all_eq_true.mp hall (11, 14) (by simp))
    have e1 : ay_at hp' 173 18 = ay_at hp 173 18 := ay_same1 hR x1 (g := 11) (ax_wc hw ax_cg_173) (List.all_eq_true.mp hall (11, 18) (by simp))
    refine ⟨ay_ex_same hR x0 (g := 11) (ax_wc hw ax_cg_173), ay_ex_same hR x1 (g := 11) (ax_wc hw ax_cg_173), ?_⟩
    show pz_y165 g n k (ay_at hp' 173 14) (ay_at hp' 173 18)
    rw [e0, e1]
    exact hX
  | [], _ => trivial
  | [_], _ => trivial
  | [_, _], _ => trivial
  | _ :: _ :: _ :: _ :: _, _ => trivial
theorem ax_XMo_166 {w : ax_W} {b : Nat} (hw : ax_WW w) : ax_XMdg w b 166 := by
  intro vs dl md hp hp' hdl hall hR hX
  match vs, hX with
  | [g, n, v], hX => exact hX
  | [], _ => trivial
  | [_], _ => trivial
  | [_, _], _ => trivial
  | _ :: _ :: _ :: _ :: _, _ => trivial
theorem ax_XMo_167 {w : ax_W} {b : Nat} (hw : ax_WW w) : ax_XMdg w b 167 := by
  intro vs dl md hp hp' hdl hall hR hX
  match vs, hX with
  | [g, n, a], hX => exact hX
  | [], _ => trivial
  | [_], _ => trivial
  | [_, _], _ => trivial
  | _ :: _ :: _ :: _ :: _, _ => trivial
theorem ax_XMo_168 {w : ax_W} {b : Nat} (hw : ax_WW w) : ax_XMdg w b 168 := by
  intro vs dl md hp hp' hdl hall hR hX
  match vs, hX with
  | [g, n, k], hX => exact hX
  | [], _ => trivial
  | [_], _ => trivial
  | [_, _], _ => trivial
  | _ :: _ :: _ :: _ :: _, _ => trivial
theorem ax_XMo_169 {w : ax_W} {b : Nat} (hw : ax_WW w) : ax_XMdg w b 169 := by
  intro vs dl md hp hp' hdl hall hR hX
  match vs, hX with
  | [g, n, k], hX => exact hX
  | [], _ => trivial
  | [_], _ => trivial
  | [_, _], _ => trivial
  | _ :: _ :: _ :: _ :: _, _ => trivial
theorem ax_XMo_170 {w : ax_W} {b : Nat} (hw : ax_WW w) : ax_XMdg w b 170 := by
  intro vs dl md hp hp' hdl hall hR hX
  match vs, hX with
  | [g, n], hX => exact hX
  | [], _ => trivial
  | [_], _ => trivial
  | _ :: _ :: _ :: _, _ => trivial
theorem ax_XMo_171 {w : ax_W} {b : Nat} (hw : ax_WW w) : ax_XMdg w b 171 := by
  intro vs dl md hp hp' hdl hall hR hX
  match vs, hX with
  | [g, n], hX => exact hX
  | [], _ => trivial
  | [_], _ => trivial
  | _ :: _ :: _ :: _, _ => trivial
theorem ax_XMo_172 {w : ax_W} {b : Nat} (hw : ax_WW w) : ax_XMdg w b 172 := by
  intro vs dl md hp hp' hdl hall hR hX
  match vs, hX with
  | [g, n], hX => exact hX
  | [], _ => trivial
  | [_], _ => trivial
  | _ :: _ :: _ :: _, _ => trivial
theorem ax_XMo_173 {w : ax_W} {b : Nat} (hw : ax_WW w) : ax_XMdg w b 173 := by
  intro vs dl md hp hp' hdl hall hR hX
  match vs, hX with
  | [g, n], hX => exact hX
  | [], _ => trivial
  | [_], _ => trivial
  | _ :: _ :: _ :: _, _ => trivial
theorem ax_XMo_174 {w : ax_W} {b : Nat} (hw : ax_WW w) : ax_XMdg w b 174 := by
  intro vs dl md hp hp' hdl hall hR hX
  match vs, hX with
  | [g, n], hX => exact hX
  | [], _ => trivial
  | [_], _ => trivial
  | _ :: _ :: _ :: _, _ => trivial
theorem ax_XMo_175 {w : ax_W} {b : Nat} (hw : ax_WW w) : ax_XMdg w b 175 := by
  intro vs dl md hp hp' hdl hall hR hX
  match vs, hX with
  | [g, n], hX => exact hX
  | [], _ => trivial
  | [_], _ => trivial
  | _ :: _ :: _ :: _, _ => trivial
theorem ax_XMo_176 {w : ax_W} {b : Nat} (hw : ax_WW w) : ax_XMdg w b 176 := by
  intro vs dl md hp hp' hdl hall hR hX
  match vs, hX with
  | [g, n], hX => exact hX
  | [], _ => trivial
  | [_], _ => trivial
  | _ :: _ :: _ :: _, _ => trivial
theorem ax_XMo_177 {w : ax_W} {b : Nat} (hw : ax_WW w) : ax_XMdg w b 177 := by
  intro vs dl md hp hp' hdl hall hR hX
  match vs, hX with
  | [g, n], hX => exact hX
  | [], _ => trivial
  | [_], _ => trivial
  | _ :: _ :: _ :: _, _ => trivial
theorem ax_XMo_178 {w : ax_W} {b : Nat} (hw : ax_WW w) : ax_XMdg w b 178 := by
  intro vs dl md hp hp' hdl hall hR hX
  match vs, hX with
  | [g, n], hX => exact hX
  | [], _ => trivial
  | [_], _ => trivial
  | _ :: _ :: _ :: _, _ => trivial
theorem ax_XMo_179 {w : ax_W} {b : Nat} (hw : ax_WW w) : ax_XMdg w b 179 := by
  intro vs dl md hp hp' hdl hall hR hX
  match vs, hX with
  | [g, n], hX => exact hX
  | [], _ => trivial
  | [_], _ => trivial
  | _ :: _ :: _ :: _, _ => trivial
theorem ax_XMo_180 {w : ax_W} {b : Nat} (hw : ax_WW w) : ax_XMdg w b 180 := by
  intro vs dl md hp hp' hdl hall hR hX
  match vs, hX with
  | [g, n, s, u], hX => exact hX
  | [], _ => trivial
  | [_], _ => trivial
  | [_, _], _ => trivial
  | [_, _, _], _ => trivial
  | _ :: _ :: _ :: _ :: _ :: _, _ => trivial
theorem ax_XMo_181 {w : ax_W} {b : Nat} (hw : ax_WW w) : ax_XMdg w b 181 := by
  intro vs dl md hp hp' hdl hall hR hX
  match vs, hX with
  | [g, n], hX => exact hX
  | [], _ => trivial
  | [_], _ => trivial
  | _ :: _ :: _ :: _, _ => trivial
theorem ax_XMo_182 {w : ax_W} {b : Nat} (hw : ax_WW w) : ax_XMdg w b 182 := by
  intro vs dl md hp hp' hdl hall hR hX
  match vs, hX with
  | [n, m], hX => exact hX
  | [], _ => trivial
  | [_], _ => trivial
  | _ :: _ :: _ :: _, _ => trivial
theorem ax_XMo_183 {w : ax_W} {b : Nat} (hw : ax_WW w) : ax_XMdg w b 183 := fun vs dl md hp hp' _ _ _ _ => trivial
theorem ax_XMo_184 {w : ax_W} {b : Nat} (hw : ax_WW w) : ax_XMdg w b 184 := fun vs dl md hp hp' _ _ _ _ => trivial
theorem ax_XMo_185 {w : ax_W} {b : Nat} (hw : ax_WW w) : ax_XMdg w b 185 := fun vs dl md hp hp' _ _ _ _ => trivial
theorem ax_XMo_186 {w : ax_W} {b : Nat} (hw : ax_WW w) : ax_XMdg w b 186 := fun vs dl md hp hp' _ _ _ _ => trivial
theorem ax_XMo_187 {w : ax_W} {b : Nat} (hw : ax_WW w) : ax_XMdg w b 187 := by
  intro vs dl md hp hp' hdl hall hR hX
  match vs, hX with
  | [g, n, s], hX => exact hX
  | [], _ => trivial
  | [_], _ => trivial
  | [_, _], _ => trivial
  | _ :: _ :: _ :: _ :: _, _ => trivial
theorem ax_XMo_188 {w : ax_W} {b : Nat} (hw : ax_WW w) : ax_XMdg w b 188 := by
  intro vs dl md hp hp' hdl hall hR hX
  match vs, hX with
  | [g, n, s], hX => exact hX
  | [], _ => trivial
  | [_], _ => trivial
  | [_, _], _ => trivial
  | _ :: _ :: _ :: _ :: _, _ => trivial
theorem ax_XMo_189 {w : ax_W} {b : Nat} (hw : ax_WW w) : ax_XMdg w b 189 := by
  intro vs dl md hp hp' hdl hall hR hX
  match vs, hX with
  | [s], hX => exact hX
  | [], _ => trivial
  | _ :: _ :: _, _ => trivial
theorem ax_XMo_190 {w : ax_W} {b : Nat} (hw : ax_WW w) : ax_XMdg w b 190 := by
  intro vs dl md hp hp' hdl hall hR hX
  match vs, hX with
  | [g, n, s], hX => exact hX
  | [], _ => trivial
  | [_], _ => trivial
  | [_, _], _ => trivial
  | _ :: _ :: _ :: _ :: _, _ => trivial
theorem ax_XMo_191 {w : ax_W} {b : Nat} (hw : ax_WW w) : ax_XMdg w b 191 := fun vs dl md hp hp' _ _ _ _ => trivial
theorem ax_XMo_192 {w : ax_W} {b : Nat} (hw : ax_WW w) : ax_XMdg w b 192 := by
  intro vs dl md hp hp' hdl hall hR hX
  match vs, hX with
  | [s, r], hX => exact hX
  | [], _ => trivial
  | [_], _ => trivial
  | _ :: _ :: _ :: _, _ => trivial
theorem ax_XMo_193 {w : ax_W} {b : Nat} (hw : ax_WW w) : ax_XMdg w b 193 := by
  intro vs dl md hp hp' hdl hall hR hX
  match vs, hX with
  | [r, s], hX => exact hX
  | [], _ => trivial
  | [_], _ => trivial
  | _ :: _ :: _ :: _, _ => trivial
theorem ax_XMo_194 {w : ax_W} {b : Nat} (hw : ax_WW w) : ax_XMdg w b 194 := by
  intro vs dl md hp hp' hdl hall hR hX
  match vs, hX with
  | [g, n], hX => exact hX
  | [], _ => trivial
  | [_], _ => trivial
  | _ :: _ :: _ :: _, _ => trivial
theorem ax_XMo_195 {w : ax_W} {b : Nat} (hw : ax_WW w) : ax_XMdg w b 195 := by
  intro vs dl md hp hp' hdl hall hR hX
  match vs, hX with
  | [s], hX =>
    have hdl : [(11, 28)] = dl := Option.some.inj hdl
    subst hdl
    obtain ⟨x0, hX⟩ := hX
    have e0 : ay_at hp' 173 28 = ay_at hp 173 28 := ay_same1 hR x0 (g := 11) (ax_wc hw ax_cg_173) (List.all_eq_true.mp hall (11, 28) (by simp))
    refine ⟨ay_ex_same hR x0 (g := 11) (ax_wc hw ax_cg_173), ?_⟩
    show ay_ln (ay_at hp' 173 28) = pz_dp (s / 4)
    rw [e0]
    exact hX
  | [], _ => trivial
  | _ :: _ :: _, _ => trivial
theorem ax_XMo_196 {w : ax_W} {b : Nat} (hw : ax_WW w) : ax_XMdg w b 196 := by
  intro vs dl md hp hp' hdl hall hR hX
  match vs, hX with
  | [s], hX =>
    have hdl : [(11, 27), (55, 999)] = dl := Option.some.inj hdl
    subst hdl
    obtain ⟨x0, x1, hX⟩ := hX
    have e0 : ay_at hp' 173 27 = ay_at hp 173 27 := ay_same1 hR x0 (g := 11) (ax_wc hw ax_cg_173) (List.all_eq_true.mp hall (11, 27) (by simp))
    have e1 : ay_at hp' 185 = ay_at hp 185 := ay_same hR x1 (g := 55) (ax_wc hw ax_cg_185) (List.all_eq_true.mp hall (55, 999) (by simp))
    refine ⟨ay_ex_same hR x0 (g := 11) (ax_wc hw ax_cg_173), ay_ex_same hR x1 (g := 55) (ax_wc hw ax_cg_185), ?_⟩
    show pz_y196 s (ay_at hp' 173 27) (ay_at hp' 185)
    rw [e0, e1]
    exact hX
  | [], _ => trivial
  | _ :: _ :: _, _ => trivial
theorem ax_XMo_197 {w : ax_W} {b : Nat} (hw : ax_WW w) : ax_XMdg w b 197 := by
  intro vs dl md hp hp' hdl hall hR hX
  match vs, hX with
  | [g, n, s], hX => exact hX
  | [], _ => trivial
  | [_], _ => trivial
  | [_, _], _ => trivial
  | _ :: _ :: _ :: _ :: _, _ => trivial
theorem ax_XMo_198 {w : ax_W} {b : Nat} (hw : ax_WW w) : ax_XMdg w b 198 := by
  intro vs dl md hp hp' hdl hall hR hX
  match vs, hX with
  | [g, n], hX => exact hX
  | [], _ => trivial
  | [_], _ => trivial
  | _ :: _ :: _ :: _, _ => trivial
theorem ax_XMo_199 {w : ax_W} {b : Nat} (hw : ax_WW w) : ax_XMdg w b 199 := by
  intro vs dl md hp hp' hdl hall hR hX
  match vs, hX with
  | [g, n, s], hX => exact hX
  | [], _ => trivial
  | [_], _ => trivial
  | [_, _], _ => trivial
  | _ :: _ :: _ :: _ :: _, _ => trivial
theorem ax_XMo_200 {w : ax_W} {b : Nat} (hw : ax_WW w) : ax_XMdg w b 200 := fun vs dl md hp hp' _ _ _ _ => trivial
theorem ax_XMo_201 {w : ax_W} {b : Nat} (hw : ax_WW w) : ax_XMdg w b 201 := fun vs dl md hp hp' _ _ _ _ => trivial
theorem ax_XMo_202 {w : ax_W} {b : Nat} (hw : ax_WW w) : ax_XMdg w b 202 := fun vs dl md hp hp' _ _ _ _ => trivial
theorem ax_XMo_203 {w : ax_W} {b : Nat} (hw : ax_WW w) : ax_XMdg w b 203 := by
  intro vs dl md hp hp' hdl hall hR hX
  match vs, hX with
  | [g, n, m], hX => exact hX
  | [], _ => trivial
  | [_], _ => trivial
  | [_, _], _ => trivial
  | _ :: _ :: _ :: _ :: _, _ => trivial
theorem ax_XMo_204 {w : ax_W} {b : Nat} (hw : ax_WW w) : ax_XMdg w b 204 := by
  intro vs dl md hp hp' hdl hall hR hX
  match vs, hX with
  | [g, n, v], hX => exact hX
  | [], _ => trivial
  | [_], _ => trivial
  | [_, _], _ => trivial
  | _ :: _ :: _ :: _ :: _, _ => trivial
theorem ax_XMo_205 {w : ax_W} {b : Nat} (hw : ax_WW w) : ax_XMdg w b 205 := fun vs dl md hp hp' _ _ _ _ => trivial
theorem ax_XMo_206 {w : ax_W} {b : Nat} (hw : ax_WW w) : ax_XMdg w b 206 := fun vs dl md hp hp' _ _ _ _ => trivial
theorem ax_XMo_207 {w : ax_W} {b : Nat} (hw : ax_WW w) : ax_XMdg w b 207 := by
  intro vs dl md hp hp' hdl hall hR hX
  match vs, hX with
  | [g, n, o], hX => exact hX
  | [], _ => trivial
  | [_], _ => trivial
  | [_, _], _ => trivial
  | _ :: _ :: _ :: _ :: _, _ => trivial
theorem ax_XMo_208 {w : ax_W} {b : Nat} (hw : ax_WW w) : ax_XMdg w b 208 := by
  intro vs dl md hp hp' hdl hall hR hX
  match vs, hX with
  | [s, r], hX => exact hX
  | [], _ => trivial
  | [_], _ => trivial
  | _ :: _ :: _ :: _, _ => trivial
theorem ax_XMo_209 {w : ax_W} {b : Nat} (hw : ax_WW w) : ax_XMdg w b 209 := by
  intro vs dl md hp hp' hdl hall hR hX
  match vs, hX with
  | [s, r], hX => exact hX
  | [], _ => trivial
  | [_], _ => trivial
  | _ :: _ :: _ :: _, _ => trivial
theorem ax_XMo_211 {w : ax_W} {b : Nat} (hw : ax_WW w) : ax_XMdg w b 211 := by
  intro vs dl md hp hp' hdl hall hR hX
  match vs, hX with
  | [g, n], hX => exact hX
  | [], _ => trivial
  | [_], _ => trivial
  | _ :: _ :: _ :: _, _ => trivial
theorem ax_XMo_212 {w : ax_W} {b : Nat} (hw : ax_WW w) : ax_XMdg w b 212 := by
  intro vs dl md hp hp' hdl hall hR hX
  match vs, hX with
  | [g, n, w, i], hX => exact hX
  | [], _ => trivial
  | [_], _ => trivial
  | [_, _], _ => trivial
  | [_, _, _], _ => trivial
  | _ :: _ :: _ :: _ :: _ :: _, _ => trivial
theorem ax_XMo_213 {w : ax_W} {b : Nat} (hw : ax_WW w) : ax_XMdg w b 213 := by
  intro vs dl md hp hp' hdl hall hR hX
  match vs, hX with
  | [g, n, a, e], hX => exact hX
  | [], _ => trivial
  | [_], _ => trivial
  | [_, _], _ => trivial
  | [_, _, _], _ => trivial
  | _ :: _ :: _ :: _ :: _ :: _, _ => trivial
theorem ax_XMo_214 {w : ax_W} {b : Nat} (hw : ax_WW w) : ax_XMdg w b 214 := by
  intro vs dl md hp hp' hdl hall hR hX
  match vs, hX with
  | [g, n, a, e], hX => exact hX
  | [], _ => trivial
  | [_], _ => trivial
  | [_, _], _ => trivial
  | [_, _, _], _ => trivial
  | _ :: _ :: _ :: _ :: _ :: _, _ => trivial
theorem ax_XMo_215 {w : ax_W} {b : Nat} (hw : ax_WW w) : ax_XMdg w b 215 := by
  intro vs dl md hp hp' hdl hall hR hX
  match vs, hX with
  | [g, n, a, e, i], hX => exact hX
  | [], _ => trivial
  | [_], _ => trivial
  | [_, _], _ => trivial
  | [_, _, _], _ => trivial
  | [_, _, _, _], _ => trivial
  | _ :: _ :: _ :: _ :: _ :: _ :: _, _ => trivial
theorem ax_XMo_218 {w : ax_W} {b : Nat} (hw : ax_WW w) : ax_XMdg w b 218 := fun vs dl md hp hp' _ _ _ _ => trivial
theorem ax_XMo_219 {w : ax_W} {b : Nat} (hw : ax_WW w) : ax_XMdg w b 219 := fun vs dl md hp hp' _ _ _ _ => trivial
theorem ax_XMo_220 {w : ax_W} {b : Nat} (hw : ax_WW w) : ax_XMdg w b 220 := fun vs dl md hp hp' _ _ _ _ => trivial
theorem ax_XMo_221 {w : ax_W} {b : Nat} (hw : ax_WW w) : ax_XMdg w b 221 := fun vs dl md hp hp' _ _ _ _ => trivial
theorem ax_XMo_222 {w : ax_W} {b : Nat} (hw : ax_WW w) : ax_XMdg w b 222 := by
  intro vs dl md hp hp' hdl hall hR hX
  match vs, hX with
  | [g, n], hX =>
    have hdl : [(11, 23)] = dl := Option.some.inj hdl
    subst hdl
    obtain ⟨x0, hX⟩ := hX
    have e0 : ay_at hp' 173 23 = ay_at hp 173 23 := ay_same1 hR x0 (g := 11) (ax_wc hw ax_cg_173) (List.all_eq_true.mp hall (11, 23) (by simp))
    refine ⟨ay_ex_same hR x0 (g := 11) (ax_wc hw ax_cg_173), ?_⟩
    show (pz61 (pz_gt g) (pz_gN g) (n / 4) 2 ∨ ay_ln (ay_at hp' 173 23) = 1)
    rw [e0]
    exact hX
  | [], _ => trivial
  | [_], _ => trivial
  | _ :: _ :: _ :: _, _ => trivial
theorem ax_XMo_223 {w : ax_W} {b : Nat} (hw : ax_WW w) : ax_XMdg w b 223 := by
  intro vs dl md hp hp' hdl hall hR hX
  match vs, hX with
  | [g, n], hX =>
    have hdl : [(11, 25)] = dl := Option.some.inj hdl
    subst hdl
    obtain ⟨x0, hX⟩ := hX
    have e0 : ay_at hp' 173 25 = ay_at hp 173 25 := ay_same1 hR x0 (g := 11) (ax_wc hw ax_cg_173) (List.all_eq_true.mp hall (11, 25) (by simp))
    refine ⟨ay_ex_same hR x0 (g := 11) (ax_wc hw ax_cg_173), ?_⟩
    show (pz61 (pz_gt g) (pz_gN g) (n / 4) 3 ∨ ay_ln (ay_at hp' 173 25) = 1)
    rw [e0]
    exact hX
  | [], _ => trivial
  | [_], _ => trivial
  | _ :: _ :: _ :: _, _ => trivial
theorem ax_XMo_224 {w : ax_W} {b : Nat} (hw : ax_WW w) : ax_XMdg w b 224 := by
  intro vs dl md hp hp' hdl hall hR hX
  match vs, hX with
  | [g, n], hX =>
    have hdl : [(11, 24)] = dl := Option.some.inj hdl
    subst hdl
    obtain ⟨x0, hX⟩ := hX
    have e0 : ay_at hp' 173 24 = ay_at hp 173 24 := ay_same1 hR x0 (g := 11) (ax_wc hw ax_cg_173) (List.all_eq_true.mp hall (11, 24) (by simp))
    refine ⟨ay_ex_same hR x0 (g := 11) (ax_wc hw ax_cg_173), ?_⟩
    show (pz61 (pz_gt g) (pz_gN g) (n / 4) 4 ∨ ay_ln (ay_at hp' 173 24) = 1)
    rw [e0]
    exact hX
  | [], _ => trivial
  | [_], _ => trivial
  | _ :: _ :: _ :: _, _ => trivial
theorem ax_XMo_225 {w : ax_W} {b : Nat} (hw : ax_WW w) : ax_XMdg w b 225 := fun vs dl md hp hp' _ _ _ _ => trivial
theorem ax_XMo_226 {w : ax_W} {b : Nat} (hw : ax_WW w) : ax_XMdg w b 226 := by
  intro vs dl md hp hp' hdl hall hR hX
  match vs, hX with
  | [g, v], hX => exact hX
  | [], _ => trivial
  | [_], _ => trivial
  | _ :: _ :: _ :: _, _ => trivial
theorem ax_XMo_227 {w : ax_W} {b : Nat} (hw : ax_WW w) : ax_XMdg w b 227 := by
  intro vs dl md hp hp' hdl hall hR hX
  match vs, hX with
  | [], hX =>
    have hdl : [(11, 20), (11, 21)] = dl := Option.some.inj hdl
    subst hdl
    obtain ⟨x0, x1, hX⟩ := hX
    have e0 : ay_at hp' 173 20 = ay_at hp 173 20 := ay_same1 hR x0 (g := 11) (ax_wc hw ax_cg_173) (List.all_eq_true.mp hall (11, 20) (by simp))
    have e1 : ay_at hp' 173 21 = ay_at hp 173 21 := ay_same1 hR x1 (g := 11) (ax_wc hw ax_cg_173) (List.all_eq_true.mp hall (11, 21) (by simp))
    refine ⟨ay_ex_same hR x0 (g := 11) (ax_wc hw ax_cg_173), ay_ex_same hR x1 (g := 11) (ax_wc hw ax_cg_173), ?_⟩
    show (ay_ln (ay_at hp' 173 20) = 0 ∧ ay_ln (ay_at hp' 173 21) = 4294967295)
    rw [e0, e1]
    exact hX
  | _ :: _, _ => trivial
theorem ax_XMo_228 {w : ax_W} {b : Nat} (hw : ax_WW w) : ax_XMdg w b 228 := by
  intro vs dl md hp hp' hdl hall hR hX
  match vs, hX with
  | [g], hX =>
    have hdl : [(11, 20), (11, 21)] = dl := Option.some.inj hdl
    subst hdl
    obtain ⟨x0, x1, hX⟩ := hX
    have e0 : ay_at hp' 173 20 = ay_at hp 173 20 := ay_same1 hR x0 (g := 11) (ax_wc hw ax_cg_173) (List.all_eq_true.mp hall (11, 20) (by simp))
    have e1 : ay_at hp' 173 21 = ay_at hp 173 21 := ay_same1 hR x1 (g := 11) (ax_wc hw ax_cg_173) (List.all_eq_true.mp hall (11, 21) (by simp))
    refine ⟨ay_ex_same hR x0 (g := 11) (ax_wc hw ax_cg_173), ay_ex_same hR x1 (g := 11) (ax_wc hw ax_cg_173), ?_⟩
    show pz63 (pz_gt g) (pz_gN g) (ay_ln (ay_at hp' 173 20)) (ay_ln (ay_at hp' 173 21))
    rw [e0, e1]
    exact hX
  | [], _ => trivial
  | _ :: _ :: _, _ => trivial
theorem ax_XMo_229 {w : ax_W} {b : Nat} (hw : ax_WW w) : ax_XMdg w b 229 := fun vs dl md hp hp' _ _ _ _ => trivial
theorem ax_XMo_230 {w : ax_W} {b : Nat} (hw : ax_WW w) : ax_XMdg w b 230 := fun vs dl md hp hp' _ _ _ _ => trivial
theorem ax_XMo_231 {w : ax_W} {b : Nat} (hw : ax_WW w) : ax_XMdg w b 231 := fun vs dl md hp hp' _ _ _ _ => trivial
theorem ax_XMo_232 {w : ax_W} {b : Nat} (hw : ax_WW w) : ax_XMdg w b 232 := fun vs dl md hp hp' _ _ _ _ => trivial
theorem ax_XMo_233 {w : ax_W} {b : Nat} (hw : ax_WW w) : ax_XMdg w b 233 := fun vs dl md hp hp' _ _ _ _ => trivial
theorem ax_XMo_234 {w : ax_W} {b : Nat} (hw : ax_WW w) : ax_XMdg w b 234 := fun vs dl md hp hp' _ _ _ _ => trivial
theorem ax_XMo_235 {w : ax_W} {b : Nat} (hw : ax_WW w) : ax_XMdg w b 235 := fun vs dl md hp hp' _ _ _ _ => trivial
theorem ax_XMo_236 {w : ax_W} {b : Nat} (hw : ax_WW w) : ax_XMdg w b 236 := fun vs dl md hp hp' _ _ _ _ => trivial
theorem ax_XMo_237 {w : ax_W} {b : Nat} (hw : ax_WW w) : ax_XMdg w b 237 := fun vs dl md hp hp' _ _ _ _ => trivial
theorem ax_XMo_238 {w : ax_W} {b : Nat} (hw : ax_WW w) : ax_XMdg w b 238 := fun vs dl md hp hp' _ _ _ _ => trivial
theorem ax_XMo_239 {w : ax_W} {b : Nat} (hw : ax_WW w) : ax_XMdg w b 239 := fun vs dl md hp hp' _ _ _ _ => trivial
theorem ax_XMo_240 {w : ax_W} {b : Nat} (hw : ax_WW w) : ax_XMdg w b 240 := fun vs dl md hp hp' _ _ _ _ => trivial
theorem ax_XMo_242 {w : ax_W} {b : Nat} (hw : ax_WW w) : ax_XMdg w b 242 := by
  intro vs dl md hp hp' hdl hall hR hX
  match vs, hX with
  | [s], hX =>
    have hdl : [(11, 27), (55, 999)] = dl := Option.some.inj hdl
    subst hdl
    obtain ⟨x0, x1, hX⟩ := hX
    have e0 : ay_at hp' 173 27 = ay_at hp 173 27 := ay_same1 hR x0 (g := 11) (ax_wc hw ax_cg_173) (List.all_eq_true.mp hall (11, 27) (by simp))
    have e1 : ay_at hp' 185 = ay_at hp 185 := ay_same hR x1 (g := 55) (ax_wc hw ax_cg_185) (List.all_eq_true.mp hall (55, 999) (by simp))
    refine ⟨ay_ex_same hR x0 (g := 11) (ax_wc hw ax_cg_173), ay_ex_same hR x1 (g := 55) (ax_wc hw ax_cg_185), ?_⟩
    show py_y242 s (ay_at hp' 173 27) (ay_at hp' 185)
    rw [e0, e1]
    exact hX
  | [], _ => trivial
  | _ :: _ :: _, _ => trivial
theorem ax_XMo_244 {w : ax_W} {b : Nat} (hw : ax_WW w) : ax_XMdg w b 244 := fun vs dl md hp hp' _ _ _ _ => trivial
theorem ax_XMo_245 {w : ax_W} {b : Nat} (hw : ax_WW w) : ax_XMdg w b 245 := fun vs dl md hp hp' _ _ _ _ => trivial
theorem ax_XMo_246 {w : ax_W} {b : Nat} (hw : ax_WW w) : ax_XMdg w b 246 := by
  intro vs dl md hp hp' hdl hall hR hX
  match vs, hX with
  | [g, n, s, l], hX => exact hX
  | [], _ => trivial
  | [_], _ => trivial
  | [_, _], _ => trivial
  | [_, _, _], _ => trivial
  | _ :: _ :: _ :: _ :: _ :: _, _ => trivial
theorem ax_XMo_247 {w : ax_W} {b : Nat} (hw : ax_WW w) : ax_XMdg w b 247 := by
  intro vs dl md hp hp' hdl hall hR hX
  match vs, hX with
  | [g, n, s, l], hX => exact hX
  | [], _ => trivial
  | [_], _ => trivial
  | [_, _], _ => trivial
  | [_, _, _], _ => trivial
  | _ :: _ :: _ :: _ :: _ :: _, _ => trivial
theorem ax_XMo_248 {w : ax_W} {b : Nat} (hw : ax_WW w) : ax_XMdg w b 248 := by
  intro vs dl md hp hp' hdl hall hR hX
  match vs, hX with
  | [g, n, l], hX => exact hX
  | [], _ => trivial
  | [_], _ => trivial
  | [_, _], _ => trivial
  | _ :: _ :: _ :: _ :: _, _ => trivial
theorem ax_XMo_249 {w : ax_W} {b : Nat} (hw : ax_WW w) : ax_XMdg w b 249 := by
  intro vs dl md hp hp' hdl hall hR hX
  match vs, hX with
  | [p, q, s, l], hX => exact hX
  | [], _ => trivial
  | [_], _ => trivial
  | [_, _], _ => trivial
  | [_, _, _], _ => trivial
  | _ :: _ :: _ :: _ :: _ :: _, _ => trivial
theorem ax_XMo_250 {w : ax_W} {b : Nat} (hw : ax_WW w) : ax_XMdg w b 250 := by
  intro vs dl md hp hp' hdl hall hR hX
  match vs, hX with
  | [c, p, q, s, l], hX => exact hX
  | [], _ => trivial
  | [_], _ => trivial
  | [_, _], _ => trivial
  | [_, _, _], _ => trivial
  | [_, _, _, _], _ => trivial
  | _ :: _ :: _ :: _ :: _ :: _ :: _, _ => trivial
theorem ax_XMo_251 {w : ax_W} {b : Nat} (hw : ax_WW w) : ax_XMdg w b 251 := by
  intro vs dl md hp hp' hdl hall hR hX
  match vs, hX with
  | [r, c, s], hX => exact hX
  | [], _ => trivial
  | [_], _ => trivial
  | [_, _], _ => trivial
  | _ :: _ :: _ :: _ :: _, _ => trivial
theorem ax_XMo_252 {w : ax_W} {b : Nat} (hw : ax_WW w) : ax_XMdg w b 252 := fun vs dl md hp hp' _ _ _ _ => trivial
theorem ax_XMo_253 {w : ax_W} {b : Nat} (hw : ax_WW w) : ax_XMdg w b 253 := by
  intro vs dl md hp hp' hdl hall hR hX
  match vs, hX with
  | [p, q, s, l], hX => exact hX
  | [], _ => trivial
  | [_], _ => trivial
  | [_, _], _ => trivial
  | [_, _, _], _ => trivial
  | _ :: _ :: _ :: _ :: _ :: _, _ => trivial
theorem ax_XMo_254 {w : ax_W} {b : Nat} (hw : ax_WW w) : ax_XMdg w b 254 := by
  intro vs dl md hp hp' hdl hall hR hX
  match vs, hX with
  | [s, r], hX =>
    have hdl : [(11, 27), (55, 999)] = dl := Option.some.inj hdl
    subst hdl
    obtain ⟨x0, x1, hX⟩ := hX
    have e0 : ay_at hp' 173 27 = ay_at hp 173 27 := ay_same1 hR x0 (g := 11) (ax_wc hw ax_cg_173) (List.all_eq_true.mp hall (11, 27) (by simp))
    have e1 : ay_at hp' 185 = ay_at hp 185 := ay_same hR x1 (g := 55) (ax_wc hw ax_cg_185) (List.all_eq_true.mp hall (55, 999) (by simp))
    refine ⟨ay_ex_same hR x0 (g := 11) (ax_wc hw ax_cg_173), ay_ex_same hR x1 (g := 55) (ax_wc hw ax_cg_185), ?_⟩
    show py_y254 s r (ay_at hp' 173 27) (ay_at hp' 185)
    rw [e0, e1]
    exact hX
  | [], _ => trivial
  | [_], _ => trivial
  | _ :: _ :: _ :: _, _ => trivial
theorem ax_XMo_255 {w : ax_W} {b : Nat} (hw : ax_WW w) : ax_XMdg w b 255 := fun vs dl md hp hp' _ _ _ _ => trivial
theorem ax_XMo_256 {w : ax_W} {b : Nat} (hw : ax_WW w) : ax_XMdg w b 256 := by
  intro vs dl md hp hp' hdl hall hR hX
  match vs, hX with
  | [s, c], hX => exact hX
  | [], _ => trivial
  | [_], _ => trivial
  | _ :: _ :: _ :: _, _ => trivial
theorem ax_XMo_257 {w : ax_W} {b : Nat} (hw : ax_WW w) : ax_XMdg w b 257 := by
  intro vs dl md hp hp' hdl hall hR hX
  match vs, hX with
  | [g, n, s, l, c], hX => exact hX
  | [], _ => trivial
  | [_], _ => trivial
  | [_, _], _ => trivial
  | [_, _, _], _ => trivial
  | [_, _, _, _], _ => trivial
  | _ :: _ :: _ :: _ :: _ :: _ :: _, _ => trivial
theorem ax_XMo_258 {w : ax_W} {b : Nat} (hw : ax_WW w) : ax_XMdg w b 258 := by
  intro vs dl md hp hp' hdl hall hR hX
  match vs, hX with
  | [g, n, c, s, l], hX => exact hX
  | [], _ => trivial
  | [_], _ => trivial
  | [_, _], _ => trivial
  | [_, _, _], _ => trivial
  | [_, _, _, _], _ => trivial
  | _ :: _ :: _ :: _ :: _ :: _ :: _, _ => trivial
theorem ax_XMo_259 {w : ax_W} {b : Nat} (hw : ax_WW w) : ax_XMdg w b 259 := by
  intro vs dl md hp hp' hdl hall hR hX
  match vs, hX with
  | [g, n, c], hX => exact hX
  | [], _ => trivial
  | [_], _ => trivial
  | [_, _], _ => trivial
  | _ :: _ :: _ :: _ :: _, _ => trivial
theorem ax_XMo_260 {w : ax_W} {b : Nat} (hw : ax_WW w) : ax_XMdg w b 260 := by
  intro vs dl md hp hp' hdl hall hR hX
  match vs, hX with
  | [c, p, q, s, l], hX => exact hX
  | [], _ => trivial
  | [_], _ => trivial
  | [_, _], _ => trivial
  | [_, _, _], _ => trivial
  | [_, _, _, _], _ => trivial
  | _ :: _ :: _ :: _ :: _ :: _ :: _, _ => trivial
theorem ax_XMo_261 {w : ax_W} {b : Nat} (hw : ax_WW w) : ax_XMdg w b 261 := by
  intro vs dl md hp hp' hdl hall hR hX
  match vs, hX with
  | [g, n, l], hX => exact hX
  | [], _ => trivial
  | [_], _ => trivial
  | [_, _], _ => trivial
  | _ :: _ :: _ :: _ :: _, _ => trivial
theorem ax_XMo_262 {w : ax_W} {b : Nat} (hw : ax_WW w) : ax_XMdg w b 262 := by
  intro vs dl md hp hp' hdl hall hR hX
  match vs, hX with
  | [g, l], hX => exact hX
  | [], _ => trivial
  | [_], _ => trivial
  | _ :: _ :: _ :: _, _ => trivial
theorem ax_XMa40 {w : ax_W} {b : Nat} (hw : ax_WW w) : ∀ x, x < 40 → ax_sp x = false → ax_XMdg w b x := ax_upto (ax_upto (ax_upto (ax_upto (ax_upto (ax_upto (ax_upto (ax_upto (ax_upto (ax_upto (ax_upto (ax_upto (ax_upto (ax_upto (ax_upto (ax_upto (ax_upto (ax_upto (ax_upto (ax_upto (ax_upto (ax_upto (ax_upto (ax_upto (ax_upto (ax_upto (ax_upto (ax_upto (ax_upto (ax_upto (ax_upto (ax_upto (ax_upto (ax_upto (ax_upto (ax_upto (ax_upto (ax_upto (ax_upto (ax_upto ax_upto0 (fun hs => ax_XMo_0 hw)) (fun hs => ax_XMo_1 hw)) (fun hs => ax_XMo_2 hw)) (fun hs => ax_XMo_3 hw)) (fun hs => ax_XMo_4 hw)) (fun hs => ax_XMo_5 hw)) (fun hs => ax_XMo_6 hw)) (fun hs => ax_XMo_7 hw)) (fun hs => ax_XMo_8 hw)) (fun hs => ax_XMo_9 hw)) (fun hs => ax_XMo_10 hw)) (fun hs => absurd hs (by decide))) (fun hs => absurd hs (by decide))) (fun hs => absurd hs (by decide))) (fun hs => absurd hs (by decide))) (fun hs => absurd hs (by decide))) (fun hs => absurd hs (by decide))) (fun hs => absurd hs (by decide))) (fun hs => absurd hs (by decide))) (fun hs => absurd hs (by decide))) (fun hs => absurd hs (by decide))) (fun hs => absurd hs (by decide))) (fun hs => absurd hs (by decide))) (fun hs => ax_XMo_23 hw)) (fun hs => absurd hs (by decide))) (fun hs => absurd hs (by decide))) (fun hs => absurd hs (by decide))) (fun hs => ax_XMo_27 hw)) (fun hs => absurd hs (by decide))) (fun hs => absurd hs (by decide))) (fun hs => absurd hs (by decide))) (fun hs => absurd hs (by decide))) (fun hs => absurd hs (by decide))) (fun hs => absurd hs (by decide))) (fun hs => absurd hs (by decide))) (fun hs => ax_XMo_35 hw)) (fun hs => absurd hs (by decide))) (fun hs => ax_XMo_37 hw)) (fun hs => ax_XMo_38 hw)) (fun hs => ax_XMo_39 hw)
theorem ax_XMa80 {w : ax_W} {b : Nat} (hw : ax_WW w) : ∀ x, x < 80 → ax_sp x = false → ax_XMdg w b x := ax_upto (ax_upto (ax_upto (ax_upto (ax_upto (ax_upto (ax_upto (ax_upto (ax_upto (ax_upto (ax_upto (ax_upto (ax_upto (ax_upto (ax_upto (ax_upto (ax_upto (ax_upto (ax_upto (ax_upto (ax_upto (ax_upto (ax_upto (ax_upto (ax_upto (ax_upto (ax_upto (ax_upto (ax_upto (ax_upto (ax_upto (ax_upto (ax_upto (ax_upto (ax_upto (ax_upto (ax_upto (ax_upto (ax_upto (ax_upto ((ax_XMa40 hw)) (fun hs => absurd hs (by decide))) (fun hs => ax_XMo_41 hw)) (fun hs => absurd hs (by decide))) (fun hs => ax_XMo_43 hw)) (fun hs => ax_XMo_44 hw)) (fun hs => ax_XMo_45 hw)) (fun hs => ax_XMo_46 hw)) (fun hs => ax_XMo_47 hw)) (fun hs => ax_XMo_48 hw)) (fun hs => ax_XMo_49 hw)) (fun hs => absurd hs (by decide))) (fun hs => ax_XMo_51 hw)) (fun hs => absurd hs (by decide))) (fun hs => absurd hs (by decide))) (fun hs => absurd hs (by decide))) (fun hs => absurd hs (by decide))) (fun hs => ax_XMo_56 hw)) (fun hs => ax_XMo_57 hw)) (fun hs => ax_XMo_58 hw)) (fun hs => ax_XMo_59 hw)) (fun hs => ax_XMo_60 hw)) (fun hs => ax_XMo_61 hw)) (fun hs => ax_XMo_62 hw)) (fun hs => ax_XMo_63 hw)) (fun hs => absurd hs (by decide))) (fun hs => absurd hs (by decide))) (fun hs => ax_XMo_66 hw)) (fun hs => ax_XMo_67 hw)) (fun hs => ax_XMo_68 hw)) (fun hs => ax_XMo_69 hw)) (fun hs => ax_XMo_70 hw)) (fun hs => ax_XMo_71 hw)) (fun hs => ax_XMo_72 hw)) (fun hs => ax_XMo_73 hw)) (fun hs => ax_XMo_74 hw)) (fun hs => ax_XMo_75 hw)) (fun hs => ax_XMo_76 hw)) (fun hs => ax_XMo_77 hw)) (fun hs => ax_XMo_78 hw)) (fun hs => ax_XMo_79 hw)
theorem ax_XMa120 {w : ax_W} {b : Nat} (hw : ax_WW w) : ∀ x, x < 120 → ax_sp x = false → ax_XMdg w b x := ax_upto (ax_upto (ax_upto (ax_upto (ax_upto (ax_upto (ax_upto (ax_upto (ax_upto (ax_upto (ax_upto (ax_upto (ax_upto (ax_upto (ax_upto (ax_upto (ax_upto (ax_upto (ax_upto (ax_upto (ax_upto (ax_upto (ax_upto (ax_upto (ax_upto (ax_upto (ax_upto (ax_upto (ax_upto (ax_upto (ax_upto (ax_upto (ax_upto (ax_upto (ax_upto (ax_upto (ax_upto (ax_upto (ax_upto (ax_upto ((ax_XMa80 hw)) (fun hs => ax_XMo_80 hw)) (fun hs => ax_XMo_81 hw)) (fun hs => ax_XMo_82 hw)) (fun hs => ax_XMo_83 hw)) (fun hs => ax_XMo_84 hw)) (fun hs => ax_XMo_85 hw)) (fun hs => ax_XMo_86 hw)) (fun hs => ax_XMo_87 hw)) (fun hs => ax_XMo_88 hw)) (fun hs => ax_XMo_89 hw)) (fun hs => ax_XMo_90 hw)) (fun hs => ax_XMo_91 hw)) (fun hs => ax_XMo_92 hw)) (fun hs => ax_XMo_93 hw)) (fun hs => ax_XMo_94 hw)) (fun hs => ax_XMo_95 hw)) (fun hs => ax_XMo_96 hw)) (fun hs => ax_XMo_97 hw)) (fun hs => ax_XMo_98 hw)) (fun hs => ax_XMo_99 hw)) (fun hs => ax_XMo_100 hw)) (fun hs => ax_XMo_101 hw)) (fun hs => ax_XMo_102 hw)) (fun hs => ax_XMo_103 hw)) (fun hs => ax_XMo_104 hw)) (fun hs => ax_XMo_105 hw)) (fun hs => ax_XMo_106 hw)) (fun hs => ax_XMo_107 hw)) (fun hs => ax_XMo_108 hw)) (fun hs => ax_XMo_109 hw)) (fun hs => ax_XMo_110 hw)) (fun hs => ax_XMo_111 hw)) (fun hs => ax_XMo_112 hw)) (fun hs => ax_XMo_113 hw)) (fun hs => ax_XMo_114 hw)) (fun hs => ax_XMo_115 hw)) (fun hs => ax_XMo_116 hw)) (fun hs => ax_XMo_117 hw)) (fun hs => ax_XMo_118 hw)) (fun hs => ax_XMo_119 hw)
theorem ax_XMa160 {w : ax_W} {b : Nat} (hw : ax_WW w) : ∀ x, x < 160 → ax_sp x = false → ax_XMdg w b x := ax_upto (ax_upto (ax_upto (ax_upto (ax_upto (ax_upto (ax_upto (ax_upto (ax_upto (ax_upto (ax_upto (ax_upto (ax_upto (ax_upto (ax_upto (ax_upto (ax_upto (ax_upto (ax_upto (ax_upto (ax_upto (ax_upto (ax_upto (ax_upto (ax_upto (ax_upto (ax_upto (ax_upto (ax_upto (ax_upto (ax_upto (ax_upto (ax_upto (ax_upto (ax_upto (ax_upto (ax_upto (ax_upto (ax_upto (ax_upto ((ax_XMa120 hw)) (fun hs => ax_XMo_120 hw)) (fun hs => ax_XMo_121 hw)) (fun hs => ax_XMo_122 hw)) (fun hs => ax_XMo_123 hw)) (fun hs => ax_XMo_124 hw)) (fun hs => ax_XMo_125 hw)) (fun hs => ax_XMo_126 hw)) (fun hs => ax_XMo_127 hw)) (fun hs => ax_XMo_128 hw)) (fun hs => ax_XMo_129 hw)) (fun hs => ax_XMo_130 hw)) (fun hs => ax_XMo_131 hw)) (fun hs => ax_XMo_132 hw)) (fun hs => ax_XMo_133 hw)) (fun hs => ax_XMo_134 hw)) (fun hs => ax_XMo_135 hw)) (fun hs => ax_XMo_136 hw)) (fun hs => ax_XMo_137 hw)) (fun hs => ax_XMo_138 hw)) (fun hs => ax_XMo_139 hw)) (fun hs => ax_XMo_140 hw)) (fun hs => ax_XMo_141 hw)) (fun hs => ax_XMo_142 hw)) (fun hs => ax_XMo_143 hw)) (fun hs => ax_XMo_144 hw)) (fun hs => ax_XMo_145 hw)) (fun hs => ax_XMo_146 hw)) (fun hs => ax_XMo_147 hw)) (fun hs => ax_XMo_148 hw)) (fun hs => ax_XMo_149 hw)) (fun hs => ax_XMo_150 hw)) (fun hs => ax_XMo_151 hw)) (fun hs => absurd hs (by decide))) (fun hs => ax_XMo_153 hw)) (fun hs => ax_XMo_154 hw)) (fun hs => ax_XMo_155 hw)) (fun hs => ax_XMo_156 hw)) (fun hs => ax_XMo_157 hw)) (fun hs => ax_XMo_158 hw)) (fun hs => ax_XMo_159 hw)
theorem ax_XMa200 {w : ax_W} {b : Nat} (hw : ax_WW w) : ∀ x, x < 200 → ax_sp x = false → ax_XMdg w b x := ax_upto (ax_upto (ax_upto (ax_upto (ax_upto (ax_upto (ax_upto (ax_upto (ax_upto (ax_upto (ax_upto (ax_upto (ax_upto (ax_upto (ax_upto (ax_upto (ax_upto (ax_upto (ax_upto (ax_upto (ax_upto (ax_upto (ax_upto (ax_upto (ax_upto (ax_upto (ax_upto (ax_upto (ax_upto (ax_upto (ax_upto (ax_upto (ax_upto (ax_upto (ax_upto (ax_upto (ax_upto (ax_upto (ax_upto (ax_upto ((ax_XMa160 hw)) (fun hs => ax_XMo_160 hw)) (fun hs => ax_XMo_161 hw)) (fun hs => ax_XMo_162 hw)) (fun hs => ax_XMo_163 hw)) (fun hs => ax_XMo_164 hw)) (fun hs => ax_XMo_165 hw)) (fun hs => ax_XMo_166 hw)) (fun hs => ax_XMo_167 hw)) (fun hs => ax_XMo_168 hw)) (fun hs => ax_XMo_169 hw)) (fun hs => ax_XMo_170 hw)) (fun hs => ax_XMo_171 hw)) (fun hs => ax_XMo_172 hw)) (fun hs => ax_XMo_173 hw)) (fun hs => ax_XMo_174 hw)) (fun hs => ax_XMo_175 hw)) (fun hs => ax_XMo_176 hw)) (fun hs => ax_XMo_177 hw)) (fun hs => ax_XMo_178 hw)) (fun hs => ax_XMo_179 hw)) (fun hs => ax_XMo_180 hw)) (fun hs => ax_XMo_181 hw)) (fun hs => ax_XMo_182 hw)) (fun hs => ax_XMo_183 hw)) (fun hs => ax_XMo_184 hw)) (fun hs => ax_XMo_185 hw)) (fun hs => ax_XMo_186 hw)) (fun hs => ax_XMo_187 hw)) (fun hs => ax_XMo_188 hw)) (fun hs => ax_XMo_189 hw)) (fun hs => ax_XMo_190 hw)) (fun hs => ax_XMo_191 hw)) (fun hs => ax_XMo_192 hw)) (fun hs => ax_XMo_193 hw)) (fun hs => ax_XMo_194 hw)) (fun hs => ax_XMo_195 hw)) (fun hs => ax_XMo_196 hw)) (fun hs => ax_XMo_197 hw)) (fun hs => ax_XMo_198 hw)) (fun hs => ax_XMo_199 hw)
theorem ax_XMa240 {w : ax_W} {b : Nat} (hw : ax_WW w) : ∀ x, x < 240 → ax_sp x = false → ax_XMdg w b x := ax_upto (ax_upto (ax_upto (ax_upto (ax_upto (ax_upto (ax_upto (ax_upto (ax_upto (ax_upto (ax_upto (ax_upto (ax_upto (ax_upto (ax_upto (ax_upto (ax_upto (ax_upto (ax_upto (ax_upto (ax_upto (ax_upto (ax_upto (ax_upto (ax_upto (ax_upto (ax_upto (ax_upto (ax_upto (ax_upto (ax_upto (ax_upto (ax_upto (ax_upto (ax_upto (ax_upto (ax_upto (ax_upto (ax_upto (ax_upto ((ax_XMa200 hw)) (fun hs => ax_XMo_200 hw)) (fun hs => ax_XMo_201 hw)) (fun hs => ax_XMo_202 hw)) (fun hs => ax_XMo_203 hw)) (fun hs => ax_XMo_204 hw)) (fun hs => ax_XMo_205 hw)) (fun hs => ax_XMo_206 hw)) (fun hs => ax_XMo_207 hw)) (fun hs => ax_XMo_208 hw)) (fun hs => ax_XMo_209 hw)) (fun hs => absurd hs (by decide))) (fun hs => ax_XMo_211 hw)) (fun hs => ax_XMo_212 hw)) (fun hs => ax_XMo_213 hw)) (fun hs => ax_XMo_214 hw)) (fun hs => ax_XMo_215 hw)) (fun hs => absurd hs (by decide))) (fun hs => absurd hs (by decide))) (fun hs => ax_XMo_218 hw)) (fun hs => ax_XMo_219 hw)) (fun hs => ax_XMo_220 hw)) (fun hs => ax_XMo_221 hw)) (fun hs => ax_XMo_222 hw)) (fun hs => ax_XMo_223 hw)) (fun hs => ax_XMo_224 hw)) (fun hs => ax_XMo_225 hw)) (fun hs => ax_XMo_226 hw)) (fun hs => ax_XMo_227 hw)) (fun hs => ax_XMo_228 hw)) (fun hs => ax_XMo_229 hw)) (fun hs => ax_XMo_230 hw)) (fun hs => ax_XMo_231 hw)) (fun hs => ax_XMo_232 hw)) (fun hs => ax_XMo_233 hw)) (fun hs => ax_XMo_234 hw)) (fun hs => ax_XMo_235 hw)) (fun hs => ax_XMo_236 hw)) (fun hs => ax_XMo_237 hw)) (fun hs => ax_XMo_238 hw)) (fun hs => ax_XMo_239 hw)
theorem ax_XMa263 {w : ax_W} {b : Nat} (hw : ax_WW w) : ∀ x, x < 263 → ax_sp x = false → ax_XMdg w b x := ax_upto (ax_upto (ax_upto (ax_upto (ax_upto (ax_upto (ax_upto (ax_upto (ax_upto (ax_upto (ax_upto (ax_upto (ax_upto (ax_upto (ax_upto (ax_upto (ax_upto (ax_upto (ax_upto (ax_upto (ax_upto (ax_upto (ax_upto ((ax_XMa240 hw)) (fun hs => ax_XMo_240 hw)) (fun hs => absurd hs (by decide))) (fun hs => ax_XMo_242 hw)) (fun hs => absurd hs (by decide))) (fun hs => ax_XMo_244 hw)) (fun hs => ax_XMo_245 hw)) (fun hs => ax_XMo_246 hw)) (fun hs => ax_XMo_247 hw)) (fun hs => ax_XMo_248 hw)) (fun hs => ax_XMo_249 hw)) (fun hs => ax_XMo_250 hw)) (fun hs => ax_XMo_251 hw)) (fun hs => ax_XMo_252 hw)) (fun hs => ax_XMo_253 hw)) (fun hs => ax_XMo_254 hw)) (fun hs => ax_XMo_255 hw)) (fun hs => ax_XMo_256 hw)) (fun hs => ax_XMo_257 hw)) (fun hs => ax_XMo_258 hw)) (fun hs => ax_XMo_259 hw)) (fun hs => ax_XMo_260 hw)) (fun hs => ax_XMo_261 hw)) (fun hs => ax_XMo_262 hw)
theorem ax_wl0 : ax_wM0.2.2.length = 263 := by decide +kernel
theorem ax_XMg_ok {w : ax_W} {b : Nat} (hw : ax_WW w) (x : Nat) (vs : List Nat) (dl md : List (Nat × Nat)) (hp hp' : rx_H) (hs : ax_sp x = false) (hdl : ax_wM0.2.2[x]? = some dl) (hall : dl.all (fun d => !(md.any (fun y => Nat.beq y.1 d.1 && (Nat.beq y.2 d.2 || (Nat.beq y.2 999 || Nat.beq d.2 999))))) = true) (hR : ax_HR w md hp hp') (hX : ax_XM b x vs hp) : ax_XM b x vs hp' := ax_XMa263 hw x (Nat.lt_of_lt_of_eq (List.getElem?_eq_some_iff.mp hdl).1 ax_wl0) hs vs dl md hp hp' hdl hall hR hX
/-- what ax_XD says of one name -/
noncomputable def ax_XMd0 (x : Nat) : Prop := ∀ (vs : List Nat) (dl md : List (Nat × Nat)) (hp hp' : rx_H), ax_wM0.2.2[x]? = some dl → dl.all (fun d => !(md.any (fun y => Nat.beq y.1 d.1 && (Nat.beq y.2 d.2 || (Nat.beq y.2 999 || Nat.beq d.2 999))))) = true → ax_HR ax_wM0 md hp hp' → ax_XM 0 x vs hp → ax_XM 0 x vs hp'
theorem ax_XMs0_11 : ax_XMd0 11 := by
  intro vs dl md hp hp' hdl hall hR hX
  match vs, hX with
  | [f], hX =>
    have hdl : [(69, 999), (68, 999), (51, 999)] = dl := Option.some.inj hdl
    subst hdl
    obtain ⟨x0, x1, x2, hX⟩ := hX
    have e0 : ay_at hp' 199 = ay_at hp 199 := ay_same hR x0 (g := 69) ax_cg_199 (List.all_eq_true.mp hall (69, 999) (by simp))
    have e1 : ay_at hp' 198 = ay_at hp 198 := ay_same hR x1 (g := 68) ax_cg_198 (List.all_eq_true.mp hall (68, 999) (by simp))
    have e2 : ay_at hp' 181 = ay_at hp 181 := ay_same hR x2 (g := 51) ax_cg_181 (List.all_eq_true.mp hall (51, 999) (by simp))
    refine ⟨ay_ex_same hR x0 (g := 69) ax_cg_199, ay_ex_same hR x1 (g := 68) ax_cg_198, ay_ex_same hR x2 (g := 51) ax_cg_181, ?_⟩
    show ay_M11 0 f (ay_at hp' 199) (ay_at hp' 198) (ay_at hp' 181)
    rw [e0, e1, e2]
    exact hX
  | [], _ => trivial
  | _ :: _ :: _, _ => trivial
theorem ax_XMs0_12 : ax_XMd0 12 := by
  intro vs dl md hp hp' hdl hall hR hX
  match vs, hX with
  | [k, f, v], hX =>
    have hdl : [(69, 999), (68, 999), (51, 999)] = dl := Option.some.inj hdl
    subst hdl
    obtain ⟨x0, x1, x2, hX⟩ := hX
    have e0 : ay_at hp' 199 = ay_at hp 199 := ay_same hR x0 (g := 69) ax_cg_199 (List.all_eq_true.mp hall (69, 999) (by simp))
    have e1 : ay_at hp' 198 = ay_at hp 198 := ay_same hR x1 (g := 68) ax_cg_198 (List.all_eq_true.mp hall (68, 999) (by simp))
    have e2 : ay_at hp' 181 = ay_at hp 181 := ay_same hR x2 (g := 51) ax_cg_181 (List.all_eq_true.mp hall (51, 999) (by simp))
    refine ⟨ay_ex_same hR x0 (g := 69) ax_cg_199, ay_ex_same hR x1 (g := 68) ax_cg_198, ay_ex_same hR x2 (g := 51) ax_cg_181, ?_⟩
    show ay_M12 0 k f v (ay_at hp' 199) (ay_at hp' 198) (ay_at hp' 181)
    rw [e0, e1, e2]
    exact hX
  | [], _ => trivial
  | [_], _ => trivial
  | [_, _], _ => trivial
  | _ :: _ :: _ :: _ :: _, _ => trivial
theorem ax_XMs0_13 : ax_XMd0 13 := by
  intro vs dl md hp hp' hdl hall hR hX
  match vs, hX with
  | [k, f, v], hX =>
    have hdl : [(69, 999), (68, 999), (51, 999)] = dl := Option.some.inj hdl
    subst hdl
    obtain ⟨x0, x1, x2, hX⟩ := hX
    have e0 : ay_at hp' 199 = ay_at hp 199 := ay_same hR x0 (g := 69) ax_cg_199 (List.all_eq_true.mp hall (69, 999) (by simp))
    have e1 : ay_at hp' 198 = ay_at hp 198 := ay_same hR x1 (g := 68) ax_cg_198 (List.all_eq_true.mp hall (68, 999) (by simp))
    have e2 : ay_at hp' 181 = ay_at hp 181 := ay_same hR x2 (g := 51) ax_cg_181 (List.all_eq_true.mp hall (51, 999) (by simp))
    refine ⟨ay_ex_same hR x0 (g := 69) ax_cg_199, ay_ex_same hR x1 (g := 68) ax_cg_198, ay_ex_same hR x2 (g := 51) ax_cg_181, ?_⟩
    show ay_M13 0 k f v (ay_at hp' 199) (ay_at hp' 198) (ay_at hp' 181)
    rw [e0, e1, e2]
    exact hX
  | [], _ => trivial
  | [_], _ => trivial
  | [_, _], _ => trivial
  | _ :: _ :: _ :: _ :: _, _ => trivial
theorem ax_XMs0_14 : ax_XMd0 14 := by
  intro vs dl md hp hp' hdl hall hR hX
  match vs, hX with
  | [k, f], hX =>
    have hdl : [(68, 999), (51, 999)] = dl := Option.some.inj hdl
    subst hdl
    obtain ⟨x0, x1, hX⟩ := hX
    have e0 : ay_at hp' 198 = ay_at hp 198 := ay_same hR x0 (g := 68) ax_cg_198 (List.all_eq_true.mp hall (68, 999) (by simp))
    have e1 : ay_at hp' 181 = ay_at hp 181 := ay_same hR x1 (g := 51) ax_cg_181 (List.all_eq_true.mp hall (51, 999) (by simp))
    refine ⟨ay_ex_same hR x0 (g := 68) ax_cg_198, ay_ex_same hR x1 (g := 51) ax_cg_181, ?_⟩
    show ay_M14 0 k f (ay_at hp' 198) (ay_at hp' 181)
    rw [e0, e1]
    exact hX
  | [], _ => trivial
  | [_], _ => trivial
  | _ :: _ :: _ :: _, _ => trivial
theorem ax_XMs0_15 : ax_XMd0 15 := by
  intro vs dl md hp hp' hdl hall hR hX
  match vs, hX with
  | [k, f, v], hX =>
    have hdl : [(68, 999), (51, 999)] = dl := Option.some.inj hdl
    subst hdl
    obtain ⟨x0, x1, hX⟩ := hX
    have e0 : ay_at hp' 198 = ay_at hp 198 := ay_same hR x0 (g := 68) ax_cg_198 (List.all_eq_true.mp hall (68, 999) (by simp))
    have e1 : ay_at hp' 181 = ay_at hp 181 := ay_same hR x1 (g := 51) ax_cg_181 (List.all_eq_true.mp hall (51, 999) (by simp))
    refine ⟨ay_ex_same hR x0 (g := 68) ax_cg_198, ay_ex_same hR x1 (g := 51) ax_cg_181, ?_⟩
    show ay_M15 0 k f v (ay_at hp' 198) (ay_at hp' 181)
    rw [e0, e1]
    exact hX
  | [], _ => trivial
  | [_], _ => trivial
  | [_, _], _ => trivial
  | _ :: _ :: _ :: _ :: _, _ => trivial
theorem ax_XMs0_16 : ax_XMd0 16 := by
  intro vs dl md hp hp' hdl hall hR hX
  match vs, hX with
  | [k, f, v], hX =>
    have hdl : [(68, 999), (51, 999), (69, 999)] = dl := Option.some.inj hdl
    subst hdl
    obtain ⟨x0, x1, x2, hX⟩ := hX
    have e0 : ay_at hp' 198 = ay_at hp 198 := ay_same hR x0 (g := 68) ax_cg_198 (List.all_eq_true.mp hall (68, 999) (by simp))
    have e1 : ay_at hp' 181 = ay_at hp 181 := ay_same hR x1 (g := 51) ax_cg_181 (List.all_eq_true.mp hall (51, 999) (by simp))
    have e2 : ay_at hp' 199 = ay_at hp 199 := ay_same hR x2 (g := 69) ax_cg_199 (List.all_eq_true.mp hall (69, 999) (by simp))
    refine ⟨ay_ex_same hR x0 (g := 68) ax_cg_198, ay_ex_same hR x1 (g := 51) ax_cg_181, ay_ex_same hR x2 (g := 69) ax_cg_199, ?_⟩
    show ay_M16 0 k f v (ay_at hp' 199) (ay_at hp' 198) (ay_at hp' 181)
    rw [e0, e1, e2]
    exact hX
  | [], _ => trivial
  | [_], _ => trivial
  | [_, _], _ => trivial
  | _ :: _ :: _ :: _ :: _, _ => trivial
theorem ax_XMs0_17 : ax_XMd0 17 := by
  intro vs dl md hp hp' hdl hall hR hX
  match vs, hX with
  | [k], hX =>
    have hdl : [(58, 999), (44, 999), (46, 0)] = dl := Option.some.inj hdl
    subst hdl
    obtain ⟨x0, x1, x2, hX⟩ := hX
    have e0 : ay_at hp' 188 = ay_at hp 188 := ay_same hR x0 (g := 58) ax_cg_188 (List.all_eq_true.mp hall (58, 999) (by simp))
    have e1 : ay_at hp' 174 = ay_at hp 174 := ay_same hR x1 (g := 44) ax_cg_174 (List.all_eq_true.mp hall (44, 999) (by simp))
    have e2 : ay_at hp' 176 0 = ay_at hp 176 0 := ay_same1 hR x2 (g := 46) ax_cg_176 (List.all_eq_true.mp hall (46, 0) (by simp))
    refine ⟨ay_ex_same hR x0 (g := 58) ax_cg_188, ay_ex_same hR x1 (g := 44) ax_cg_174, ay_ex_same hR x2 (g := 46) ax_cg_176, ?_⟩
    show ay_M17 k (ay_at hp' 188) (ay_at hp' 174) (ay_at hp' 176 0)
    rw [e0, e1, e2]
    exact hX
  | [], _ => trivial
  | _ :: _ :: _, _ => trivial
theorem ax_XMs0_18 : ax_XMd0 18 := by
  intro vs dl md hp hp' hdl hall hR hX
  match vs, hX with
  | [n, l], hX =>
    have hdl : [(58, 999), (44, 999), (46, 0), (70, 999)] = dl := Option.some.inj hdl
    subst hdl
    obtain ⟨x0, x1, x2, x3, hX⟩ := hX
    have e0 : ay_at hp' 188 = ay_at hp 188 := ay_same hR x0 (g := 58) ax_cg_188 (List.all_eq_true.mp hall (58, 999) (by simp))
    have e1 : ay_at hp' 174 = ay_at hp 174 := ay_same hR x1 (g := 44) ax_cg_174 (List.all_eq_true.mp hall (44, 999) (by simp))
    have e2 : ay_at hp' 176 0 = ay_at hp 176 0 := ay_same1 hR x2 (g := 46) ax_cg_176 (List.all_eq_true.mp hall (46, 0) (by simp))
    have e3 : ay_at hp' 200 = ay_at hp 200 := ay_same hR x3 (g := 70) ax_cg_200 (List.all_eq_true.mp hall (70, 999) (by simp))
    refine ⟨ay_ex_same hR x0 (g := 58) ax_cg_188, ay_ex_same hR x1 (g := 44) ax_cg_174, ay_ex_same hR x2 (g := 46) ax_cg_176, ay_ex_same hR x3 (g := 70) ax_cg_200, ?_⟩
    show ay_M18 n l (ay_at hp' 188) (ay_at hp' 174) (ay_at hp' 200) (ay_at hp' 176 0)
    rw [e0, e1, e2, e3]
    exact hX
  | [], _ => trivial
  | [_], _ => trivial
  | _ :: _ :: _ :: _, _ => trivial
theorem ax_XMs0_19 : ax_XMd0 19 := by
  intro vs dl md hp hp' hdl hall hR hX
  match vs, hX with
  | [n], hX =>
    have hdl : [(58, 999), (44, 999), (46, 0), (70, 999)] = dl := Option.some.inj hdl
    subst hdl
    obtain ⟨x0, x1, x2, x3, hX⟩ := hX
    have e0 : ay_at hp' 188 = ay_at hp 188 := ay_same hR x0 (g := 58) ax_cg_188 (List.all_eq_true.mp hall (58, 999) (by simp))
    have e1 : ay_at hp' 174 = ay_at hp 174 := ay_same hR x1 (g := 44) ax_cg_174 (List.all_eq_true.mp hall (44, 999) (by simp))
    have e2 : ay_at hp' 176 0 = ay_at hp 176 0 := ay_same1 hR x2 (g := 46) ax_cg_176 (List.all_eq_true.mp hall (46, 0) (by simp))
    have e3 : ay_at hp' 200 = ay_at hp 200 := ay_same hR x3 (g := 70) ax_cg_200 (List.all_eq_true.mp hall (70, 999) (by simp))
    refine ⟨ay_ex_same hR x0 (g := 58) ax_cg_188, ay_ex_same hR x1 (g := 44) ax_cg_174, ay_ex_same hR x2 (g := 46) ax_cg_176, ay_ex_same hR x3 (g := 70) ax_cg_200, ?_⟩
    show ay_M19 n (ay_at hp' 188) (ay_at hp' 174) (ay_at hp' 200) (ay_at hp' 176 0)
    rw [e0, e1, e2, e3]
    exact hX
  | [], _ => trivial
  | _ :: _ :: _, _ => trivial
theorem ax_XMs0_20 : ax_XMd0 20 := by
  intro vs dl md hp hp' hdl hall hR hX
  match vs, hX with
  | [k, l], hX =>
    have hdl : [(58, 999), (44, 999), (46, 0), (70, 999)] = dl := Option.some.inj hdl
    subst hdl
    obtain ⟨x0, x1, x2, x3, hX⟩ := hX
    have e0 : ay_at hp' 188 = ay_at hp 188 := ay_same hR x0 (g := 58) ax_cg_188 (List.all_eq_true.mp hall (58, 999) (by simp))
    have e1 : ay_at hp' 174 = ay_at hp 174 := ay_same hR x1 (g := 44) ax_cg_174 (List.all_eq_true.mp hall (44, 999) (by simp))
    have e2 : ay_at hp' 176 0 = ay_at hp 176 0 := ay_same1 hR x2 (g := 46) ax_cg_176 (List.all_eq_true.mp hall (46, 0) (by simp))
    have e3 : ay_at hp' 200 = ay_at hp 200 := ay_same hR x3 (g := 70) ax_cg_200 (List.all_eq_true.mp hall (70, 999) (by simp))
    refine ⟨ay_ex_same hR x0 (g := 58) ax_cg_188, ay_ex_same hR x1 (g := 44) ax_cg_174, ay_ex_same hR x2 (g := 46) ax_cg_176, ay_ex_same hR x3 (g := 70) ax_cg_200, ?_⟩
    show ay_M20 k l (ay_at hp' 188) (ay_at hp' 174) (ay_at hp' 200) (ay_at hp' 176 0)
    rw [e0, e1, e2, e3]
    exact hX
  | [], _ => trivial
  | [_], _ => trivial
  | _ :: _ :: _ :: _, _ => trivial
theorem ax_XMs0_21 : ax_XMd0 21 := by
  intro vs dl md hp hp' hdl hall hR hX
  match vs, hX with
  | [k, l], hX =>
    have hdl : [(58, 999), (44, 999), (46, 0), (70, 999)] = dl := Option.some.inj hdl
    subst hdl
    obtain ⟨x0, x1, x2, x3, hX⟩ := hX
    have e0 : ay_at hp' 188 = ay_at hp 188 := ay_same hR x0 (g := 58) ax_cg_188 (List.all_eq_true.mp hall (58, 999) (by simp))
    have e1 : ay_at hp' 174 = ay_at hp 174 := ay_same hR x1 (g := 44) ax_cg_174 (List.all_eq_true.mp hall (44, 999) (by simp))
    have e2 : ay_at hp' 176 0 = ay_at hp 176 0 := ay_same1 hR x2 (g := 46) ax_cg_176 (List.all_eq_true.mp hall (46, 0) (by simp))
    have e3 : ay_at hp' 200 = ay_at hp 200 := ay_same hR x3 (g := 70) ax_cg_200 (List.all_eq_true.mp hall (70, 999) (by simp))
    refine ⟨ay_ex_same hR x0 (g := 58) ax_cg_188, ay_ex_same hR x1 (g := 44) ax_cg_174, ay_ex_same hR x2 (g := 46) ax_cg_176, ay_ex_same hR x3 (g := 70) ax_cg_200, ?_⟩
    show ay_M21 k l (ay_at hp' 188) (ay_at hp' 174) (ay_at hp' 200) (ay_at hp' 176 0)
    rw [e0, e1, e2, e3]
    exact hX
  | [], _ => trivial
  | [_], _ => trivial
  | _ :: _ :: _ :: _, _ => trivial
theorem ax_XMs0_22 : ax_XMd0 22 := by
  intro vs dl md hp hp' hdl hall hR hX
  match vs, hX with
  | [], hX =>
    have hdl : [(58, 999), (44, 999), (46, 0), (70, 999)] = dl := Option.some.inj hdl
    subst hdl
    obtain ⟨x0, x1, x2, x3, hX⟩ := hX
    have e0 : ay_at hp' 188 = ay_at hp 188 := ay_same hR x0 (g := 58) ax_cg_188 (List.all_eq_true.mp hall (58, 999) (by simp))
    have e1 : ay_at hp' 174 = ay_at hp 174 := ay_same hR x1 (g := 44) ax_cg_174 (List.all_eq_true.mp hall (44, 999) (by simp))
    have e2 : ay_at hp' 176 0 = ay_at hp 176 0 := ay_same1 hR x2 (g := 46) ax_cg_176 (List.all_eq_true.mp hall (46, 0) (by simp))
    have e3 : ay_at hp' 200 = ay_at hp 200 := ay_same hR x3 (g := 70) ax_cg_200 (List.all_eq_true.mp hall (70, 999) (by simp))
    refine ⟨ay_ex_same hR x0 (g := 58) ax_cg_188, ay_ex_same hR x1 (g := 44) ax_cg_174, ay_ex_same hR x2 (g := 46) ax_cg_176, ay_ex_same hR x3 (g := 70) ax_cg_200, ?_⟩
    show ay_M22 (ay_at hp' 188) (ay_at hp' 174) (ay_at hp' 200) (ay_at hp' 176 0)
    rw [e0, e1, e2, e3]
    exact hX
  | _ :: _, _ => trivial
theorem ax_XMs0_24 : ax_XMd0 24 := by
  intro vs dl md hp hp' hdl hall hR hX
  match vs, hX with
  | [], hX =>
    have hdl : [(64, 999), (61, 999), (51, 999), (44, 999), (45, 0), (46, 0)] = dl := Option.some.inj hdl
    subst hdl
    obtain ⟨x0, x1, x2, x3, x4, x5, hX⟩ := hX
    have e0 : ay_at hp' 194 = ay_at hp 194 := ay_same hR x0 (g := 64) ax_cg_194 (List.all_eq_true.mp hall (64, 999) (by simp))
    have e1 : ay_at hp' 191 = ay_at hp 191 := ay_same hR x1 (g := 61) ax_cg_191 (List.all_eq_true.mp hall (61, 999) (by simp))
    have e2 : ay_at hp' 181 = ay_at hp 181 := ay_same hR x2 (g := 51) ax_cg_181 (List.all_eq_true.mp hall (51, 999) (by simp))
    have e3 : ay_at hp' 174 = ay_at hp 174 := ay_same hR x3 (g := 44) ax_cg_174 (List.all_eq_true.mp hall (44, 999) (by simp))
    have e4 : ay_at hp' 175 0 = ay_at hp 175 0 := ay_same1 hR x4 (g := 45) ax_cg_175 (List.all_eq_true.mp hall (45, 0) (by simp))
    have e5 : ay_at hp' 176 0 = ay_at hp 176 0 := ay_same1 hR x5 (g := 46) ax_cg_176 (List.all_eq_true.mp hall (46, 0) (by simp))
    refine ⟨ay_ex_same hR x0 (g := 64) ax_cg_194, ay_ex_same hR x1 (g := 61) ax_cg_191, ay_ex_same hR x2 (g := 51) ax_cg_181, ay_ex_same hR x3 (g := 44) ax_cg_174, ay_ex_same hR x4 (g := 45) ax_cg_175, ay_ex_same hR x5 (g := 46) ax_cg_176, ?_⟩
    show ay_M24 0 (ay_at hp' 194) (ay_at hp' 191) (ay_at hp' 181) (ay_at hp' 174) (ay_at hp' 175 0) (ay_at hp' 176 0)
    rw [e0, e1, e2, e3, e4, e5]
    exact hX
  | _ :: _, _ => trivial
theorem ax_XMs0_25 : ax_XMd0 25 := by
  intro vs dl md hp hp' hdl hall hR hX
  match vs, hX with
  | [], hX =>
    have hdl : [(51, 999), (45, 0), (46, 0)] = dl := Option.some.inj hdl
    subst hdl
    obtain ⟨x0, x1, x2, hX⟩ := hX
    have e0 : ay_at hp' 181 = ay_at hp 181 := ay_same hR x0 (g := 51) ax_cg_181 (List.all_eq_true.mp hall (51, 999) (by simp))
    have e1 : ay_at hp' 175 0 = ay_at hp 175 0 := ay_same1 hR x1 (g := 45) ax_cg_175 (List.all_eq_true.mp hall (45, 0) (by simp))
    have e2 : ay_at hp' 176 0 = ay_at hp 176 0 := ay_same1 hR x2 (g := 46) ax_cg_176 (List.all_eq_true.mp hall (46, 0) (by simp))
    refine ⟨ay_ex_same hR x0 (g := 51) ax_cg_181, ay_ex_same hR x1 (g := 45) ax_cg_175, ay_ex_same hR x2 (g := 46) ax_cg_176, ?_⟩
    show ay_M25 0 (ay_at hp' 181) (ay_at hp' 175 0) (ay_at hp' 176 0)
    rw [e0, e1, e2]
    exact hX
  | _ :: _, _ => trivial
theorem ax_XMs0_26 : ax_XMd0 26 := by
  intro vs dl md hp hp' hdl hall hR hX
  match vs, hX with
  | [], hX =>
    have hdl : [(52, 999), (50, 0)] = dl := Option.some.inj hdl
    subst hdl
    obtain ⟨x0, x1, hX⟩ := hX
    have e0 : ay_at hp' 182 = ay_at hp 182 := ay_same hR x0 (g := 52) ax_cg_182 (List.all_eq_true.mp hall (52, 999) (by simp))
    have e1 : ay_at hp' 180 0 = ay_at hp 180 0 := ay_same1 hR x1 (g := 50) ax_cg_180 (List.all_eq_true.mp hall (50, 0) (by simp))
    refine ⟨ay_ex_same hR x0 (g := 52) ax_cg_182, ay_ex_same hR x1 (g := 50) ax_cg_180, ?_⟩
    show ay_M26 0 (ay_at hp' 182) (ay_at hp' 180 0)
    rw [e0, e1]
    exact hX
  | _ :: _, _ => trivial
theorem ax_XMs0_28 : ax_XMd0 28 := by
  intro vs dl md hp hp' hdl hall hR hX
  match vs, hX with
  | [g, v, s, c], hX =>
    have hdl : [(61, 999), (51, 999), (44, 999), (46, 0)] = dl := Option.some.inj hdl
    subst hdl
    obtain ⟨x0, x1, x2, x3, hX⟩ := hX
    have e0 : ay_at hp' 191 = ay_at hp 191 := ay_same hR x0 (g := 61) ax_cg_191 (List.all_eq_true.mp hall (61, 999) (by simp))
    have e1 : ay_at hp' 181 = ay_at hp 181 := ay_same hR x1 (g := 51) ax_cg_181 (List.all_eq_true.mp hall (51, 999) (by simp))
    have e2 : ay_at hp' 174 = ay_at hp 174 := ay_same hR x2 (g := 44) ax_cg_174 (List.all_eq_true.mp hall (44, 999) (by simp))
    have e3 : ay_at hp' 176 0 = ay_at hp 176 0 := ay_same1 hR x3 (g := 46) ax_cg_176 (List.all_eq_true.mp hall (46, 0) (by simp))
    refine ⟨ay_ex_same hR x0 (g := 61) ax_cg_191, ay_ex_same hR x1 (g := 51) ax_cg_181, ay_ex_same hR x2 (g := 44) ax_cg_174, ay_ex_same hR x3 (g := 46) ax_cg_176, ?_⟩
    show ay_M28 0 g v s c (ay_at hp' 191) (ay_at hp' 181) (ay_at hp' 174) (ay_at hp' 176 0)
    rw [e0, e1, e2, e3]
    exact hX
  | [], _ => trivial
  | [_], _ => trivial
  | [_, _], _ => trivial
  | [_, _, _], _ => trivial
  | _ :: _ :: _ :: _ :: _ :: _, _ => trivial
theorem ax_XMs0_29 : ax_XMd0 29 := by
  intro vs dl md hp hp' hdl hall hR hX
  match vs, hX with
  | [g, v, s], hX =>
    have hdl : [(64, 999), (61, 999), (51, 999), (44, 999), (45, 0), (46, 0)] = dl := Option.some.inj hdl
    subst hdl
    obtain ⟨x0, x1, x2, x3, x4, x5, hX⟩ := hX
    have e0 : ay_at hp' 194 = ay_at hp 194 := ay_same hR x0 (g := 64) ax_cg_194 (List.all_eq_true.mp hall (64, 999) (by simp))
    have e1 : ay_at hp' 191 = ay_at hp 191 := ay_same hR x1 (g := 61) ax_cg_191 (List.all_eq_true.mp hall (61, 999) (by simp))
    have e2 : ay_at hp' 181 = ay_at hp 181 := ay_same hR x2 (g := 51) ax_cg_181 (List.all_eq_true.mp hall (51, 999) (by simp))
    have e3 : ay_at hp' 174 = ay_at hp 174 := ay_same hR x3 (g := 44) ax_cg_174 (List.all_eq_true.mp hall (44, 999) (by simp))
    have e4 : ay_at hp' 175 0 = ay_at hp 175 0 := ay_same1 hR x4 (g := 45) ax_cg_175 (List.all_eq_true.mp hall (45, 0) (by simp))
    have e5 : ay_at hp' 176 0 = ay_at hp 176 0 := ay_same1 hR x5 (g := 46) ax_cg_176 (List.all_eq_true.mp hall (46, 0) (by simp))
    refine ⟨ay_ex_same hR x0 (g := 64) ax_cg_194, ay_ex_same hR x1 (g := 61) ax_cg_191, ay_ex_same hR x2 (g := 51) ax_cg_181, ay_ex_same hR x3 (g := 44) ax_cg_174, ay_ex_same hR x4 (g := 45) ax_cg_175, ay_ex_same hR x5 (g := 46) ax_cg_176, ?_⟩
    show ay_M29 0 g v s (ay_at hp' 194) (ay_at hp' 191) (ay_at hp' 181) (ay_at hp' 174) (ay_at hp' 175 0) (ay_at hp' 176 0)
    rw [e0, e1, e2, e3, e4, e5]
    exact hX
  | [], _ => trivial
  | [_], _ => trivial
  | [_, _], _ => trivial
  | _ :: _ :: _ :: _ :: _, _ => trivial
theorem ax_XMs0_30 : ax_XMd0 30 := by
  intro vs dl md hp hp' hdl hall hR hX
  match vs, hX with
  | [g, v, s], hX =>
    have hdl : [(64, 999), (61, 999), (51, 999), (44, 999), (45, 0), (46, 0)] = dl := Option.some.inj hdl
    subst hdl
    obtain ⟨x0, x1, x2, x3, x4, x5, hX⟩ := hX
    have e0 : ay_at hp' 194 = ay_at hp 194 := ay_same hR x0 (g := 64) ax_cg_194 (List.all_eq_true.mp hall (64, 999) (by simp))
    have e1 : ay_at hp' 191 = ay_at hp 191 := ay_same hR x1 (g := 61) ax_cg_191 (List.all_eq_true.mp hall (61, 999) (by simp))
    have e2 : ay_at hp' 181 = ay_at hp 181 := ay_same hR x2 (g := 51) ax_cg_181 (List.all_eq_true.mp hall (51, 999) (by simp))
    have e3 : ay_at hp' 174 = ay_at hp 174 := ay_same hR x3 (g := 44) ax_cg_174 (List.all_eq_true.mp hall (44, 999) (by simp))
    have e4 : ay_at hp' 175 0 = ay_at hp 175 0 := ay_same1 hR x4 (g := 45) ax_cg_175 (List.all_eq_true.mp hall (45, 0) (by simp))
    have e5 : ay_at hp' 176 0 = ay_at hp 176 0 := ay_same1 hR x5 (g := 46) ax_cg_176 (List.all_eq_true.mp hall (46, 0) (by simp))
    refine ⟨ay_ex_same hR x0 (g := 64) ax_cg_194, ay_ex_same hR x1 (g := 61) ax_cg_191, ay_ex_same hR x2 (g := 51) ax_cg_181, ay_ex_same hR x3 (g := 44) ax_cg_174, ay_ex_same hR x4 (g := 45) ax_cg_175, ay_ex_same hR x5 (g := 46) ax_cg_176, ?_⟩
    show ay_M30 0 g v s (ay_at hp' 194) (ay_at hp' 191) (ay_at hp' 181) (ay_at hp' 174) (ay_at hp' 175 0) (ay_at hp' 176 0)
    rw [e0, e1, e2, e3, e4, e5]
    exact hX
  | [], _ => trivial
  | [_], _ => trivial
  | [_, _], _ => trivial
  | _ :: _ :: _ :: _ :: _, _ => trivial
theorem ax_XMs0_31 : ax_XMd0 31 := by
  intro vs dl md hp hp' hdl hall hR hX
  match vs, hX with
  | [f, t, i, n, v, s, c], hX =>
    have hdl : [(64, 999), (51, 999), (44, 999)] = dl := Option.some.inj hdl
    subst hdl
    obtain ⟨x0, x1, x2, hX⟩ := hX
    have e0 : ay_at hp' 194 = ay_at hp 194 := ay_same hR x0 (g := 64) ax_cg_194 (List.all_eq_true.mp hall (64, 999) (by simp))
    have e1 : ay_at hp' 181 = ay_at hp 181 := ay_same hR x1 (g := 51) ax_cg_181 (List.all_eq_true.mp hall (51, 999) (by simp))
    have e2 : ay_at hp' 174 = ay_at hp 174 := ay_same hR x2 (g := 44) ax_cg_174 (List.all_eq_true.mp hall (44, 999) (by simp))
    refine ⟨ay_ex_same hR x0 (g := 64) ax_cg_194, ay_ex_same hR x1 (g := 51) ax_cg_181, ay_ex_same hR x2 (g := 44) ax_cg_174, ?_⟩
    show ay_M31 0 f t i n v s c (ay_at hp' 194) (ay_at hp' 181) (ay_at hp' 174)
    rw [e0, e1, e2]
    exact hX
  | [], _ => trivial
  | [_], _ => trivial
  | [_, _], _ => trivial
  | [_, _, _], _ => trivial
  | [_, _, _, _], _ => trivial
  | [_, _, _, _, _], _ => trivial
  | [_, _, _, _, _, _], _ => trivial
  | _ :: _ :: _ :: _ :: _ :: _ :: _ :: _ :: _, _ => trivial
theorem ax_XMs0_32 : ax_XMd0 32 := by
  intro vs dl md hp hp' hdl hall hR hX
  match vs, hX with
  | [f, t, i, c], hX =>
    have hdl : [(64, 999), (51, 999), (44, 999)] = dl := Option.some.inj hdl
    subst hdl
    obtain ⟨x0, x1, x2, hX⟩ := hX
    have e0 : ay_at hp' 194 = ay_at hp 194 := ay_same hR x0 (g := 64) ax_cg_194 (List.all_eq_true.mp hall (64, 999) (by simp))
    have e1 : ay_at hp' 181 = ay_at hp 181 := ay_same hR x1 (g := 51) ax_cg_181 (List.all_eq_true.mp hall (51, 999) (by simp))
    have e2 : ay_at hp' 174 = ay_at hp 174 := ay_same hR x2 (g := 44) ax_cg_174 (List.all_eq_true.mp hall (44, 999) (by simp))
    refine ⟨ay_ex_same hR x0 (g := 64) ax_cg_194, ay_ex_same hR x1 (g := 51) ax_cg_181, ay_ex_same hR x2 (g := 44) ax_cg_174, ?_⟩
    show ay_M32 0 f t i c (ay_at hp' 194) (ay_at hp' 181) (ay_at hp' 174)
    rw [e0, e1, e2]
    exact hX
  | [], _ => trivial
  | [_], _ => trivial
  | [_, _], _ => trivial
  | [_, _, _], _ => trivial
  | _ :: _ :: _ :: _ :: _ :: _, _ => trivial
theorem ax_XMs0_33 : ax_XMd0 33 := by
  intro vs dl md hp hp' hdl hall hR hX
  match vs, hX with
  | [f, t, i, n, v, s], hX =>
    have hdl : [(64, 999), (51, 999), (44, 999)] = dl := Option.some.inj hdl
    subst hdl
    obtain ⟨x0, x1, x2, hX⟩ := hX
    have e0 : ay_at hp' 194 = ay_at hp 194 := ay_same hR x0 (g := 64) ax_cg_194 (List.all_eq_true.mp hall (64, 999) (by simp))
    have e1 : ay_at hp' 181 = ay_at hp 181 := ay_same hR x1 (g := 51) ax_cg_181 (List.all_eq_true.mp hall (51, 999) (by simp))
    have e2 : ay_at hp' 174 = ay_at hp 174 := ay_same hR x2 (g := 44) ax_cg_174 (List.all_eq_true.mp hall (44, 999) (by simp))
    refine ⟨ay_ex_same hR x0 (g := 64) ax_cg_194, ay_ex_same hR x1 (g := 51) ax_cg_181, ay_ex_same hR x2 (g := 44) ax_cg_174, ?_⟩
    show ay_M33 0 f t i n v s (ay_at hp' 194) (ay_at hp' 181) (ay_at hp' 174)
    rw [e0, e1, e2]
    exact hX
  | [], _ => trivial
  | [_], _ => trivial
  | [_, _], _ => trivial
  | [_, _, _], _ => trivial
  | [_, _, _, _], _ => trivial
  | [_, _, _, _, _], _ => trivial
  | _ :: _ :: _ :: _ :: _ :: _ :: _ :: _, _ => trivial
theorem ax_XMs0_34 : ax_XMd0 34 := by
  intro vs dl md hp hp' hdl hall hR hX
  match vs, hX with
  | [f, t, i], hX =>
    have hdl : [(64, 999), (51, 999), (44, 999)] = dl := Option.some.inj hdl
    subst hdl
    obtain ⟨x0, x1, x2, hX⟩ := hX
    have e0 : ay_at hp' 194 = ay_at hp 194 := ay_same hR x0 (g := 64) ax_cg_194 (List.all_eq_true.mp hall (64, 999) (by simp))
    have e1 : ay_at hp' 181 = ay_at hp 181 := ay_same hR x1 (g := 51) ax_cg_181 (List.all_eq_true.mp hall (51, 999) (by simp))
    have e2 : ay_at hp' 174 = ay_at hp 174 := ay_same hR x2 (g := 44) ax_cg_174 (List.all_eq_true.mp hall (44, 999) (by simp))
    refine ⟨ay_ex_same hR x0 (g := 64) ax_cg_194, ay_ex_same hR x1 (g := 51) ax_cg_181, ay_ex_same hR x2 (g := 44) ax_cg_174, ?_⟩
    show ay_M34 0 f t i (ay_at hp' 194) (ay_at hp' 181) (ay_at hp' 174)
    rw [e0, e1, e2]
    exact hX
  | [], _ => trivial
  | [_], _ => trivial
  | [_, _], _ => trivial
  | _ :: _ :: _ :: _ :: _, _ => trivial
theorem ax_XMs0_36 : ax_XMd0 36 := by
  intro vs dl md hp hp' hdl hall hR hX
  match vs, hX with
  | [n, k], hX =>
    have hdl : [(52, 999), (50, 0)] = dl := Option.some.inj hdl
    subst hdl
    obtain ⟨x0, x1, hX⟩ := hX
    have e0 : ay_at hp' 182 = ay_at hp 182 := ay_same hR x0 (g := 52) ax_cg_182 (List.all_eq_true.mp hall (52, 999) (by simp))
    have e1 : ay_at hp' 180 0 = ay_at hp 180 0 := ay_same1 hR x1 (g := 50) ax_cg_180 (List.all_eq_true.mp hall (50, 0) (by simp))
    refine ⟨ay_ex_same hR x0 (g := 52) ax_cg_182, ay_ex_same hR x1 (g := 50) ax_cg_180, ?_⟩
    show ay_M36 0 n k (ay_at hp' 182)
    rw [e0]
    exact hX
  | [], _ => trivial
  | [_], _ => trivial
  | _ :: _ :: _ :: _, _ => trivial
theorem ax_XMs0_40 : ax_XMd0 40 := by
  intro vs dl md hp hp' hdl hall hR hX
  match vs, hX with
  | [u, x, d, e, m], hX =>
    have hdl : [(55, 999), (11, 27), (52, 999), (50, 1), (49, 1), (11, 28)] = dl := Option.some.inj hdl
    subst hdl
    obtain ⟨x0, x1, x2, x3, x4, x5, hX⟩ := hX
    have e0 : ay_at hp' 185 = ay_at hp 185 := ay_same hR x0 (g := 55) ax_cg_185 (List.all_eq_true.mp hall (55, 999) (by simp))
    have e1 : ay_at hp' 173 27 = ay_at hp 173 27 := ay_same1 hR x1 (g := 11) ax_cg_173 (List.all_eq_true.mp hall (11, 27) (by simp))
    have e2 : ay_at hp' 182 = ay_at hp 182 := ay_same hR x2 (g := 52) ax_cg_182 (List.all_eq_true.mp hall (52, 999) (by simp))
    have e3 : ay_at hp' 180 1 = ay_at hp 180 1 := ay_same1 hR x3 (g := 50) ax_cg_180 (List.all_eq_true.mp hall (50, 1) (by simp))
    have e4 : ay_at hp' 179 1 = ay_at hp 179 1 := ay_same1 hR x4 (g := 49) ax_cg_179 (List.all_eq_true.mp hall (49, 1) (by simp))
    have e5 : ay_at hp' 173 28 = ay_at hp 173 28 := ay_same1 hR x5 (g := 11) ax_cg_173 (List.all_eq_true.mp hall (11, 28) (by simp))
    refine ⟨ay_ex_same hR x0 (g := 55) ax_cg_185, ay_ex_same hR x1 (g := 11) ax_cg_173, ay_ex_same hR x2 (g := 52) ax_cg_182, ay_ex_same hR x3 (g := 50) ax_cg_180, ay_ex_same hR x4 (g := 49) ax_cg_179, ay_ex_same hR x5 (g := 11) ax_cg_173, ?_⟩
    show ay_M40 1 u x d e m (ay_at hp' 185) (ay_at hp' 173 27) (ay_at hp' 182) (ay_at hp' 180 1) (ay_at hp' 179 1) (ay_at hp' 173 28)
    rw [e0, e1, e2, e3, e4, e5]
    exact hX
  | [], _ => trivial
  | [_], _ => trivial
  | [_, _], _ => trivial
  | [_, _, _], _ => trivial
  | [_, _, _, _], _ => trivial
  | _ :: _ :: _ :: _ :: _ :: _ :: _, _ => trivial
theorem ax_XMs0_42 : ax_XMd0 42 := by
  intro vs dl md hp hp' hdl hall hR hX
  match vs, hX with
  | [], hX =>
    have hdl : [(50, 1), (49, 1)] = dl := Option.some.inj hdl
    subst hdl
    obtain ⟨x0, x1, hX⟩ := hX
    have e0 : ay_at hp' 180 1 = ay_at hp 180 1 := ay_same1 hR x0 (g := 50) ax_cg_180 (List.all_eq_true.mp hall (50, 1) (by simp))
    have e1 : ay_at hp' 179 1 = ay_at hp 179 1 := ay_same1 hR x1 (g := 49) ax_cg_179 (List.all_eq_true.mp hall (49, 1) (by simp))
    refine ⟨ay_ex_same hR x0 (g := 50) ax_cg_180, ay_ex_same hR x1 (g := 49) ax_cg_179, ?_⟩
    show ay_M42 (ay_at hp' 180 1) (ay_at hp' 179 1)
    rw [e0, e1]
    exact hX
  | _ :: _, _ => trivial
theorem ax_XMs0_50 : ax_XMd0 50 := by
  intro vs dl md hp hp' hdl hall hR hX
  match vs, hX with
  | [], hX =>
    have hdl : [(45, 1), (47, 1), (46, 1), (51, 999), (11, 18)] = dl := Option.some.inj hdl
    subst hdl
    obtain ⟨x0, x1, x2, x3, x4, hX⟩ := hX
    have e0 : ay_at hp' 175 1 = ay_at hp 175 1 := ay_same1 hR x0 (g := 45) ax_cg_175 (List.all_eq_true.mp hall (45, 1) (by simp))
    have e1 : ay_at hp' 177 1 = ay_at hp 177 1 := ay_same1 hR x1 (g := 47) ax_cg_177 (List.all_eq_true.mp hall (47, 1) (by simp))
    have e2 : ay_at hp' 176 1 = ay_at hp 176 1 := ay_same1 hR x2 (g := 46) ax_cg_176 (List.all_eq_true.mp hall (46, 1) (by simp))
    have e3 : ay_at hp' 181 = ay_at hp 181 := ay_same hR x3 (g := 51) ax_cg_181 (List.all_eq_true.mp hall (51, 999) (by simp))
    have e4 : ay_at hp' 173 18 = ay_at hp 173 18 := ay_same1 hR x4 (g := 11) ax_cg_173 (List.all_eq_true.mp hall (11, 18) (by simp))
    refine ⟨ay_ex_same hR x0 (g := 45) ax_cg_175, ay_ex_same hR x1 (g := 47) ax_cg_177, ay_ex_same hR x2 (g := 46) ax_cg_176, ay_ex_same hR x3 (g := 51) ax_cg_181, ay_ex_same hR x4 (g := 11) ax_cg_173, ?_⟩
    show ay_M50 1 (ay_at hp' 175 1) (ay_at hp' 177 1) (ay_at hp' 176 1) (ay_at hp' 181) (ay_at hp' 173 18)
    rw [e0, e1, e2, e3, e4]
    exact hX
  | _ :: _, _ => trivial
theorem ax_XMs0_52 : ax_XMd0 52 := by
  intro vs dl md hp hp' hdl hall hR hX
  match vs, hX with
  | [], hX =>
    have hdl : [(52, 999), (50, 1), (49, 1), (11, 18), (11, 24)] = dl := Option.some.inj hdl
    subst hdl
    obtain ⟨x0, x1, x2, x3, x4, hX⟩ := hX
    have e0 : ay_at hp' 182 = ay_at hp 182 := ay_same hR x0 (g := 52) ax_cg_182 (List.all_eq_true.mp hall (52, 999) (by simp))
    have e1 : ay_at hp' 180 1 = ay_at hp 180 1 := ay_same1 hR x1 (g := 50) ax_cg_180 (List.all_eq_true.mp hall (50, 1) (by simp))
    have e2 : ay_at hp' 179 1 = ay_at hp 179 1 := ay_same1 hR x2 (g := 49) ax_cg_179 (List.all_eq_true.mp hall (49, 1) (by simp))
    have e3 : ay_at hp' 173 18 = ay_at hp 173 18 := ay_same1 hR x3 (g := 11) ax_cg_173 (List.all_eq_true.mp hall (11, 18) (by simp))
    have e4 : ay_at hp' 173 24 = ay_at hp 173 24 := ay_same1 hR x4 (g := 11) ax_cg_173 (List.all_eq_true.mp hall (11, 24) (by simp))
    refine ⟨ay_ex_same hR x0 (g := 52) ax_cg_182, ay_ex_same hR x1 (g := 50) ax_cg_180, ay_ex_same hR x2 (g := 49) ax_cg_179, ay_ex_same hR x3 (g := 11) ax_cg_173, ay_ex_same hR x4 (g := 11) ax_cg_173, ?_⟩
    show ay_M52 1 (ay_at hp' 182) (ay_at hp' 180 1) (ay_at hp' 179 1) (ay_at hp' 173 18) (ay_at hp' 173 24)
    rw [e0, e1, e2, e3, e4]
    exact hX
  | _ :: _, _ => trivial
theorem ax_XMs0_53 : ax_XMd0 53 := by
  intro vs dl md hp hp' hdl hall hR hX
  match vs, hX with
  | [k, u], hX =>
    have hdl : [(49, 1), (11, 28)] = dl := Option.some.inj hdl
    subst hdl
    obtain ⟨x0, x1, hX⟩ := hX
    have e0 : ay_at hp' 179 1 = ay_at hp 179 1 := ay_same1 hR x0 (g := 49) ax_cg_179 (List.all_eq_true.mp hall (49, 1) (by simp))
    have e1 : ay_at hp' 173 28 = ay_at hp 173 28 := ay_same1 hR x1 (g := 11) ax_cg_173 (List.all_eq_true.mp hall (11, 28) (by simp))
    refine ⟨ay_ex_same hR x0 (g := 49) ax_cg_179, ay_ex_same hR x1 (g := 11) ax_cg_173, ?_⟩
    show ay_M53 k u (ay_at hp' 179 1) (ay_at hp' 173 28)
    rw [e0, e1]
    exact hX
  | [], _ => trivial
  | [_], _ => trivial
  | _ :: _ :: _ :: _, _ => trivial
theorem ax_XMs0_54 : ax_XMd0 54 := by
  intro vs dl md hp hp' hdl hall hR hX
  match vs, hX with
  | [k], hX =>
    have hdl : [(46, 1), (11, 23), (11, 24), (11, 25)] = dl := Option.some.inj hdl
    subst hdl
    obtain ⟨x0, x1, x2, x3, hX⟩ := hX
    have e0 : ay_at hp' 176 1 = ay_at hp 176 1 := ay_same1 hR x0 (g := 46) ax_cg_176 (List.all_eq_true.mp hall (46, 1) (by simp))
    have e1 : ay_at hp' 173 23 = ay_at hp 173 23 := ay_same1 hR x1 (g := 11) ax_cg_173 (List.all_eq_true.mp hall (11, 23) (by simp))
    have e2 : ay_at hp' 173 24 = ay_at hp 173 24 := ay_same1 hR x2 (g := 11) ax_cg_173 (List.all_eq_true.mp hall (11, 24) (by simp))
    have e3 : ay_at hp' 173 25 = ay_at hp 173 25 := ay_same1 hR x3 (g := 11) ax_cg_173 (List.all_eq_true.mp hall (11, 25) (by simp))
    refine ⟨ay_ex_same hR x0 (g := 46) ax_cg_176, ay_ex_same hR x1 (g := 11) ax_cg_173, ay_ex_same hR x2 (g := 11) ax_cg_173, ay_ex_same hR x3 (g := 11) ax_cg_173, ?_⟩
    show ay_M54 k (ay_at hp' 176 1) (ay_at hp' 173 23) (ay_at hp' 173 24) (ay_at hp' 173 25)
    rw [e0, e1, e2, e3]
    exact hX
  | [], _ => trivial
  | _ :: _ :: _, _ => trivial
theorem ax_XMs0_55 : ax_XMd0 55 := by
  intro vs dl md hp hp' hdl hall hR hX
  match vs, hX with
  | [k], hX =>
    have hdl : [(49, 1)] = dl := Option.some.inj hdl
    subst hdl
    obtain ⟨x0, hX⟩ := hX
    have e0 : ay_at hp' 179 1 = ay_at hp 179 1 := ay_same1 hR x0 (g := 49) ax_cg_179 (List.all_eq_true.mp hall (49, 1) (by simp))
    refine ⟨ay_ex_same hR x0 (g := 49) ax_cg_179, ?_⟩
    show ay_M55 k (ay_at hp' 179 1)
    rw [e0]
    exact hX
  | [], _ => trivial
  | _ :: _ :: _, _ => trivial
theorem ax_XMs0_64 : ax_XMd0 64 := by
  intro vs dl md hp hp' hdl hall hR hX
  match vs, hX with
  | [], hX =>
    have hdl : [(51, 999), (46, 1), (45, 1)] = dl := Option.some.inj hdl
    subst hdl
    obtain ⟨x0, x1, x2, hX⟩ := hX
    have e0 : ay_at hp' 181 = ay_at hp 181 := ay_same hR x0 (g := 51) ax_cg_181 (List.all_eq_true.mp hall (51, 999) (by simp))
    have e1 : ay_at hp' 176 1 = ay_at hp 176 1 := ay_same1 hR x1 (g := 46) ax_cg_176 (List.all_eq_true.mp hall (46, 1) (by simp))
    have e2 : ay_at hp' 175 1 = ay_at hp 175 1 := ay_same1 hR x2 (g := 45) ax_cg_175 (List.all_eq_true.mp hall (45, 1) (by simp))
    refine ⟨ay_ex_same hR x0 (g := 51) ax_cg_181, ay_ex_same hR x1 (g := 46) ax_cg_176, ay_ex_same hR x2 (g := 45) ax_cg_175, ?_⟩
    show ay_M64 1 (ay_at hp' 181) (ay_at hp' 176 1) (ay_at hp' 175 1)
    rw [e0, e1, e2]
    exact hX
  | _ :: _, _ => trivial
theorem ax_XMs0_65 : ax_XMd0 65 := by
  intro vs dl md hp hp' hdl hall hR hX
  match vs, hX with
  | [], hX =>
    have hdl : [(51, 999), (46, 1), (45, 1)] = dl := Option.some.inj hdl
    subst hdl
    obtain ⟨x0, x1, x2, hX⟩ := hX
    have e0 : ay_at hp' 181 = ay_at hp 181 := ay_same hR x0 (g := 51) ax_cg_181 (List.all_eq_true.mp hall (51, 999) (by simp))
    have e1 : ay_at hp' 176 1 = ay_at hp 176 1 := ay_same1 hR x1 (g := 46) ax_cg_176 (List.all_eq_true.mp hall (46, 1) (by simp))
    have e2 : ay_at hp' 175 1 = ay_at hp 175 1 := ay_same1 hR x2 (g := 45) ax_cg_175 (List.all_eq_true.mp hall (45, 1) (by simp))
    refine ⟨ay_ex_same hR x0 (g := 51) ax_cg_181, ay_ex_same hR x1 (g := 46) ax_cg_176, ay_ex_same hR x2 (g := 45) ax_cg_175, ?_⟩
    show ay_M65 1 (ay_at hp' 181) (ay_at hp' 176 1) (ay_at hp' 175 1)
    rw [e0, e1, e2]
    exact hX
  | _ :: _, _ => trivial
theorem ax_XMs0_152 : ax_XMd0 152 := by
  intro vs dl md hp hp' hdl hall hR hX
  match vs, hX with
  | [g, n], hX =>
    have hdl : [(45, 1), (46, 1), (47, 1), (48, 1), (49, 1), (11, 23), (11, 25), (11, 24), (11, 18), (11, 19), (51, 999)] = dl := Option.some.inj hdl
    subst hdl
    obtain ⟨x0, x1, x2, x3, x4, x5, x6, x7, x8, x9, x10, hX⟩ := hX
    have e0 : ay_at hp' 175 1 = ay_at hp 175 1 := ay_same1 hR x0 (g := 45) ax_cg_175 (List.all_eq_true.mp hall (45, 1) (by simp))
    have e1 : ay_at hp' 176 1 = ay_at hp 176 1 := ay_same1 hR x1 (g := 46) ax_cg_176 (List.all_eq_true.mp hall (46, 1) (by simp))
    have e2 : ay_at hp' 177 1 = ay_at hp 177 1 := ay_same1 hR x2 (g := 47) ax_cg_177 (List.all_eq_true.mp hall (47, 1) (by simp))
    have e3 : ay_at hp' 178 1 = ay_at hp 178 1 := ay_same1 hR x3 (g := 48) ax_cg_178 (List.all_eq_true.mp hall (48, 1) (by simp))
    have e4 : ay_at hp' 179 1 = ay_at hp 179 1 := ay_same1 hR x4 (g := 49) ax_cg_179 (List.all_eq_true.mp hall (49, 1) (by simp))
    have e5 : ay_at hp' 173 23 = ay_at hp 173 23 := ay_same1 hR x5 (g := 11) ax_cg_173 (List.all_eq_true.mp hall (11, 23) (by simp))
    have e6 : ay_at hp' 173 25 = ay_at hp 173 25 := ay_same1 hR x6 (g := 11) ax_cg_173 (List.all_eq_true.mp hall (11, 25) (by simp))
    have e7 : ay_at hp' 173 24 = ay_at hp 173 24 := ay_same1 hR x7 (g := 11) ax_cg_173 (List.all_eq_true.mp hall (11, 24) (by simp))
    have e8 : ay_at hp' 173 18 = ay_at hp 173 18 := ay_same1 hR x8 (g := 11) ax_cg_173 (List.all_eq_true.mp hall (11, 18) (by simp))
    have e9 : ay_at hp' 173 19 = ay_at hp 173 19 := ay_same1 hR x9 (g := 11) ax_cg_173 (List.all_eq_true.mp hall (11, 19) (by simp))
    have e10 : ay_at hp' 181 = ay_at hp 181 := ay_same hR x10 (g := 51) ax_cg_181 (List.all_eq_true.mp hall (51, 999) (by simp))
    refine ⟨ay_ex_same hR x0 (g := 45) ax_cg_175, ay_ex_same hR x1 (g := 46) ax_cg_176, ay_ex_same hR x2 (g := 47) ax_cg_177, ay_ex_same hR x3 (g := 48) ax_cg_178, ay_ex_same hR x4 (g := 49) ax_cg_179, ay_ex_same hR x5 (g := 11) ax_cg_173, ay_ex_same hR x6 (g := 11) ax_cg_173, ay_ex_same hR x7 (g := 11) ax_cg_173, ay_ex_same hR x8 (g := 11) ax_cg_173, ay_ex_same hR x9 (g := 11) ax_cg_173, ay_ex_same hR x10 (g := 51) ax_cg_181, ?_⟩
    show pz_y152 1 g n (ay_at hp' 175 1) (ay_at hp' 176 1) (ay_at hp' 177 1) (ay_at hp' 178 1) (ay_at hp' 179 1) (ay_at hp' 173 23) (ay_at hp' 173 25) (ay_at hp' 173 24) (ay_at hp' 173 18) (ay_at hp' 173 19) (ay_at hp' 181)
    rw [e0, e1, e2, e3, e4, e5, e6, e7, e8, e9, e10]
    exact hX
  | [], _ => trivial
  | [_], _ => trivial
  | _ :: _ :: _ :: _, _ => trivial
theorem ax_XMs0_210 : ax_XMd0 210 := by
  intro vs dl md hp hp' hdl hall hR hX
  match vs, hX with
  | [g], hX =>
    have hdl : [(45, 1), (46, 1), (47, 1), (48, 1), (49, 1), (11, 23), (11, 25), (11, 24), (11, 18), (11, 19), (51, 999)] = dl := Option.some.inj hdl
    subst hdl
    obtain ⟨x0, x1, x2, x3, x4, x5, x6, x7, x8, x9, x10, hX⟩ := hX
    have e0 : ay_at hp' 175 1 = ay_at hp 175 1 := ay_same1 hR x0 (g := 45) ax_cg_175 (List.all_eq_true.mp hall (45, 1) (by simp))
    have e1 : ay_at hp' 176 1 = ay_at hp 176 1 := ay_same1 hR x1 (g := 46) ax_cg_176 (List.all_eq_true.mp hall (46, 1) (by simp))
    have e2 : ay_at hp' 177 1 = ay_at hp 177 1 := ay_same1 hR x2 (g := 47) ax_cg_177 (List.all_eq_true.mp hall (47, 1) (by simp))
    have e3 : ay_at hp' 178 1 = ay_at hp 178 1 := ay_same1 hR x3 (g := 48) ax_cg_178 (List.all_eq_true.mp hall (48, 1) (by simp))
    have e4 : ay_at hp' 179 1 = ay_at hp 179 1 := ay_same1 hR x4 (g := 49) ax_cg_179 (List.all_eq_true.mp hall (49, 1) (by simp))
    have e5 : ay_at hp' 173 23 = ay_at hp 173 23 := ay_same1 hR x5 (g := 11) ax_cg_173 (List.all_eq_true.mp hall (11, 23) (by simp))
    have e6 : ay_at hp' 173 25 = ay_at hp 173 25 := ay_same1 hR x6 (g := 11) ax_cg_173 (List.all_eq_true.mp hall (11, 25) (by simp))
    have e7 : ay_at hp' 173 24 = ay_at hp 173 24 := ay_same1 hR x7 (g := 11) ax_cg_173 (List.all_eq_true.mp hall (11, 24) (by simp))
    have e8 : ay_at hp' 173 18 = ay_at hp 173 18 := ay_same1 hR x8 (g := 11) ax_cg_173 (List.all_eq_true.mp hall (11, 18) (by simp))
    have e9 : ay_at hp' 173 19 = ay_at hp 173 19 := ay_same1 hR x9 (g := 11) ax_cg_173 (List.all_eq_true.mp hall (11, 19) (by simp))
    have e10 : ay_at hp' 181 = ay_at hp 181 := ay_same hR x10 (g := 51) ax_cg_181 (List.all_eq_true.mp hall (51, 999) (by simp))
    refine ⟨ay_ex_same hR x0 (g := 45) ax_cg_175, ay_ex_same hR x1 (g := 46) ax_cg_176, ay_ex_same hR x2 (g := 47) ax_cg_177, ay_ex_same hR x3 (g := 48) ax_cg_178, ay_ex_same hR x4 (g := 49) ax_cg_179, ay_ex_same hR x5 (g := 11) ax_cg_173, ay_ex_same hR x6 (g := 11) ax_cg_173, ay_ex_same hR x7 (g := 11) ax_cg_173, ay_ex_same hR x8 (g := 11) ax_cg_173, ay_ex_same hR x9 (g := 11) ax_cg_173, ay_ex_same hR x10 (g := 51) ax_cg_181, ?_⟩
    show pz110 (pz_gt g) (pz_gN g) (ay_ln (ay_at hp' 175 1)) (ay_ln (ay_at hp' 176 1)) (ay_ln (ay_at hp' 177 1)) (ay_ln (ay_at hp' 178 1)) (ay_ln (ay_at hp' 179 1)) (ay_ln (ay_at hp' 173 23)) (ay_ln (ay_at hp' 173 25)) (ay_ln (ay_at hp' 173 24)) (ay_ln (ay_at hp' 173 18)) (ay_ln (ay_at hp' 173 19)) (pz_be 1 (ay_at hp' 181)) (pz_fi 1 (ay_at hp' 181))
    rw [e0, e1, e2, e3, e4, e5, e6, e7, e8, e9, e10]
    exact hX
  | [], _ => trivial
  | _ :: _ :: _, _ => trivial
theorem ax_XMs0_216 : ax_XMd0 216 := by
  intro vs dl md hp hp' hdl hall hR hX
  match vs, hX with
  | [g, n, a, e, l], hX =>
    have hdl : [(45, 1), (46, 1), (47, 1), (48, 1), (49, 1), (11, 23), (11, 25), (11, 24), (11, 18), (11, 19), (51, 999)] = dl := Option.some.inj hdl
    subst hdl
    obtain ⟨x0, x1, x2, x3, x4, x5, x6, x7, x8, x9, x10, hX⟩ := hX
    have e0 : ay_at hp' 175 1 = ay_at hp 175 1 := ay_same1 hR x0 (g := 45) ax_cg_175 (List.all_eq_true.mp hall (45, 1) (by simp))
    have e1 : ay_at hp' 176 1 = ay_at hp 176 1 := ay_same1 hR x1 (g := 46) ax_cg_176 (List.all_eq_true.mp hall (46, 1) (by simp))
    have e2 : ay_at hp' 177 1 = ay_at hp 177 1 := ay_same1 hR x2 (g := 47) ax_cg_177 (List.all_eq_true.mp hall (47, 1) (by simp))
    have e3 : ay_at hp' 178 1 = ay_at hp 178 1 := ay_same1 hR x3 (g := 48) ax_cg_178 (List.all_eq_true.mp hall (48, 1) (by simp))
    have e4 : ay_at hp' 179 1 = ay_at hp 179 1 := ay_same1 hR x4 (g := 49) ax_cg_179 (List.all_eq_true.mp hall (49, 1) (by simp))
    have e5 : ay_at hp' 173 23 = ay_at hp 173 23 := ay_same1 hR x5 (g := 11) ax_cg_173 (List.all_eq_true.mp hall (11, 23) (by simp))
    have e6 : ay_at hp' 173 25 = ay_at hp 173 25 := ay_same1 hR x6 (g := 11) ax_cg_173 (List.all_eq_true.mp hall (11, 25) (by simp))
    have e7 : ay_at hp' 173 24 = ay_at hp 173 24 := ay_same1 hR x7 (g := 11) ax_cg_173 (List.all_eq_true.mp hall (11, 24) (by simp))
    have e8 : ay_at hp' 173 18 = ay_at hp 173 18 := ay_same1 hR x8 (g := 11) ax_cg_173 (List.all_eq_true.mp hall (11, 18) (by simp))
    have e9 : ay_at hp' 173 19 = ay_at hp 173 19 := ay_same1 hR x9 (g := 11) ax_cg_173 (List.all_eq_true.mp hall (11, 19) (by simp))
    have e10 : ay_at hp' 181 = ay_at hp 181 := ay_same hR x10 (g := 51) ax_cg_181 (List.all_eq_true.mp hall (51, 999) (by simp))
    refine ⟨ay_ex_same hR x0 (g := 45) ax_cg_175, ay_ex_same hR x1 (g := 46) ax_cg_176, ay_ex_same hR x2 (g := 47) ax_cg_177, ay_ex_same hR x3 (g := 48) ax_cg_178, ay_ex_same hR x4 (g := 49) ax_cg_179, ay_ex_same hR x5 (g := 11) ax_cg_173, ay_ex_same hR x6 (g := 11) ax_cg_173, ay_ex_same hR x7 (g := 11) ax_cg_173, ay_ex_same hR x8 (g := 11) ax_cg_173, ay_ex_same hR x9 (g := 11) ax_cg_173, ay_ex_same hR x10 (g := 51) ax_cg_181, ?_⟩
    show pz_yal 1 1 g n a e l (ay_at hp' 175 1) (ay_at hp' 176 1) (ay_at hp' 177 1) (ay_at hp' 178 1) (ay_at hp' 179 1) (ay_at hp' 173 23) (ay_at hp' 173 25) (ay_at hp' 173 24) (ay_at hp' 173 18) (ay_at hp' 173 19) (ay_at hp' 181)
    rw [e0, e1, e2, e3, e4, e5, e6, e7, e8, e9, e10]
    exact hX
  | [], _ => trivial
  | [_], _ => trivial
  | [_, _], _ => trivial
  | [_, _, _], _ => trivial
  | [_, _, _, _], _ => trivial
  | _ :: _ :: _ :: _ :: _ :: _ :: _, _ => trivial
theorem ax_XMs0_217 : ax_XMd0 217 := by
  intro vs dl md hp hp' hdl hall hR hX
  match vs, hX with
  | [g, n, a, e, l], hX =>
    have hdl : [(45, 1), (46, 1), (47, 1), (48, 1), (49, 1), (11, 23), (11, 25), (11, 24), (11, 18), (11, 19), (51, 999)] = dl := Option.some.inj hdl
    subst hdl
    obtain ⟨x0, x1, x2, x3, x4, x5, x6, x7, x8, x9, x10, hX⟩ := hX
    have e0 : ay_at hp' 175 1 = ay_at hp 175 1 := ay_same1 hR x0 (g := 45) ax_cg_175 (List.all_eq_true.mp hall (45, 1) (by simp))
    have e1 : ay_at hp' 176 1 = ay_at hp 176 1 := ay_same1 hR x1 (g := 46) ax_cg_176 (List.all_eq_true.mp hall (46, 1) (by simp))
    have e2 : ay_at hp' 177 1 = ay_at hp 177 1 := ay_same1 hR x2 (g := 47) ax_cg_177 (List.all_eq_true.mp hall (47, 1) (by simp))
    have e3 : ay_at hp' 178 1 = ay_at hp 178 1 := ay_same1 hR x3 (g := 48) ax_cg_178 (List.all_eq_true.mp hall (48, 1) (by simp))
    have e4 : ay_at hp' 179 1 = ay_at hp 179 1 := ay_same1 hR x4 (g := 49) ax_cg_179 (List.all_eq_true.mp hall (49, 1) (by simp))
    have e5 : ay_at hp' 173 23 = ay_at hp 173 23 := ay_same1 hR x5 (g := 11) ax_cg_173 (List.all_eq_true.mp hall (11, 23) (by simp))
    have e6 : ay_at hp' 173 25 = ay_at hp 173 25 := ay_same1 hR x6 (g := 11) ax_cg_173 (List.all_eq_true.mp hall (11, 25) (by simp))
    have e7 : ay_at hp' 173 24 = ay_at hp 173 24 := ay_same1 hR x7 (g := 11) ax_cg_173 (List.all_eq_true.mp hall (11, 24) (by simp))
    have e8 : ay_at hp' 173 18 = ay_at hp 173 18 := ay_same1 hR x8 (g := 11) ax_cg_173 (List.all_eq_true.mp hall (11, 18) (by simp))
    have e9 : ay_at hp' 173 19 = ay_at hp 173 19 := ay_same1 hR x9 (g := 11) ax_cg_173 (List.all_eq_true.mp hall (11, 19) (by simp))
    have e10 : ay_at hp' 181 = ay_at hp 181 := ay_same hR x10 (g := 51) ax_cg_181 (List.all_eq_true.mp hall (51, 999) (by simp))
    refine ⟨ay_ex_same hR x0 (g := 45) ax_cg_175, ay_ex_same hR x1 (g := 46) ax_cg_176, ay_ex_same hR x2 (g := 47) ax_cg_177, ay_ex_same hR x3 (g := 48) ax_cg_178, ay_ex_same hR x4 (g := 49) ax_cg_179, ay_ex_same hR x5 (g := 11) ax_cg_173, ay_ex_same hR x6 (g := 11) ax_cg_173, ay_ex_same hR x7 (g := 11) ax_cg_173, ay_ex_same hR x8 (g := 11) ax_cg_173, ay_ex_same hR x9 (g := 11) ax_cg_173, ay_ex_same hR x10 (g := 51) ax_cg_181, ?_⟩
    show pz_yal 2 1 g n a e l (ay_at hp' 175 1) (ay_at hp' 176 1) (ay_at hp' 177 1) (ay_at hp' 178 1) (ay_at hp' 179 1) (ay_at hp' 173 23) (ay_at hp' 173 25) (ay_at hp' 173 24) (ay_at hp' 173 18) (ay_at hp' 173 19) (ay_at hp' 181)
    rw [e0, e1, e2, e3, e4, e5, e6, e7, e8, e9, e10]
    exact hX
  | [], _ => trivial
  | [_], _ => trivial
  | [_, _], _ => trivial
  | [_, _, _], _ => trivial
  | [_, _, _, _], _ => trivial
  | _ :: _ :: _ :: _ :: _ :: _ :: _, _ => trivial
theorem ax_XMs0_241 : ax_XMd0 241 := by
  intro vs dl md hp hp' hdl hall hR hX
  match vs, hX with
  | [l], hX =>
    have hdl : [(50, 1), (52, 999)] = dl := Option.some.inj hdl
    subst hdl
    obtain ⟨x0, x1, hX⟩ := hX
    have e0 : ay_at hp' 180 1 = ay_at hp 180 1 := ay_same1 hR x0 (g := 50) ax_cg_180 (List.all_eq_true.mp hall (50, 1) (by simp))
    have e1 : ay_at hp' 182 = ay_at hp 182 := ay_same hR x1 (g := 52) ax_cg_182 (List.all_eq_true.mp hall (52, 999) (by simp))
    refine ⟨ay_ex_same hR x0 (g := 50) ax_cg_180, ay_ex_same hR x1 (g := 52) ax_cg_182, ?_⟩
    show py_y241 1 l (ay_at hp' 180 1) (ay_at hp' 182)
    rw [e0, e1]
    exact hX
  | [], _ => trivial
  | _ :: _ :: _, _ => trivial
theorem ax_XMs0_243 : ax_XMd0 243 := by
  intro vs dl md hp hp' hdl hall hR hX
  match vs, hX with
  | [l, c], hX =>
    have hdl : [(50, 1), (52, 999)] = dl := Option.some.inj hdl
    subst hdl
    obtain ⟨x0, x1, hX⟩ := hX
    have e0 : ay_at hp' 180 1 = ay_at hp 180 1 := ay_same1 hR x0 (g := 50) ax_cg_180 (List.all_eq_true.mp hall (50, 1) (by simp))
    have e1 : ay_at hp' 182 = ay_at hp 182 := ay_same hR x1 (g := 52) ax_cg_182 (List.all_eq_true.mp hall (52, 999) (by simp))
    refine ⟨ay_ex_same hR x0 (g := 50) ax_cg_180, ay_ex_same hR x1 (g := 52) ax_cg_182, ?_⟩
    show py_y243 1 l c (ay_at hp' 180 1) (ay_at hp' 182)
    rw [e0, e1]
    exact hX
  | [], _ => trivial
  | [_], _ => trivial
  | _ :: _ :: _ :: _, _ => trivial
theorem ax_XMs0 : ∀ y ∈ ax_spl, ax_XMd0 y := List.forall_mem_cons.mpr ⟨ax_XMs0_11, List.forall_mem_cons.mpr ⟨ax_XMs0_12, List.forall_mem_cons.mpr ⟨ax_XMs0_13, List.forall_mem_cons.mpr ⟨ax_XMs0_14, List.forall_mem_cons.mpr ⟨ax_XMs0_15, List.forall_mem_cons.mpr ⟨ax_XMs0_16, List.forall_mem_cons.mpr ⟨ax_XMs0_17, List.forall_mem_cons.mpr ⟨ax_XMs0_18, List.forall_mem_cons.mpr ⟨ax_XMs0_19, List.forall_mem_cons.mpr ⟨ax_XMs0_20, List.forall_mem_cons.mpr ⟨ax_XMs0_21, List.forall_mem_cons.mpr ⟨ax_XMs0_22, List.forall_mem_cons.mpr ⟨ax_XMs0_24, List.forall_mem_cons.mpr ⟨ax_XMs0_25, List.forall_mem_cons.mpr ⟨ax_XMs0_26, List.forall_mem_cons.mpr ⟨ax_XMs0_28, List.forall_mem_cons.mpr ⟨ax_XMs0_29, List.forall_mem_cons.mpr ⟨ax_XMs0_30, List.forall_mem_cons.mpr ⟨ax_XMs0_31, List.forall_mem_cons.mpr ⟨ax_XMs0_32, List.forall_mem_cons.mpr ⟨ax_XMs0_33, List.forall_mem_cons.mpr ⟨ax_XMs0_34, List.forall_mem_cons.mpr ⟨ax_XMs0_36, List.forall_mem_cons.mpr ⟨ax_XMs0_40, List.forall_mem_cons.mpr ⟨ax_XMs0_42, List.forall_mem_cons.mpr ⟨ax_XMs0_50, List.forall_mem_cons.mpr ⟨ax_XMs0_52, List.forall_mem_cons.mpr ⟨ax_XMs0_53, List.forall_mem_cons.mpr ⟨ax_XMs0_54, List.forall_mem_cons.mpr ⟨ax_XMs0_55, List.forall_mem_cons.mpr ⟨ax_XMs0_64, List.forall_mem_cons.mpr ⟨ax_XMs0_65, List.forall_mem_cons.mpr ⟨ax_XMs0_152, List.forall_mem_cons.mpr ⟨ax_XMs0_210, List.forall_mem_cons.mpr ⟨ax_XMs0_216, List.forall_mem_cons.mpr ⟨ax_XMs0_217, List.forall_mem_cons.mpr ⟨ax_XMs0_241, List.forall_mem_cons.mpr ⟨ax_XMs0_243, fun _ h => absurd h List.not_mem_nil⟩⟩⟩⟩⟩⟩⟩⟩⟩⟩⟩⟩⟩⟩⟩⟩⟩⟩⟩⟩⟩⟩⟩⟩⟩⟩⟩⟩⟩⟩⟩⟩⟩⟩⟩⟩⟩⟩
theorem ax_XM0_ok : ax_XD ax_wM0 (ax_XM 0) := by
  intro x vs dl md hp hp' hdl hall hR hX
  cases hs : ax_sp x with
  | false => exact ax_XMg_ok ax_WW0 x vs dl md hp hp' hs hdl hall hR hX
  | true => exact ax_sp_all (P := ax_XMd0) ax_XMs0 hs vs dl md hp hp' hdl hall hR hX
theorem axqg_huA {w : ax_W} {b : Nat} (hw : ax_WW w) : ax_RO w (ax_XM b) axu0_huA := by
  intro ρ hp hE hT
  have x0 : ax_M0 80 hp := (ax_XF_lt (x := 0) (Nat.le_of_ble_eq_true rfl)).mp (ax_gx hE (0, [80]) ax_m1)
  obtain ⟨a, b, c, ha, hb, hc, la, lb, lc, hs⟩ := ax_gs hE 3 4 7 (by decide)
  obtain ⟨k, m, l, f1, f2⟩ := ax_gF hE 702 224 7 173 56 (ρ 1) (by decide) (by rw [ax_vl_c (by decide)]) (by rw [ax_vl_c (by decide)]) rfl
  obtain ⟨d, hd, d1, d2, d3⟩ := ax_gi hE 1 2147483649 2147483668 (by decide) rfl
  have hc' : ρ 1 = 4 * c := hc
  have hdc : d = c := by omega
  subst hdc
  have hb' : b = 1 := by have : (4 : Nat) = 4 * b := hb; omega
  subst hb'
  obtain ⟨p1, p2⟩ := ax_bi_pos lc (by omega)
  have had : d = a + 1 := by rw [p2, ax_bi_def, ax_bi_def] at hs; rw [p2] at d2 d3; omega
  refine ⟨(fun y hy => by cases hy), _, List.mem_cons_self, ρ, fun _ _ => rfl, ax_px hE rfl (fun y hy => ?_)⟩
  cases List.mem_singleton.mp hy
  show ax_XF (ax_XM b) (500 + 0) [702, 224, ρ 0, 76] hp
  exact (ax_XF_wr (x := 0) (Nat.le_of_ble_eq_true rfl)).mpr (ax_huw hT.1 x0 f1 (by rw [← hd]; exact f2) ha (Or.inl rfl) (fun u hu => by show _ ≤ 19; replace hu : _ ≤ 20 := hu; omega))
theorem axq0_huA : ax_RO ax_wM0 (ax_XM 0) axu0_huA := axqg_huA ax_WW0
theorem axqg_hrU {w : ax_W} {b : Nat} (hw : ax_WW w) : ax_RO w (ax_XM b) axu0_hrU := by
  intro ρ hp hE hT
  have x0 : ax_M0 84 hp := (ax_XF_lt (x := 0) (Nat.le_of_ble_eq_true rfl)).mp (ax_gx hE (0, [84]) ax_m1)
  obtain ⟨a, b, c, ha, hb, hc, la, lb, lc, hs⟩ := ax_gs hE 3 4 7 (by decide)
  obtain ⟨k, m, l, f1, f2⟩ := ax_gF hE 702 228 7 173 57 (ρ 1) (by decide) (by rw [ax_vl_c (by decide)]) (by rw [ax_vl_c (by decide)]) rfl
  obtain ⟨d, hd, d1, d2, d3⟩ := ax_gi hE 1 2147483649 2147483668 (by decide) rfl
  have hc' : ρ 1 = 4 * c := hc
  have hdc : d = c := by omega
  subst hdc
  have hb' : b = 1 := by have : (4 : Nat) = 4 * b := hb; omega
  subst hb'
  obtain ⟨p1, p2⟩ := ax_bi_pos lc (by omega)
  have had : d = a + 1 := by rw [p2, ax_bi_def, ax_bi_def] at hs; rw [p2] at d2 d3; omega
  refine ⟨(fun y hy => by cases hy), _, List.mem_cons_self, ρ, fun _ _ => rfl, ax_px hE rfl (fun y hy => ?_)⟩
  cases List.mem_singleton.mp hy
  show ax_XF (ax_XM b) (500 + 0) [702, 228, ρ 0, 80] hp
  exact (ax_XF_wr (x := 0) (Nat.le_of_ble_eq_true rfl)).mpr (ax_huw hT.1 x0 f1 (by rw [← hd]; exact f2) ha (Or.inr rfl) (fun u hu => by show _ ≤ 20; replace hu : _ ≤ 21 := hu; omega))
theorem axq0_hrU : ax_RO ax_wM0 (ax_XM 0) axu0_hrU := axqg_hrU ax_WW0
theorem axqg_huU {w : ax_W} {b : Nat} (hw : ax_WW w) : ax_RO w (ax_XM b) axu0_huU := by
  intro ρ hp hE hT
  have x0 : ax_M0 76 hp := (ax_XF_lt (x := 0) (Nat.le_of_ble_eq_true rfl)).mp (ax_gx hE (0, [76]) ax_m1)
  obtain ⟨a, b, c, ha, hb, hc, la, lb, lc, hs⟩ := ax_gs hE 7 4 3 (by decide)
  obtain ⟨k, m, l, f1, f2⟩ := ax_gF hE 702 228 7 173 57 (ρ 1) (by decide) (by rw [ax_vl_c (by decide)]) (by rw [ax_vl_c (by decide)]) rfl
  obtain ⟨d, hd, d1, d2, d3⟩ := ax_gi hE 1 2147483648 2147483668 (by decide) rfl
  have ha' : ρ 1 = 4 * a := ha
  have hda : d = a := by omega
  subst hda
  have hb' : b = 1 := by have : (4 : Nat) = 4 * b := hb; omega
  obtain ⟨p1, p2⟩ := ax_bi_pos la d2
  have hcd := ax_sum1 hb' p1 lc hs
  have hu20 : d ≤ 19 := by
    obtain ⟨kk', n, d0, u0, f, e1, e2, e3, e4⟩ := x0
    rw [f1] at e1
    cases e1
    rw [e3] at f2
    have := Option.some.inj f2
    replace e4 : d0 + u0 ≤ 19 := e4
    omega
  refine ⟨fun x hx => ?_, _, List.mem_cons_self, ρ, fun _ _ => rfl, ax_px hE rfl (fun x hx => ?_)⟩
  · cases List.mem_singleton.mp hx
    have h0 : ρ 0 = 4 * c := hc
    show 2147483648 ≤ rx_bi (ρ 0 / 4) ∧ rx_bi (ρ 0 / 4) ≤ 2147483668
    rw [h0, Nat.mul_div_cancel_left c (by decide), ax_bi_nat (by omega)]
    omega
  · cases List.mem_singleton.mp hx
    show ax_XF (ax_XM b) (500 + 0) [702, 228, ρ 0, 80] hp
    exact (ax_XF_wr (x := 0) (Nat.le_of_ble_eq_true rfl)).mpr (ax_huw hT.1 x0 f1 (by rw [← hd]; exact f2) hc (Or.inr rfl) (fun u hu => by show _ ≤ 20; replace hu : _ ≤ 19 := hu; omega))
theorem axq0_huU : ax_RO ax_wM0 (ax_XM 0) axu0_huU := axqg_huU ax_WW0
theorem axqg_hrA {w : ax_W} {b : Nat} (hw : ax_WW w) : ax_RO w (ax_XM b) axu0_hrA := by
  intro ρ hp hE hT
  have x0 : ax_M0 80 hp := (ax_XF_lt (x := 0) (Nat.le_of_ble_eq_true rfl)).mp (ax_gx hE (0, [80]) ax_m2)
  obtain ⟨a, b, c, ha, hb, hc, la, lb, lc, hs⟩ := ax_gs hE 7 4 3 (by decide)
  obtain ⟨k, m, l, f1, f2⟩ := ax_gF hE 702 224 7 173 56 (ρ 1) (by decide) (by rw [ax_vl_c (by decide)]) (by rw [ax_vl_c (by decide)]) rfl
  obtain ⟨k', m', l', g1, g2⟩ := ax_gF hE 702 228 11 173 57 (ρ 2) (by decide) (by rw [ax_vl_c (by decide)]) (by rw [ax_vl_c (by decide)]) rfl
  obtain ⟨d, hd, d1, d2, d3⟩ := ax_gi hE 1 2147483648 2147483668 (by decide) rfl
  obtain ⟨u, hu, u1, u2, u3⟩ := ax_gi hE 2 2147483649 2147483668 (by decide) rfl
  have ha' : ρ 1 = 4 * a := ha
  have hda : d = a := by omega
  subst hda
  have hb' : b = 1 := by have : (4 : Nat) = 4 * b := hb; omega
  obtain ⟨p1, p2⟩ := ax_bi_pos la d2
  obtain ⟨v1, v2⟩ := ax_bi_pos u1 (by omega)
  have hcd := ax_sum1 hb' p1 lc hs
  have hd19 : d ≤ 19 := by
    obtain ⟨kk', n, d0, u0, f, e1, e2, e3, e4⟩ := x0
    rw [f1] at e1 g1
    cases e1
    cases g1
    rw [e2] at f2
    rw [e3] at g2
    have := Option.some.inj f2
    have := Option.some.inj g2
    replace e4 : d0 + u0 ≤ 20 := e4
    omega
  refine ⟨fun x hx => ?_, _, List.mem_cons_self, ρ, fun _ _ => rfl, ax_px hE rfl (fun x hx => ?_)⟩
  · cases List.mem_singleton.mp hx
    have h0 : ρ 0 = 4 * c := hc
    show 2147483648 ≤ rx_bi (ρ 0 / 4) ∧ rx_bi (ρ 0 / 4) ≤ 2147483668
    rw [h0, Nat.mul_div_cancel_left c (by decide), ax_bi_nat (by omega)]
    omega
  · cases List.mem_singleton.mp hx
    show ax_XF (ax_XM b) (500 + 0) [702, 224, ρ 0, 84] hp
    exact (ax_XF_wr (x := 0) (Nat.le_of_ble_eq_true rfl)).mpr (ax_huw hT.1 x0 f1 (by rw [← hd]; exact f2) hc (Or.inl rfl) (fun u hu => by show _ ≤ 21; replace hu : _ ≤ 20 := hu; omega))
theorem axq0_hrA : ax_RO ax_wM0 (ax_XM 0) axu0_hrA := axqg_hrA ax_WW0
theorem axqg_hk {w : ax_W} {b : Nat} (hw : ax_WW w) : ax_RO w (ax_XM b) axu0_hk := by
  intro ρ hp hE hT
  obtain ⟨k, m, l, f1, f2⟩ := ax_gF hE 702 224 3 173 56 (ρ 0) (by decide) (by rw [ax_vl_c (by decide)]) (by rw [ax_vl_c (by decide)]) rfl
  obtain ⟨d, hd, d1, d2, d3⟩ := ax_gi hE 0 2147483648 2147483668 (by decide) rfl
  obtain ⟨p1, p2⟩ := ax_bi_pos d1 d2
  have hl := ax_len hT (q := 173) (ax_wc hw ax_cg_173) (n := 58) (ax_wn hw ax_cn_11) f1
  refine ⟨(fun y hy => by cases hy), _, List.mem_cons_self, ρ, fun _ _ => rfl, ax_px hE rfl (fun y hy => ?_)⟩
  cases List.mem_singleton.mp hy
  show ax_XF (ax_XM b) (500 + 0) [702, 228, 0, 80] hp
  exact (ax_XF_wr (x := 0) (Nat.le_of_ble_eq_true rfl)).mpr (ax_hu0 hT.1 f1 (by rw [hl]; decide) (by rw [← hd]; exact f2) (by omega))
theorem axq0_hk : ax_RO ax_wM0 (ax_XM 0) axu0_hk := axqg_hk ax_WW0
theorem axqg_hzstartAnew {w : ax_W} {b : Nat} (hw : ax_WW w) : ax_RO w (ax_XM b) axu0_hzstartAnew := by
  intro ρ hp hE hT
  obtain ⟨k, m, l, f1, f2⟩ := ax_gF hE 702 224 0 173 56 0 (by decide) (by rw [ax_vl_c (by decide)]) (by rw [ax_vl_c (by decide)]) rfl
  have hl := ax_len hT (q := 173) (ax_wc hw ax_cg_173) (n := 58) (ax_wn hw ax_cn_11) f1
  refine ⟨(fun y hy => by cases hy), _, List.mem_cons_self, ρ, fun _ _ => rfl, ax_px hE rfl (fun y hy => ?_)⟩
  cases List.mem_singleton.mp hy
  show ax_XF (ax_XM b) (500 + 0) [702, 228, 0, 80] hp
  exact (ax_XF_wr (x := 0) (Nat.le_of_ble_eq_true rfl)).mpr (ax_hu0 (d := 0) hT.1 f1 (by rw [hl]; decide) f2 (by decide))
theorem axq0_hzstartAnew : ax_RO ax_wM0 (ax_XM 0) axu0_hzstartAnew := axqg_hzstartAnew ax_WW0
theorem axqg_hzback {w : ax_W} {b : Nat} (hw : ax_WW w) : ax_RO w (ax_XM b) axu0_hzback := by
  intro ρ hp hE hT
  obtain ⟨k, m, l, f1, f2⟩ := ax_gF hE 702 224 0 173 56 0 (by decide) (by rw [ax_vl_c (by decide)]) (by rw [ax_vl_c (by decide)]) rfl
  have hl := ax_len hT (q := 173) (ax_wc hw ax_cg_173) (n := 58) (ax_wn hw ax_cn_11) f1
  refine ⟨(fun y hy => by cases hy), _, List.mem_cons_self, ρ, fun _ _ => rfl, ax_px hE rfl (fun y hy => ?_)⟩
  cases List.mem_singleton.mp hy
  show ax_XF (ax_XM b) (500 + 0) [702, 228, 0, 80] hp
  exact (ax_XF_wr (x := 0) (Nat.le_of_ble_eq_true rfl)).mpr (ax_hu0 (d := 0) hT.1 f1 (by rw [hl]; decide) f2 (by decide))
theorem axq0_hzback : ax_RO ax_wM0 (ax_XM 0) axu0_hzback := axqg_hzback ax_WW0
theorem axq0_kgen : ax_RO ax_wM0 (ax_XM 0) axu0_kgen := by
  intro ρ hp hE hT
  obtain ⟨k, m, l, f1, f2⟩ := ax_gF hE 702 224 3 173 56 (ρ 0) (by decide) (by rw [ax_vl_c (by decide)]) (by rw [ax_vl_c (by decide)]) rfl
  have ht : ax_ok ax_wM0 (0, 2147483648, 2147483667) (ρ 0) := hE.2.1 0 _ (by decide) rfl
  obtain ⟨ρ', h1, h2⟩ := ax_pf (q := 173) (j := 56) hE (a := 702) (i := 224) (by decide) (by decide) (ax_vl_c (by decide)) (ax_vl_c (by decide)) f1 f2 ht
  exact ⟨(fun x hx => by cases hx), _, List.mem_cons_self, ρ', h1, h2⟩
theorem axqg_wSk0 {w : ax_W} {b : Nat} (hw : ax_WW w) : ax_RO w (ax_XM b) axu0_wSk0 := by
  intro ρ hp hE hT
  have x0 : ax_M1 202 hp := (ax_XF_lt (x := 1) (Nat.le_of_ble_eq_true rfl)).mp (ax_gx hE (1, []) ax_m0)
  obtain ⟨k, hk, k1, k2, k3⟩ := ax_gi hE 2 2147483648 2147483688 (by decide) rfl
  obtain ⟨k4, k5⟩ := ax_bi_pos k1 (by omega)
  obtain ⟨a, ha, a1, a2, a3⟩ := ax_gi hE 3 2147483648 2147483668 (by decide) rfl
  obtain ⟨a4, a5⟩ := ax_bi_pos a1 (by omega)
  have hi : ρ 1 = 4 * (103 * a + k) := ax_gi3 hE 15 19 11 7 (by decide) (by decide) ha (by omega) hk (by omega)
  refine ⟨(fun y hy => by cases hy), _, List.mem_cons_self, ρ, fun _ _ => rfl, ax_px hE rfl (fun y hy => ?_)⟩
  cases List.mem_singleton.mp hy
  show ax_XF (ax_XM b) (500 + 1) [818, ρ 1, ρ 0] hp
  refine (ax_XF_wr (x := 1) (Nat.le_of_ble_eq_true rfl)).mpr ?_
  show ax_M1 202 (ax_upd hp 818 (ρ 1) (ρ 0))
  refine ax_M1_set hT.1 x0 rfl ?_
  have e : ρ 1 / 4 % 103 = k := by omega
  rw [e]
  exact ax_sg_none (by omega)
theorem axq0_wSk0 : ax_RO ax_wM0 (ax_XM 0) axu0_wSk0 := axqg_wSk0 ax_WW0
theorem axqg_wSs0 {w : ax_W} {b : Nat} (hw : ax_WW w) : ax_RO w (ax_XM b) axu0_wSs0 := by
  intro ρ hp hE hT
  have x0 : ax_M1 202 hp := (ax_XF_lt (x := 1) (Nat.le_of_ble_eq_true rfl)).mp (ax_gx hE (1, []) ax_m0)
  obtain ⟨k, hk, k1, k2, k3⟩ := ax_gi hE 2 2147483648 2147483688 (by decide) rfl
  obtain ⟨k4, k5⟩ := ax_bi_pos k1 (by omega)
  obtain ⟨a, ha, a1, a2, a3⟩ := ax_gi hE 3 2147483648 2147483668 (by decide) rfl
  obtain ⟨a4, a5⟩ := ax_bi_pos a1 (by omega)
  have hi : ρ 1 = 4 * (103 * a + k) := ax_gi3 hE 15 19 11 7 (by decide) (by decide) ha (by omega) hk (by omega)
  refine ⟨(fun y hy => by cases hy), _, List.mem_cons_self, ρ, fun _ _ => rfl, ax_px hE rfl (fun y hy => ?_)⟩
  cases List.mem_singleton.mp hy
  show ax_XF (ax_XM b) (500 + 1) [818, ρ 1, ρ 0] hp
  refine (ax_XF_wr (x := 1) (Nat.le_of_ble_eq_true rfl)).mpr ?_
  show ax_M1 202 (ax_upd hp 818 (ρ 1) (ρ 0))
  refine ax_M1_set hT.1 x0 rfl ?_
  have e : ρ 1 / 4 % 103 = k := by omega
  rw [e]
  exact ax_sg_none (by omega)
theorem axq0_wSs0 : ax_RO ax_wM0 (ax_XM 0) axu0_wSs0 := axqg_wSs0 ax_WW0
theorem axqg_bS0 {w : ax_W} {b : Nat} (hw : ax_WW w) : ax_RO w (ax_XM b) axu0_bS0 := by
  intro ρ hp hE hT
  have x0 : ax_M1 203 hp := (ax_XF_lt (x := 2) (Nat.le_of_ble_eq_true rfl)).mp (ax_gx hE (2, []) ax_m0)
  obtain ⟨k, hk, k1, k2, k3⟩ := ax_gi hE 2 2147483648 2147483688 (by decide) rfl
  obtain ⟨k4, k5⟩ := ax_bi_pos k1 (by omega)
  obtain ⟨a, ha, a1, a2, a3⟩ := ax_gi hE 3 2147483648 2147483649 (by decide) rfl
  obtain ⟨a4, a5⟩ := ax_bi_pos a1 (by omega)
  have hi : ρ 1 = 4 * (103 * a + k) := ax_gi3 hE 15 19 11 7 (by decide) (by decide) ha (by omega) hk (by omega)
  refine ⟨(fun y hy => by cases hy), _, List.mem_cons_self, ρ, fun _ _ => rfl, ax_px hE rfl (fun y hy => ?_)⟩
  cases List.mem_singleton.mp hy
  show ax_XF (ax_XM b) (500 + 2) [822, ρ 1, ρ 0] hp
  refine (ax_XF_wr (x := 2) (Nat.le_of_ble_eq_true rfl)).mpr ?_
  show ax_M1 203 (ax_upd hp 822 (ρ 1) (ρ 0))
  refine ax_M1_set hT.1 x0 rfl ?_
  have e : ρ 1 / 4 % 103 = k := by omega
  rw [e]
  exact ax_sg_none (by omega)
theorem axq0_bS0 : ax_RO ax_wM0 (ax_XM 0) axu0_bS0 := axqg_bS0 ax_WW0
theorem axqg_wSk1 {w : ax_W} {b : Nat} (hw : ax_WW w) : ax_RO w (ax_XM b) axu0_wSk1 := by
  intro ρ hp hE hT
  have x0 : ax_M1 202 hp := (ax_XF_lt (x := 1) (Nat.le_of_ble_eq_true rfl)).mp (ax_gx hE (1, []) ax_m0)
  obtain ⟨k, hk, k1, k2, k3⟩ := ax_gi hE 2 2147483689 2147483700 (by decide) rfl
  obtain ⟨k4, k5⟩ := ax_bi_pos k1 (by omega)
  obtain ⟨a, ha, a1, a2, a3⟩ := ax_gi hE 3 2147483648 2147483668 (by decide) rfl
  obtain ⟨a4, a5⟩ := ax_bi_pos a1 (by omega)
  have hi : ρ 1 = 4 * (103 * a + k) := ax_gi3 hE 15 19 11 7 (by decide) (by decide) ha (by omega) hk (by omega)
  refine ⟨(fun y hy => by cases hy), _, List.mem_cons_self, ρ, fun _ _ => rfl, ax_px hE rfl (fun y hy => ?_)⟩
  cases List.mem_singleton.mp hy
  show ax_XF (ax_XM b) (500 + 1) [818, ρ 1, ρ 0] hp
  refine (ax_XF_wr (x := 1) (Nat.le_of_ble_eq_true rfl)).mpr ?_
  show ax_M1 202 (ax_upd hp 818 (ρ 1) (ρ 0))
  refine ax_M1_set hT.1 x0 rfl ?_
  have e : ρ 1 / 4 % 103 = k := by omega
  rw [e]
  have hx0 : ax_rng 2147483648 2147483649 (ρ 0) := by
    obtain ⟨z, hz, z1, z2, z3⟩ := ax_gi hE 0 2147483648 2147483649 (by decide) rfl
    unfold ax_rng
    rw [hz, Nat.mul_div_cancel_left z (by decide)]
    exact ⟨z2, z3⟩
  exact ⟨fun h1 h2 => hx0, fun h1 h2 => by omega, fun h1 h2 => by omega⟩
theorem axq0_wSk1 : ax_RO ax_wM0 (ax_XM 0) axu0_wSk1 := axqg_wSk1 ax_WW0
theorem axqg_wSs1 {w : ax_W} {b : Nat} (hw : ax_WW w) : ax_RO w (ax_XM b) axu0_wSs1 := by
  intro ρ hp hE hT
  have x0 : ax_M1 202 hp := (ax_XF_lt (x := 1) (Nat.le_of_ble_eq_true rfl)).mp (ax_gx hE (1, []) ax_m0)
  obtain ⟨k, hk, k1, k2, k3⟩ := ax_gi hE 2 2147483689 2147483700 (by decide) rfl
  obtain ⟨k4, k5⟩ := ax_bi_pos k1 (by omega)
  obtain ⟨a, ha, a1, a2, a3⟩ := ax_gi hE 3 2147483648 2147483668 (by decide) rfl
  obtain ⟨a4, a5⟩ := ax_bi_pos a1 (by omega)
  have hi : ρ 1 = 4 * (103 * a + k) := ax_gi3 hE 15 19 11 7 (by decide) (by decide) ha (by omega) hk (by omega)
  refine ⟨(fun y hy => by cases hy), _, List.mem_cons_self, ρ, fun _ _ => rfl, ax_px hE rfl (fun y hy => ?_)⟩
  cases List.mem_singleton.mp hy
  show ax_XF (ax_XM b) (500 + 1) [818, ρ 1, ρ 0] hp
  refine (ax_XF_wr (x := 1) (Nat.le_of_ble_eq_true rfl)).mpr ?_
  show ax_M1 202 (ax_upd hp 818 (ρ 1) (ρ 0))
  refine ax_M1_set hT.1 x0 rfl ?_
  have e : ρ 1 / 4 % 103 = k := by omega
  rw [e]
  have hx0 : ax_rng 2147483648 2147483649 (ρ 0) := by
    obtain ⟨z, hz, z1, z2, z3⟩ := ax_gi hE 0 2147483648 2147483649 (by decide) rfl
    unfold ax_rng
    rw [hz, Nat.mul_div_cancel_left z (by decide)]
    exact ⟨z2, z3⟩
  exact ⟨fun h1 h2 => hx0, fun h1 h2 => by omega, fun h1 h2 => by omega⟩
theorem axq0_wSs1 : ax_RO ax_wM0 (ax_XM 0) axu0_wSs1 := axqg_wSs1 ax_WW0
theorem axqg_bS1 {w : ax_W} {b : Nat} (hw : ax_WW w) : ax_RO w (ax_XM b) axu0_bS1 := by
  intro ρ hp hE hT
  have x0 : ax_M1 203 hp := (ax_XF_lt (x := 2) (Nat.le_of_ble_eq_true rfl)).mp (ax_gx hE (2, []) ax_m0)
  obtain ⟨k, hk, k1, k2, k3⟩ := ax_gi hE 2 2147483689 2147483700 (by decide) rfl
  obtain ⟨k4, k5⟩ := ax_bi_pos k1 (by omega)
  obtain ⟨a, ha, a1, a2, a3⟩ := ax_gi hE 3 2147483648 2147483649 (by decide) rfl
  obtain ⟨a4, a5⟩ := ax_bi_pos a1 (by omega)
  have hi : ρ 1 = 4 * (103 * a + k) := ax_gi3 hE 15 19 11 7 (by decide) (by decide) ha (by omega) hk (by omega)
  refine ⟨(fun y hy => by cases hy), _, List.mem_cons_self, ρ, fun _ _ => rfl, ax_px hE rfl (fun y hy => ?_)⟩
  cases List.mem_singleton.mp hy
  show ax_XF (ax_XM b) (500 + 2) [822, ρ 1, ρ 0] hp
  refine (ax_XF_wr (x := 2) (Nat.le_of_ble_eq_true rfl)).mpr ?_
  show ax_M1 203 (ax_upd hp 822 (ρ 1) (ρ 0))
  refine ax_M1_set hT.1 x0 rfl ?_
  have e : ρ 1 / 4 % 103 = k := by omega
  rw [e]
  have hx0 : ax_rng 2147483648 2147483649 (ρ 0) := by
    obtain ⟨z, hz, z1, z2, z3⟩ := ax_gi hE 0 2147483648 2147483649 (by decide) rfl
    unfold ax_rng
    rw [hz, Nat.mul_div_cancel_left z (by decide)]
    exact ⟨z2, z3⟩
  exact ⟨fun h1 h2 => hx0, fun h1 h2 => by omega, fun h1 h2 => by omega⟩
theorem axq0_bS1 : ax_RO ax_wM0 (ax_XM 0) axu0_bS1 := axqg_bS1 ax_WW0
theorem axq0_wR1 : ax_RO ax_wM0 (ax_XM 0) axu0_wR1 := by
  intro ρ hp hE hT
  obtain ⟨kk, m, f, e1, e2⟩ : ax_M1 202 hp := (ax_XF_lt (x := 1) (Nat.le_of_ble_eq_true rfl)).mp (ax_gx hE (1, []) ax_m0)
  obtain ⟨k, hk, k1, k2, k3⟩ := ax_gi hE 1 2147483689 2147483700 (by decide) rfl
  obtain ⟨k4, k5⟩ := ax_bi_pos k1 (by omega)
  obtain ⟨a, ha, a1, a2, a3⟩ := ax_gi hE 2 2147483648 2147483668 (by decide) rfl
  obtain ⟨a4, a5⟩ := ax_bi_pos a1 (by omega)
  have hi : ρ 0 = 4 * (103 * a + k) := ax_gi3 hE 11 15 7 3 (by decide) (by decide) ha (by omega) hk (by omega)
  have hl := ax_len hT (q := 202) ax_cg_202 (n := 2163) ax_cn_72 e1
  obtain ⟨v, hv⟩ := ax_get_some (f := f) (i := 103 * a + k) (by omega)
  have h3 := e2 _ _ hv
  rw [show (103 * a + k) % 103 = k by omega] at h3
  obtain ⟨v1, v2, -, -⟩ := ax_cellI hT (q := 202) (g := 72) (n := 2163) ax_cg_202 rfl e1 hv
  obtain ⟨h4, h5⟩ := h3.1 (by omega) (by omega)
  obtain ⟨ρ', h1, h2⟩ := ax_pf (q := 202) (j := 103 * a + k) (t := (0, 2147483648, 2147483649)) hE (a := 818) (i := 3) (by decide) (by decide) (ax_vl_c (by decide)) hi e1 hv (Or.inl ⟨rfl, v1, v2, h4, h5⟩)
  exact ⟨(fun x hx => by cases hx), _, List.mem_cons_self, ρ', h1, h2⟩
theorem axq0_bR1 : ax_RO ax_wM0 (ax_XM 0) axu0_bR1 := by
  intro ρ hp hE hT
  obtain ⟨kk, m, f, e1, e2⟩ : ax_M1 203 hp := (ax_XF_lt (x := 2) (Nat.le_of_ble_eq_true rfl)).mp (ax_gx hE (2, []) ax_m0)
  obtain ⟨k, hk, k1, k2, k3⟩ := ax_gi hE 1 2147483689 2147483700 (by decide) rfl
  obtain ⟨k4, k5⟩ := ax_bi_pos k1 (by omega)
  obtain ⟨a, ha, a1, a2, a3⟩ := ax_gi hE 2 2147483648 2147483649 (by decide) rfl
  obtain ⟨a4, a5⟩ := ax_bi_pos a1 (by omega)
  have hi : ρ 0 = 4 * (103 * a + k) := ax_gi3 hE 11 15 7 3 (by decide) (by decide) ha (by omega) hk (by omega)
  have hl := ax_len hT (q := 203) ax_cg_203 (n := 206) ax_cn_73 e1
  obtain ⟨v, hv⟩ := ax_get_some (f := f) (i := 103 * a + k) (by omega)
  have h3 := e2 _ _ hv
  rw [show (103 * a + k) % 103 = k by omega] at h3
  obtain ⟨v1, v2, -, -⟩ := ax_cellI hT (q := 203) (g := 73) (n := 206) ax_cg_203 rfl e1 hv
  obtain ⟨h4, h5⟩ := h3.1 (by omega) (by omega)
  obtain ⟨ρ', h1, h2⟩ := ax_pf (q := 203) (j := 103 * a + k) (t := (0, 2147483648, 2147483649)) hE (a := 822) (i := 3) (by decide) (by decide) (ax_vl_c (by decide)) hi e1 hv (Or.inl ⟨rfl, v1, v2, h4, h5⟩)
  exact ⟨(fun x hx => by cases hx), _, List.mem_cons_self, ρ', h1, h2⟩
theorem axqg_wSk2 {w : ax_W} {b : Nat} (hw : ax_WW w) : ax_RO w (ax_XM b) axu0_wSk2 := by
  intro ρ hp hE hT
  have x0 : ax_M1 202 hp := (ax_XF_lt (x := 1) (Nat.le_of_ble_eq_true rfl)).mp (ax_gx hE (1, []) ax_m0)
  obtain ⟨k, hk, k1, k2, k3⟩ := ax_gi hE 2 2147483701 2147483724 (by decide) rfl
  obtain ⟨k4, k5⟩ := ax_bi_pos k1 (by omega)
  obtain ⟨a, ha, a1, a2, a3⟩ := ax_gi hE 3 2147483648 2147483668 (by decide) rfl
  obtain ⟨a4, a5⟩ := ax_bi_pos a1 (by omega)
  have hi : ρ 1 = 4 * (103 * a + k) := ax_gi3 hE 15 19 11 7 (by decide) (by decide) ha (by omega) hk (by omega)
  refine ⟨(fun y hy => by cases hy), _, List.mem_cons_self, ρ, fun _ _ => rfl, ax_px hE rfl (fun y hy => ?_)⟩
  cases List.mem_singleton.mp hy
  show ax_XF (ax_XM b) (500 + 1) [818, ρ 1, ρ 0] hp
  refine (ax_XF_wr (x := 1) (Nat.le_of_ble_eq_true rfl)).mpr ?_
  show ax_M1 202 (ax_upd hp 818 (ρ 1) (ρ 0))
  refine ax_M1_set hT.1 x0 rfl ?_
  have e : ρ 1 / 4 % 103 = k := by omega
  rw [e]
  have hx0 : ax_rng 2147483648 2147483657 (ρ 0) := by
    obtain ⟨z, hz, z1, z2, z3⟩ := ax_gi hE 0 2147483648 2147483657 (by decide) rfl
    unfold ax_rng
    rw [hz, Nat.mul_div_cancel_left z (by decide)]
    exact ⟨z2, z3⟩
  exact ⟨fun h1 h2 => by omega, fun h1 h2 => hx0, fun h1 h2 => by omega⟩
theorem axq0_wSk2 : ax_RO ax_wM0 (ax_XM 0) axu0_wSk2 := axqg_wSk2 ax_WW0
theorem axqg_wSs2 {w : ax_W} {b : Nat} (hw : ax_WW w) : ax_RO w (ax_XM b) axu0_wSs2 := by
  intro ρ hp hE hT
  have x0 : ax_M1 202 hp := (ax_XF_lt (x := 1) (Nat.le_of_ble_eq_true rfl)).mp (ax_gx hE (1, []) ax_m0)
  obtain ⟨k, hk, k1, k2, k3⟩ := ax_gi hE 2 2147483701 2147483724 (by decide) rfl
  obtain ⟨k4, k5⟩ := ax_bi_pos k1 (by omega)
  obtain ⟨a, ha, a1, a2, a3⟩ := ax_gi hE 3 2147483648 2147483668 (by decide) rfl
  obtain ⟨a4, a5⟩ := ax_bi_pos a1 (by omega)
  have hi : ρ 1 = 4 * (103 * a + k) := ax_gi3 hE 15 19 11 7 (by decide) (by decide) ha (by omega) hk (by omega)
  refine ⟨(fun y hy => by cases hy), _, List.mem_cons_self, ρ, fun _ _ => rfl, ax_px hE rfl (fun y hy => ?_)⟩
  cases List.mem_singleton.mp hy
  show ax_XF (ax_XM b) (500 + 1) [818, ρ 1, ρ 0] hp
  refine (ax_XF_wr (x := 1) (Nat.le_of_ble_eq_true rfl)).mpr ?_
  show ax_M1 202 (ax_upd hp 818 (ρ 1) (ρ 0))
  refine ax_M1_set hT.1 x0 rfl ?_
  have e : ρ 1 / 4 % 103 = k := by omega
  rw [e]
  have hx0 : ax_rng 2147483648 2147483657 (ρ 0) := by
    obtain ⟨z, hz, z1, z2, z3⟩ := ax_gi hE 0 2147483648 2147483657 (by decide) rfl
    unfold ax_rng
    rw [hz, Nat.mul_div_cancel_left z (by decide)]
    exact ⟨z2, z3⟩
  exact ⟨fun h1 h2 => by omega, fun h1 h2 => hx0, fun h1 h2 => by omega⟩
theorem axq0_wSs2 : ax_RO ax_wM0 (ax_XM 0) axu0_wSs2 := axqg_wSs2 ax_WW0
theorem axqg_bS2 {w : ax_W} {b : Nat} (hw : ax_WW w) : ax_RO w (ax_XM b) axu0_bS2 := by
  intro ρ hp hE hT
  have x0 : ax_M1 203 hp := (ax_XF_lt (x := 2) (Nat.le_of_ble_eq_true rfl)).mp (ax_gx hE (2, []) ax_m0)
  obtain ⟨k, hk, k1, k2, k3⟩ := ax_gi hE 2 2147483701 2147483724 (by decide) rfl
  obtain ⟨k4, k5⟩ := ax_bi_pos k1 (by omega)
  obtain ⟨a, ha, a1, a2, a3⟩ := ax_gi hE 3 2147483648 2147483649 (by decide) rfl
  obtain ⟨a4, a5⟩ := ax_bi_pos a1 (by omega)
  have hi : ρ 1 = 4 * (103 * a + k) := ax_gi3 hE 15 19 11 7 (by decide) (by decide) ha (by omega) hk (by omega)
  refine ⟨(fun y hy => by cases hy), _, List.mem_cons_self, ρ, fun _ _ => rfl, ax_px hE rfl (fun y hy => ?_)⟩
  cases List.mem_singleton.mp hy
  show ax_XF (ax_XM b) (500 + 2) [822, ρ 1, ρ 0] hp
  refine (ax_XF_wr (x := 2) (Nat.le_of_ble_eq_true rfl)).mpr ?_
  show ax_M1 203 (ax_upd hp 822 (ρ 1) (ρ 0))
  refine ax_M1_set hT.1 x0 rfl ?_
  have e : ρ 1 / 4 % 103 = k := by omega
  rw [e]
  have hx0 : ax_rng 2147483648 2147483657 (ρ 0) := by
    obtain ⟨z, hz, z1, z2, z3⟩ := ax_gi hE 0 2147483648 2147483657 (by decide) rfl
    unfold ax_rng
    rw [hz, Nat.mul_div_cancel_left z (by decide)]
    exact ⟨z2, z3⟩
  exact ⟨fun h1 h2 => by omega, fun h1 h2 => hx0, fun h1 h2 => by omega⟩
theorem axq0_bS2 : ax_RO ax_wM0 (ax_XM 0) axu0_bS2 := axqg_bS2 ax_WW0
theorem axq0_wR2 : ax_RO ax_wM0 (ax_XM 0) axu0_wR2 := by
  intro ρ hp hE hT
  obtain ⟨kk, m, f, e1, e2⟩ : ax_M1 202 hp := (ax_XF_lt (x := 1) (Nat.le_of_ble_eq_true rfl)).mp (ax_gx hE (1, []) ax_m0)
  obtain ⟨k, hk, k1, k2, k3⟩ := ax_gi hE 1 2147483701 2147483724 (by decide) rfl
  obtain ⟨k4, k5⟩ := ax_bi_pos k1 (by omega)
  obtain ⟨a, ha, a1, a2, a3⟩ := ax_gi hE 2 2147483648 2147483668 (by decide) rfl
  obtain ⟨a4, a5⟩ := ax_bi_pos a1 (by omega)
  have hi : ρ 0 = 4 * (103 * a + k) := ax_gi3 hE 11 15 7 3 (by decide) (by decide) ha (by omega) hk (by omega)
  have hl := ax_len hT (q := 202) ax_cg_202 (n := 2163) ax_cn_72 e1
  obtain ⟨v, hv⟩ := ax_get_some (f := f) (i := 103 * a + k) (by omega)
  have h3 := e2 _ _ hv
  rw [show (103 * a + k) % 103 = k by omega] at h3
  obtain ⟨v1, v2, -, -⟩ := ax_cellI hT (q := 202) (g := 72) (n := 2163) ax_cg_202 rfl e1 hv
  obtain ⟨h4, h5⟩ := h3.2.1 (by omega) (by omega)
  obtain ⟨ρ', h1, h2⟩ := ax_pf (q := 202) (j := 103 * a + k) (t := (0, 2147483648, 2147483657)) hE (a := 818) (i := 3) (by decide) (by decide) (ax_vl_c (by decide)) hi e1 hv (Or.inl ⟨rfl, v1, v2, h4, h5⟩)
  exact ⟨(fun x hx => by cases hx), _, List.mem_cons_self, ρ', h1, h2⟩
theorem axq0_bR2 : ax_RO ax_wM0 (ax_XM 0) axu0_bR2 := by
  intro ρ hp hE hT
  obtain ⟨kk, m, f, e1, e2⟩ : ax_M1 203 hp := (ax_XF_lt (x := 2) (Nat.le_of_ble_eq_true rfl)).mp (ax_gx hE (2, []) ax_m0)
  obtain ⟨k, hk, k1, k2, k3⟩ := ax_gi hE 1 2147483701 2147483724 (by decide) rfl
  obtain ⟨k4, k5⟩ := ax_bi_pos k1 (by omega)
  obtain ⟨a, ha, a1, a2, a3⟩ := ax_gi hE 2 2147483648 2147483649 (by decide) rfl
  obtain ⟨a4, a5⟩ := ax_bi_pos a1 (by omega)
  have hi : ρ 0 = 4 * (103 * a + k) := ax_gi3 hE 11 15 7 3 (by decide) (by decide) ha (by omega) hk (by omega)
  have hl := ax_len hT (q := 203) ax_cg_203 (n := 206) ax_cn_73 e1
  obtain ⟨v, hv⟩ := ax_get_some (f := f) (i := 103 * a + k) (by omega)
  have h3 := e2 _ _ hv
  rw [show (103 * a + k) % 103 = k by omega] at h3
  obtain ⟨v1, v2, -, -⟩ := ax_cellI hT (q := 203) (g := 73) (n := 206) ax_cg_203 rfl e1 hv
  obtain ⟨h4, h5⟩ := h3.2.1 (by omega) (by omega)
  obtain ⟨ρ', h1, h2⟩ := ax_pf (q := 203) (j := 103 * a + k) (t := (0, 2147483648, 2147483657)) hE (a := 822) (i := 3) (by decide) (by decide) (ax_vl_c (by decide)) hi e1 hv (Or.inl ⟨rfl, v1, v2, h4, h5⟩)
  exact ⟨(fun x hx => by cases hx), _, List.mem_cons_self, ρ', h1, h2⟩
theorem axqg_wSk3 {w : ax_W} {b : Nat} (hw : ax_WW w) : ax_RO w (ax_XM b) axu0_wSk3 := by
  intro ρ hp hE hT
  have x0 : ax_M1 202 hp := (ax_XF_lt (x := 1) (Nat.le_of_ble_eq_true rfl)).mp (ax_gx hE (1, []) ax_m0)
  obtain ⟨k, hk, k1, k2, k3⟩ := ax_gi hE 2 2147483725 2147483736 (by decide) rfl
  obtain ⟨k4, k5⟩ := ax_bi_pos k1 (by omega)
  obtain ⟨a, ha, a1, a2, a3⟩ := ax_gi hE 3 2147483648 2147483668 (by decide) rfl
  obtain ⟨a4, a5⟩ := ax_bi_pos a1 (by omega)
  have hi : ρ 1 = 4 * (103 * a + k) := ax_gi3 hE 15 19 11 7 (by decide) (by decide) ha (by omega) hk (by omega)
  refine ⟨(fun y hy => by cases hy), _, List.mem_cons_self, ρ, fun _ _ => rfl, ax_px hE rfl (fun y hy => ?_)⟩
  cases List.mem_singleton.mp hy
  show ax_XF (ax_XM b) (500 + 1) [818, ρ 1, ρ 0] hp
  refine (ax_XF_wr (x := 1) (Nat.le_of_ble_eq_true rfl)).mpr ?_
  show ax_M1 202 (ax_upd hp 818 (ρ 1) (ρ 0))
  refine ax_M1_set hT.1 x0 rfl ?_
  have e : ρ 1 / 4 % 103 = k := by omega
  rw [e]
  have hx0 : ax_rng 2147483647 2147483687 (ρ 0) := by
    obtain ⟨z, hz, z1, z2, z3⟩ := ax_gi hE 0 2147483647 2147483687 (by decide) rfl
    unfold ax_rng
    rw [hz, Nat.mul_div_cancel_left z (by decide)]
    exact ⟨z2, z3⟩
  exact ⟨fun h1 h2 => by omega, fun h1 h2 => by omega, fun h1 h2 => hx0⟩
theorem axq0_wSk3 : ax_RO ax_wM0 (ax_XM 0) axu0_wSk3 := axqg_wSk3 ax_WW0
theorem axqg_wSs3 {w : ax_W} {b : Nat} (hw : ax_WW w) : ax_RO w (ax_XM b) axu0_wSs3 := by
  intro ρ hp hE hT
  have x0 : ax_M1 202 hp := (ax_XF_lt (x := 1) (Nat.le_of_ble_eq_true rfl)).mp (ax_gx hE (1, []) ax_m0)
  obtain ⟨k, hk, k1, k2, k3⟩ := ax_gi hE 2 2147483725 2147483736 (by decide) rfl
  obtain ⟨k4, k5⟩ := ax_bi_pos k1 (by omega)
  obtain ⟨a, ha, a1, a2, a3⟩ := ax_gi hE 3 2147483648 2147483668 (by decide) rfl
  obtain ⟨a4, a5⟩ := ax_bi_pos a1 (by omega)
  have hi : ρ 1 = 4 * (103 * a + k) := ax_gi3 hE 15 19 11 7 (by decide) (by decide) ha (by omega) hk (by omega)
  refine ⟨(fun y hy => by cases hy), _, List.mem_cons_self, ρ, fun _ _ => rfl, ax_px hE rfl (fun y hy => ?_)⟩
  cases List.mem_singleton.mp hy
  show ax_XF (ax_XM b) (500 + 1) [818, ρ 1, ρ 0] hp
  refine (ax_XF_wr (x := 1) (Nat.le_of_ble_eq_true rfl)).mpr ?_
  show ax_M1 202 (ax_upd hp 818 (ρ 1) (ρ 0))
  refine ax_M1_set hT.1 x0 rfl ?_
  have e : ρ 1 / 4 % 103 = k := by omega
  rw [e]
  have hx0 : ax_rng 2147483647 2147483687 (ρ 0) := by
    obtain ⟨z, hz, z1, z2, z3⟩ := ax_gi hE 0 2147483647 2147483687 (by decide) rfl
    unfold ax_rng
    rw [hz, Nat.mul_div_cancel_left z (by decide)]
    exact ⟨z2, z3⟩
  exact ⟨fun h1 h2 => by omega, fun h1 h2 => by omega, fun h1 h2 => hx0⟩
theorem axq0_wSs3 : ax_RO ax_wM0 (ax_XM 0) axu0_wSs3 := axqg_wSs3 ax_WW0
theorem axqg_bS3 {w : ax_W} {b : Nat} (hw : ax_WW w) : ax_RO w (ax_XM b) axu0_bS3 := by
  intro ρ hp hE hT
  have x0 : ax_M1 203 hp := (ax_XF_lt (x := 2) (Nat.le_of_ble_eq_true rfl)).mp (ax_gx hE (2, []) ax_m0)
  obtain ⟨k, hk, k1, k2, k3⟩ := ax_gi hE 2 2147483725 2147483736 (by decide) rfl
  obtain ⟨k4, k5⟩ := ax_bi_pos k1 (by omega)
  obtain ⟨a, ha, a1, a2, a3⟩ := ax_gi hE 3 2147483648 2147483649 (by decide) rfl
  obtain ⟨a4, a5⟩ := ax_bi_pos a1 (by omega)
  have hi : ρ 1 = 4 * (103 * a + k) := ax_gi3 hE 15 19 11 7 (by decide) (by decide) ha (by omega) hk (by omega)
  refine ⟨(fun y hy => by cases hy), _, List.mem_cons_self, ρ, fun _ _ => rfl, ax_px hE rfl (fun y hy => ?_)⟩
  cases List.mem_singleton.mp hy
  show ax_XF (ax_XM b) (500 + 2) [822, ρ 1, ρ 0] hp
  refine (ax_XF_wr (x := 2) (Nat.le_of_ble_eq_true rfl)).mpr ?_
  show ax_M1 203 (ax_upd hp 822 (ρ 1) (ρ 0))
  refine ax_M1_set hT.1 x0 rfl ?_
  have e : ρ 1 / 4 % 103 = k := by omega
  rw [e]
  have hx0 : ax_rng 2147483647 2147483687 (ρ 0) := by
    obtain ⟨z, hz, z1, z2, z3⟩ := ax_gi hE 0 2147483647 2147483687 (by decide) rfl
    unfold ax_rng
    rw [hz, Nat.mul_div_cancel_left z (by decide)]
    exact ⟨z2, z3⟩
  exact ⟨fun h1 h2 => by omega, fun h1 h2 => by omega, fun h1 h2 => hx0⟩
theorem axq0_bS3 : ax_RO ax_wM0 (ax_XM 0) axu0_bS3 := axqg_bS3 ax_WW0
theorem axq0_wR3 : ax_RO ax_wM0 (ax_XM 0) axu0_wR3 := by
  intro ρ hp hE hT
  obtain ⟨kk, m, f, e1, e2⟩ : ax_M1 202 hp := (ax_XF_lt (x := 1) (Nat.le_of_ble_eq_true rfl)).mp (ax_gx hE (1, []) ax_m0)
  obtain ⟨k, hk, k1, k2, k3⟩ := ax_gi hE 1 2147483725 2147483736 (by decide) rfl
  obtain ⟨k4, k5⟩ := ax_bi_pos k1 (by omega)
  obtain ⟨a, ha, a1, a2, a3⟩ := ax_gi hE 2 2147483648 2147483668 (by decide) rfl
  obtain ⟨a4, a5⟩ := ax_bi_pos a1 (by omega)
  have hi : ρ 0 = 4 * (103 * a + k) := ax_gi3 hE 11 15 7 3 (by decide) (by decide) ha (by omega) hk (by omega)
  have hl := ax_len hT (q := 202) ax_cg_202 (n := 2163) ax_cn_72 e1
  obtain ⟨v, hv⟩ := ax_get_some (f := f) (i := 103 * a + k) (by omega)
  have h3 := e2 _ _ hv
  rw [show (103 * a + k) % 103 = k by omega] at h3
  obtain ⟨v1, v2, -, -⟩ := ax_cellI hT (q := 202) (g := 72) (n := 2163) ax_cg_202 rfl e1 hv
  obtain ⟨h4, h5⟩ := h3.2.2 (by omega) (by omega)
  obtain ⟨ρ', h1, h2⟩ := ax_pf (q := 202) (j := 103 * a + k) (t := (0, 2147483647, 2147483687)) hE (a := 818) (i := 3) (by decide) (by decide) (ax_vl_c (by decide)) hi e1 hv (Or.inl ⟨rfl, v1, v2, h4, h5⟩)
  exact ⟨(fun x hx => by cases hx), _, List.mem_cons_self, ρ', h1, h2⟩
theorem axq0_bR3 : ax_RO ax_wM0 (ax_XM 0) axu0_bR3 := by
  intro ρ hp hE hT
  obtain ⟨kk, m, f, e1, e2⟩ : ax_M1 203 hp := (ax_XF_lt (x := 2) (Nat.le_of_ble_eq_true rfl)).mp (ax_gx hE (2, []) ax_m0)
  obtain ⟨k, hk, k1, k2, k3⟩ := ax_gi hE 1 2147483725 2147483736 (by decide) rfl
  obtain ⟨k4, k5⟩ := ax_bi_pos k1 (by omega)
  obtain ⟨a, ha, a1, a2, a3⟩ := ax_gi hE 2 2147483648 2147483649 (by decide) rfl
  obtain ⟨a4, a5⟩ := ax_bi_pos a1 (by omega)
  have hi : ρ 0 = 4 * (103 * a + k) := ax_gi3 hE 11 15 7 3 (by decide) (by decide) ha (by omega) hk (by omega)
  have hl := ax_len hT (q := 203) ax_cg_203 (n := 206) ax_cn_73 e1
  obtain ⟨v, hv⟩ := ax_get_some (f := f) (i := 103 * a + k) (by omega)
  have h3 := e2 _ _ hv
  rw [show (103 * a + k) % 103 = k by omega] at h3
  obtain ⟨v1, v2, -, -⟩ := ax_cellI hT (q := 203) (g := 73) (n := 206) ax_cg_203 rfl e1 hv
  obtain ⟨h4, h5⟩ := h3.2.2 (by omega) (by omega)
  obtain ⟨ρ', h1, h2⟩ := ax_pf (q := 203) (j := 103 * a + k) (t := (0, 2147483647, 2147483687)) hE (a := 822) (i := 3) (by decide) (by decide) (ax_vl_c (by decide)) hi e1 hv (Or.inl ⟨rfl, v1, v2, h4, h5⟩)
  exact ⟨(fun x hx => by cases hx), _, List.mem_cons_self, ρ', h1, h2⟩
theorem axqg_wSk4 {w : ax_W} {b : Nat} (hw : ax_WW w) : ax_RO w (ax_XM b) axu0_wSk4 := by
  intro ρ hp hE hT
  have x0 : ax_M1 202 hp := (ax_XF_lt (x := 1) (Nat.le_of_ble_eq_true rfl)).mp (ax_gx hE (1, []) ax_m0)
  obtain ⟨k, hk, k1, k2, k3⟩ := ax_gi hE 2 2147483737 2147483750 (by decide) rfl
  obtain ⟨k4, k5⟩ := ax_bi_pos k1 (by omega)
  obtain ⟨a, ha, a1, a2, a3⟩ := ax_gi hE 3 2147483648 2147483668 (by decide) rfl
  obtain ⟨a4, a5⟩ := ax_bi_pos a1 (by omega)
  have hi : ρ 1 = 4 * (103 * a + k) := ax_gi3 hE 15 19 11 7 (by decide) (by decide) ha (by omega) hk (by omega)
  refine ⟨(fun y hy => by cases hy), _, List.mem_cons_self, ρ, fun _ _ => rfl, ax_px hE rfl (fun y hy => ?_)⟩
  cases List.mem_singleton.mp hy
  show ax_XF (ax_XM b) (500 + 1) [818, ρ 1, ρ 0] hp
  refine (ax_XF_wr (x := 1) (Nat.le_of_ble_eq_true rfl)).mpr ?_
  show ax_M1 202 (ax_upd hp 818 (ρ 1) (ρ 0))
  refine ax_M1_set hT.1 x0 rfl ?_
  have e : ρ 1 / 4 % 103 = k := by omega
  rw [e]
  exact ax_sg_none (by omega)
theorem axq0_wSk4 : ax_RO ax_wM0 (ax_XM 0) axu0_wSk4 := axqg_wSk4 ax_WW0
theorem axqg_wSs4 {w : ax_W} {b : Nat} (hw : ax_WW w) : ax_RO w (ax_XM b) axu0_wSs4 := by
  intro ρ hp hE hT
  have x0 : ax_M1 202 hp := (ax_XF_lt (x := 1) (Nat.le_of_ble_eq_true rfl)).mp (ax_gx hE (1, []) ax_m0)
  obtain ⟨k, hk, k1, k2, k3⟩ := ax_gi hE 2 2147483737 2147483750 (by decide) rfl
  obtain ⟨k4, k5⟩ := ax_bi_pos k1 (by omega)
  obtain ⟨a, ha, a1, a2, a3⟩ := ax_gi hE 3 2147483648 2147483668 (by decide) rfl
  obtain ⟨a4, a5⟩ := ax_bi_pos a1 (by omega)
  have hi : ρ 1 = 4 * (103 * a + k) := ax_gi3 hE 15 19 11 7 (by decide) (by decide) ha (by omega) hk (by omega)
  refine ⟨(fun y hy => by cases hy), _, List.mem_cons_self, ρ, fun _ _ => rfl, ax_px hE rfl (fun y hy => ?_)⟩
  cases List.mem_singleton.mp hy
  show ax_XF (ax_XM b) (500 + 1) [818, ρ 1, ρ 0] hp
  refine (ax_XF_wr (x := 1) (Nat.le_of_ble_eq_true rfl)).mpr ?_
  show ax_M1 202 (ax_upd hp 818 (ρ 1) (ρ 0))
  refine ax_M1_set hT.1 x0 rfl ?_
  have e : ρ 1 / 4 % 103 = k := by omega
  rw [e]
  exact ax_sg_none (by omega)
theorem axq0_wSs4 : ax_RO ax_wM0 (ax_XM 0) axu0_wSs4 := axqg_wSs4 ax_WW0
theorem axqg_bS4 {w : ax_W} {b : Nat} (hw : ax_WW w) : ax_RO w (ax_XM b) axu0_bS4 := by
  intro ρ hp hE hT
  have x0 : ax_M1 203 hp := (ax_XF_lt (x := 2) (Nat.le_of_ble_eq_true rfl)).mp (ax_gx hE (2, []) ax_m0)
  obtain ⟨k, hk, k1, k2, k3⟩ := ax_gi hE 2 2147483737 2147483750 (by decide) rfl
  obtain ⟨k4, k5⟩ := ax_bi_pos k1 (by omega)
  obtain ⟨a, ha, a1, a2, a3⟩ := ax_gi hE 3 2147483648 2147483649 (by decide) rfl
  obtain ⟨a4, a5⟩ := ax_bi_pos a1 (by omega)
  have hi : ρ 1 = 4 * (103 * a + k) := ax_gi3 hE 15 19 11 7 (by decide) (by decide) ha (by omega) hk (by omega)
  refine ⟨(fun y hy => by cases hy), _, List.mem_cons_self, ρ, fun _ _ => rfl, ax_px hE rfl (fun y hy => ?_)⟩
  cases List.mem_singleton.mp hy
  show ax_XF (ax_XM b) (500 + 2) [822, ρ 1, ρ 0] hp
  refine (ax_XF_wr (x := 2) (Nat.le_of_ble_eq_true rfl)).mpr ?_
  show ax_M1 203 (ax_upd hp 822 (ρ 1) (ρ 0))
  refine ax_M1_set hT.1 x0 rfl ?_
  have e : ρ 1 / 4 % 103 = k := by omega
  rw [e]
  exact ax_sg_none (by omega)
theorem axq0_bS4 : ax_RO ax_wM0 (ax_XM 0) axu0_bS4 := axqg_bS4 ax_WW0
theorem axqg_wM {w : ax_W} {b : Nat} (hw : ax_WW w) : ax_RO w (ax_XM b) axu0_wM := by
  intro ρ hp hE hT
  have x0 : ax_M1 202 hp := (ax_XF_lt (x := 1) (Nat.le_of_ble_eq_true rfl)).mp (ax_gx hE (1, []) ax_m0)
  obtain ⟨kk, m, f, e1, e2⟩ := x0
  obtain ⟨a, b, c, ha, hb, hc, la, lb, lc, hs⟩ := ax_gs hE 7 412 11 (by decide)
  have ha' : ρ 1 = 4 * a := ha
  have hc' : ρ 2 = 4 * c := hc
  obtain ⟨k, hk, k1, k2, k3⟩ := ax_gi hE 1 2147483648 2147485707 (by decide) rfl
  obtain ⟨k4, k5⟩ := ax_bi_pos k1 (by omega)
  have hka : k = a := by omega
  subst hka
  have hb' : b = 103 := by have : (412 : Nat) = 4 * b := hb; omega
  subst hb'
  have hck := ax_sum3 la (by decide) lc k4 hs
  obtain ⟨k', m', l', f1, f2⟩ := ax_gF hE 818 11 3 202 (ρ 2 / 4) (ρ 0) (by decide) (by rw [ax_vl_c (by decide)]) rfl rfl
  rw [e1] at f1
  cases f1
  have h3 := e2 _ _ f2
  rw [show ρ 2 / 4 % 103 = ρ 1 / 4 % 103 by omega] at h3
  refine ⟨(fun y hy => by cases hy), _, List.mem_cons_self, ρ, fun _ _ => rfl, ax_px hE rfl (fun y hy => ?_)⟩
  cases List.mem_singleton.mp hy
  show ax_XF (ax_XM b) (500 + 1) [818, ρ 1, ρ 0] hp
  refine (ax_XF_wr (x := 1) (Nat.le_of_ble_eq_true rfl)).mpr ?_
  show ax_M1 202 (ax_upd hp 818 (ρ 1) (ρ 0))
  exact ax_M1_set hT.1 ⟨_, _, _, e1, e2⟩ rfl h3
theorem axq0_wM : ax_RO ax_wM0 (ax_XM 0) axu0_wM := axqg_wM ax_WW0
theorem axqg_fp0 {w : ax_W} {b : Nat} (hw : ax_WW w) : ax_RO w (ax_XM b) axu0_fp0 := by
  intro ρ hp hE hT
  obtain ⟨k, m, l, e1⟩ := ax_cellT hT (q := 174) (g := 44) (ax_wc hw ax_cg_174)
  refine ⟨(fun y hy => by cases hy), _, List.mem_cons_self, ρ, fun _ _ => rfl, ax_px hE rfl (fun y hy => ?_)⟩
  cases List.mem_singleton.mp hy
  refine (ax_XF_lt (x := 4) (Nat.le_of_ble_eq_true rfl)).mpr ⟨k, m, l, e1, fun q _ h => ?_⟩
  rw [show ax_vl ρ 0 = 0 from rfl] at h
  omega
theorem axq0_fp0 : ax_RO ax_wM0 (ax_XM 0) axu0_fp0 := axqg_fp0 ax_WW0
theorem axqg_fpN {w : ax_W} {b : Nat} (hw : ax_WW w) : ax_RO w (ax_XM b) axu0_fpN := by
  intro ρ hp hE hT
  obtain ⟨kk, m, f, e1, e2⟩ : ax_M4 (ρ 0) hp := (ax_XF_lt (x := 4) (Nat.le_of_ble_eq_true rfl)).mp (ax_gx hE (4, [3]) ax_m0)
  obtain ⟨p, hp, p1, p2, p3⟩ := ax_gi hE 0 2147483648 2147483659 (by decide) rfl
  obtain ⟨p4, p5⟩ := ax_bi_pos p1 (by omega)
  obtain ⟨a, b, c, ha, hb, hc, la, lb, lc, hs⟩ := ax_gs hE 164 3 15 (by decide)
  have ha' : (164 : Nat) = 4 * a := ha
  have ha'' : a = 41 := by omega
  subst ha''
  have hb' : ρ 0 = 4 * b := hb
  have hpb : p = b := by omega
  subst hpb
  have hj := ax_sum3 la p4 lc (by decide) hs
  obtain ⟨a2, b2, c2, ha2, hb2, hc2, la2, lb2, lc2, hs2⟩ := ax_gs hE 3 4 7 (by decide)
  have ha2' : ρ 0 = 4 * a2 := ha2
  have hc2' : ρ 1 = 4 * c2 := hc2
  have hpa : p = a2 := by omega
  subst hpa
  have hb2' : b2 = 1 := by have : (4 : Nat) = 4 * b2 := hb2; omega
  have hcd := ax_sum1 hb2' p4 lc2 hs2
  have hc' : ρ 3 = 4 * c := hc
  obtain ⟨k', m', l', f1, f2⟩ := ax_gF hE 706 15 11 174 (ρ 3 / 4) (ρ 2) (by decide) (by rw [ax_vl_c (by decide)]) rfl rfl
  rw [e1] at f1
  cases f1
  obtain ⟨x, hx, x1, x2, x3⟩ := ax_gi hE 2 2147483649 2147483649 (by decide) rfl
  refine ⟨(fun y hy => by cases hy), _, List.mem_cons_self, ρ, fun _ _ => rfl, ax_px hE rfl (fun y hy => ?_)⟩
  cases List.mem_singleton.mp hy
  refine (ax_XF_lt (x := 4) (Nat.le_of_ble_eq_true rfl)).mpr ⟨_, _, _, e1, fun q h1 h2 => ?_⟩
  replace h2 : q < ρ 1 / 4 := h2
  rcases Nat.lt_or_ge q (ρ 0 / 4) with h | h
  · exact e2 q h1 h
  · have e : ρ 3 / 4 = 41 + q := by omega
    rw [e] at f2
    rw [f2]
    intro z
    have z := Option.some.inj z
    have : x = 0 := by omega
    rw [this, ax_bi_def] at x2
    omega
theorem axq0_fpN : ax_RO ax_wM0 (ax_XM 0) axu0_fpN := axqg_fpN ax_WW0
theorem axqg_fpF {w : ax_W} {b : Nat} (hw : ax_WW w) : ax_RO w (ax_XM b) axu0_fpF := by
  intro ρ hp hE hT
  obtain ⟨p, hp, p1, p2, p3⟩ := ax_gi hE 0 2147483648 2147483659 (by decide) rfl
  obtain ⟨p4, p5⟩ := ax_bi_pos p1 (by omega)
  obtain ⟨a, b, c, ha, hb, hc, la, lb, lc, hs⟩ := ax_gs hE 164 3 11 (by decide)
  have ha' : (164 : Nat) = 4 * a := ha
  have ha'' : a = 41 := by omega
  subst ha''
  have hb' : ρ 0 = 4 * b := hb
  have hpb : p = b := by omega
  subst hpb
  have hj := ax_sum3 la p4 lc (by decide) hs
  have hc' : ρ 2 = 4 * c := hc
  obtain ⟨k', m', l', f1, f2⟩ := ax_gF hE 706 11 7 174 (ρ 2 / 4) (ρ 1) (by decide) (by rw [ax_vl_c (by decide)]) rfl rfl
  obtain ⟨x, hx, x1, x2, x3⟩ := ax_gi hE 1 2147483648 2147483648 (by decide) rfl
  refine ⟨(fun y hy => by cases hy), _, List.mem_cons_self, ρ, fun _ _ => rfl, ax_px hE rfl (fun y hy => ?_)⟩
  cases List.mem_singleton.mp hy
  refine (ax_XF_lt (x := 3) (Nat.le_of_ble_eq_true rfl)).mpr ⟨k', m', l', f1, p, by omega, ?_⟩
  have e : ρ 2 / 4 = 41 + p := by omega
  rw [e] at f2
  rw [f2, hx]
  have : x = 0 := by rw [ax_bi_def] at x2 x3; omega
  rw [this]
theorem axq0_fpF : ax_RO ax_wM0 (ax_XM 0) axu0_fpF := axqg_fpF ax_WW0
theorem axqg_fpX {w : ax_W} {b : Nat} (hw : ax_WW w) : ax_RO w (ax_XM b) axu0_fpX := by
  intro ρ hp hE hT
  obtain ⟨kk, m, f, e1, q, q1, q2⟩ : ax_M3 hp := (ax_XF_lt (x := 3) (Nat.le_of_ble_eq_true rfl)).mp (ax_gx hE (3, []) ax_m0)
  obtain ⟨kk', m', f', e3, e4⟩ : ax_M4 (ρ 0) hp := (ax_XF_lt (x := 4) (Nat.le_of_ble_eq_true rfl)).mp (ax_gx hE (4, [3]) ax_m1)
  obtain ⟨p, hp, p1, p2, p3⟩ := ax_gi hE 0 2147483660 2147483660 (by decide) rfl
  obtain ⟨p4, p5⟩ := ax_bi_pos p1 (by omega)
  rw [e1] at e3
  cases e3
  exact absurd q2 (e4 q q1 (by omega))
theorem axq0_fpX : ax_RO ax_wM0 (ax_XM 0) axu0_fpX := axqg_fpX ax_WW0
theorem axqg_lg0 {w : ax_W} {b : Nat} (hw : ax_WW w) : ax_RO w (ax_XM b) axu0_lg0 := by
  intro ρ hp hE hT
  obtain ⟨k, m, l, e1⟩ := ax_cellT hT (q := 191) (g := 61) (ax_wc hw ax_cg_191)
  obtain ⟨ρ', h1, h2⟩ := ax_pn (K := ax_sum l + 1) (xf := [(5, [3, 4])]) hE (by decide) (fun ρ' h1 h2 x hx => by
    cases List.mem_singleton.mp hx
    refine (ax_XF_lt (x := 5) (Nat.le_of_ble_eq_true rfl)).mpr ⟨k, m, l, e1, ?_⟩
    show ax_sum l + 4 / 4 ≤ ρ' 0 / 4
    rw [h2]
    omega)
  exact ⟨(fun x hx => by cases hx), _, List.mem_cons_self, ρ', h1, h2⟩
theorem axq0_lg0 : ax_RO ax_wM0 (ax_XM 0) axu0_lg0 := axqg_lg0 ax_WW0
theorem axqg_lgN {w : ax_W} {b : Nat} (hw : ax_WW w) : ax_RO w (ax_XM b) axu0_lgN := by
  intro ρ hp hE hT
  obtain ⟨k, m, l, e1, e2⟩ : ax_M5 (ρ 0) (ρ 1) hp := (ax_XF_lt (x := 5) (Nat.le_of_ble_eq_true rfl)).mp (ax_gx hE (5, [3, 7]) ax_m0)
  obtain ⟨s, hs⟩ := ax_gj hE 0 (by decide) rfl
  obtain ⟨c, hc, c1, c2, c3⟩ := ax_gi hE 1 2147483649 2147483649 (by decide) rfl
  obtain ⟨c4, c5⟩ := ax_bi_pos c1 (by omega)
  obtain ⟨ρ', h1, h2⟩ := ax_pn (K := ax_sum l) (xf := [(5, [11, 0]), (1030, [11, 3])]) hE (by decide) (fun ρ' h1 h2 x hx => by
    rcases List.mem_cons.mp hx with e | e
    · subst e
      refine (ax_XF_lt (x := 5) (Nat.le_of_ble_eq_true rfl)).mpr ⟨k, m, l, e1, ?_⟩
      show ax_sum l + 0 / 4 ≤ ρ' 2 / 4
      rw [h2]
      omega
    · cases List.mem_singleton.mp e
      refine (ax_XF_bi (o := 30) (by decide)).mpr (Or.inr ⟨rfl, ?_⟩)
      show ρ' 2 < ρ' 0
      rw [h2, h1 0 (by decide), hs]
      omega)
  exact ⟨(fun x hx => by cases hx), _, List.mem_cons_self, ρ', h1, h2⟩
theorem axq0_lgN : ax_RO ax_wM0 (ax_XM 0) axu0_lgN := axqg_lgN ax_WW0
theorem axqg_lgS {w : ax_W} {b : Nat} (hw : ax_WW w) : ax_RO w (ax_XM b) axu0_lgS := by
  intro ρ hp hE hT
  obtain ⟨k, m, l, e1, e2⟩ : ax_M5 (ρ 2) (ρ 3) hp := (ax_XF_lt (x := 5) (Nat.le_of_ble_eq_true rfl)).mp (ax_gx hE (5, [11, 15]) ax_m0)
  obtain ⟨k', m', l', f1, f2⟩ := ax_gF hE 774 7 19 191 (ρ 1 / 4) (ρ 4) (by decide) (by rw [ax_vl_c (by decide)]) rfl rfl
  rw [e1] at f1
  cases f1
  have hc : rx_bi (ρ 0 / 4) < rx_bi (ρ 4 / 4) := ax_gc hE 2 3 19 (by decide) (by decide)
  obtain ⟨x, hx, x1, x2, x3⟩ := ax_gi hE 0 2147483648 2147583648 (by decide) rfl
  obtain ⟨x4, x5⟩ := ax_bi_pos x1 (by omega)
  obtain ⟨o, ho, o1, o2, o3⟩ := ax_gi hE 4 2147483648 2147583648 (by decide) rfl
  obtain ⟨o4, o5⟩ := ax_bi_pos o1 (by omega)
  have d4 : ∀ z : Nat, 4 * z / 4 = z := fun z => by omega
  rw [hx, ho, d4, d4] at hc
  have hg := ax_hg_upd (a := 774) (i := ρ 1) (v := ρ 0) hT.1 (show rx_hg hp (774 / 4 - 2) = _ from e1) 191
  rw [if_pos (show 191 = 774 / 4 - 2 from rfl)] at hg
  have hsum := ax_sum_set l (ρ 1 / 4) (ρ 4) (ρ 0) f2
  refine ⟨(fun y hy => by cases hy), _, List.mem_cons_self, ρ, fun _ _ => rfl, ax_px hE rfl (fun y hy => ?_)⟩
  cases List.mem_singleton.mp hy
  show ax_XF (ax_XM b) (500 + 5) [774, ρ 1, ρ 0, ρ 2, 4] hp
  refine (ax_XF_wr (x := 5) (Nat.le_of_ble_eq_true rfl)).mpr ?_
  show ax_M5 (ρ 2) 4 (ax_upd hp 774 (ρ 1) (ρ 0))
  exact ⟨_, _, _, hg, by omega⟩
theorem axq0_lgS : ax_RO ax_wM0 (ax_XM 0) axu0_lgS := axqg_lgS ax_WW0
theorem axqg_ro0 {w : ax_W} {b : Nat} (hw : ax_WW w) : ax_RO w (ax_XM b) axu0_ro0 := by
  intro ρ hp hE hT
  obtain ⟨ρ', h1, h2⟩ := ax_pn (K := 2 ^ 64) (xf := [(6, [7, 1, 3])]) hE (by decide) (fun ρ' h1 h2 x hx => by
    cases List.mem_singleton.mp hx
    refine (ax_XF_lt (x := 6) (Nat.le_of_ble_eq_true rfl)).mpr ?_
    show ax_w64 1 &&& ax_w64 (ρ' 0) = 0 ∧ 2 ^ 64 - ax_w64 1 ≤ ρ' 1 / 4
    have e : ax_w64 1 = 0 := by decide
    rw [e, h2]
    exact ⟨Nat.zero_and _, by omega⟩)
  exact ⟨(fun x hx => by cases hx), _, List.mem_cons_self, ρ', h1, h2⟩
theorem axq0_ro0 : ax_RO ax_wM0 (ax_XM 0) axu0_ro0 := axqg_ro0 ax_WW0
theorem axqg_roS0 {w : ax_W} {b : Nat} (hw : ax_WW w) : ax_RO w (ax_XM b) axu0_roS0 := by
  intro ρ hp hE hT
  obtain ⟨m1, m2⟩ : ax_M6 (ρ 0) (ρ 1) (ρ 2) := (ax_XF_lt (x := 6) (Nat.le_of_ble_eq_true rfl)).mp (ax_gx hE (6, [3, 7, 11]) ax_m0)
  obtain ⟨kc, hk⟩ := ax_gj hE 0 (by decide) rfl
  have hor : ρ 3 = rx_lng (rx_j_or (ρ 1 / 4) (ρ 2 / 4)) := by
    have h := (ax_XF_bi (o := 100) (by decide)).mp (ax_gx hE (1100, [7, 11, 15]) ax_m1)
    replace h : ax_BI 100 [ρ 1, ρ 2, ρ 3] := h
    rcases h with ⟨h, -⟩ | ⟨j, j1, j2, -, -, h⟩ | ⟨h, -⟩
    · omega
    · have : j = 4 := by omega
      subst this
      exact h
    · omega
  have hne : ax_w64 (ρ 2) ≠ 0 := by
    intro h0
    have h := (ax_XF_bi (o := 112) (by decide)).mp (ax_gx hE (1112, [11, 1, 19]) ax_m2)
    replace h : ax_BI 112 [ρ 2, 1, ρ 4] := h
    rcases h with ⟨h, -⟩ | ⟨j, j1, j2, -⟩ | ⟨-, -, h⟩
    · omega
    · omega
    · replace h : ρ 4 = 4 * rx_f_lcmp (ρ 2 / 4) 0 := h
      rw [ax_lcmp_0 h0] at h
      obtain ⟨c, hc, c1, c2, c3⟩ := ax_gi hE 4 2147483647 2147483647 (by decide) rfl
      have : c = 0 := by omega
      rw [this, ax_bi_def] at c2 c3
      omega
  have hgt := ax_or_gt m1 hne
  have hs3 : ax_w64 (ρ 3) = ax_w64 (ρ 1) ||| ax_w64 (ρ 2) := by
    have e : ρ 3 / 4 = rx_j_or (ρ 1 / 4) (ρ 2 / 4) := by rw [hor]; show (4 * _ + 1) / 4 = _; omega
    have e2 : ax_w64 (ρ 3) = rx_j_or (ρ 1 / 4) (ρ 2 / 4) % 2 ^ 64 := by unfold ax_w64; rw [e]
    rw [e2, ax_j_or]
    exact Nat.mod_eq_of_lt (Nat.or_lt_two_pow (Nat.mod_lt _ (by decide)) (Nat.mod_lt _ (by decide)))
  have hlt : ax_w64 (ρ 3) < 2 ^ 64 := Nat.mod_lt _ (by decide)
  obtain ⟨ρ', h1, h2⟩ := ax_pn (K := 2 ^ 64 - ax_w64 (ρ 3)) (xf := [(7, [23, 15]), (1030, [23, 3])]) hE (by decide) (fun ρ' h1 h2 x hx => by
    rcases List.mem_cons.mp hx with e | e
    · subst e
      refine (ax_XF_lt (x := 7) (Nat.le_of_ble_eq_true rfl)).mpr ?_
      show 2 ^ 64 - ax_w64 (ρ' 3) ≤ ρ' 5 / 4
      rw [h2, h1 3 (by decide)]
      omega
    · cases List.mem_singleton.mp e
      refine (ax_XF_bi (o := 30) (by decide)).mpr (Or.inr ⟨rfl, ?_⟩)
      show ρ' 5 < ρ' 0
      rw [h2, h1 0 (by decide)]
      rw [hs3] at hlt ⊢
      omega)
  exact ⟨(fun x hx => by cases hx), _, List.mem_cons_self, ρ', h1, h2⟩
theorem axq0_roS0 : ax_RO ax_wM0 (ax_XM 0) axu0_roS0 := axqg_roS0 ax_WW0
theorem axqg_roS2 {w : ax_W} {b : Nat} (hw : ax_WW w) : ax_RO w (ax_XM b) axu0_roS2 := by
  intro ρ hp hE hT
  obtain ⟨m1, m2⟩ : ax_M6 (ρ 0) (ρ 1) (ρ 2) := (ax_XF_lt (x := 6) (Nat.le_of_ble_eq_true rfl)).mp (ax_gx hE (6, [3, 7, 11]) ax_m0)
  obtain ⟨kc, hk⟩ := ax_gj hE 0 (by decide) rfl
  have hor : ρ 3 = rx_lng (rx_j_or (ρ 1 / 4) (ρ 2 / 4)) := by
    have h := (ax_XF_bi (o := 100) (by decide)).mp (ax_gx hE (1100, [7, 11, 15]) ax_m1)
    replace h : ax_BI 100 [ρ 1, ρ 2, ρ 3] := h
    rcases h with ⟨h, -⟩ | ⟨j, j1, j2, -, -, h⟩ | ⟨h, -⟩
    · omega
    · have : j = 4 := by omega
      subst this
      exact h
    · omega
  have hne : ax_w64 (ρ 2) ≠ 0 := by
    intro h0
    have h := (ax_XF_bi (o := 112) (by decide)).mp (ax_gx hE (1112, [11, 1, 19]) ax_m2)
    replace h : ax_BI 112 [ρ 2, 1, ρ 4] := h
    rcases h with ⟨h, -⟩ | ⟨j, j1, j2, -⟩ | ⟨-, -, h⟩
    · omega
    · omega
    · replace h : ρ 4 = 4 * rx_f_lcmp (ρ 2 / 4) 0 := h
      rw [ax_lcmp_0 h0] at h
      obtain ⟨c, hc, c1, c2, c3⟩ := ax_gi hE 4 2147483649 2147483649 (by decide) rfl
      have : c = 0 := by omega
      rw [this, ax_bi_def] at c2 c3
      omega
  have hgt := ax_or_gt m1 hne
  have hs3 : ax_w64 (ρ 3) = ax_w64 (ρ 1) ||| ax_w64 (ρ 2) := by
    have e : ρ 3 / 4 = rx_j_or (ρ 1 / 4) (ρ 2 / 4) := by rw [hor]; show (4 * _ + 1) / 4 = _; omega
    have e2 : ax_w64 (ρ 3) = rx_j_or (ρ 1 / 4) (ρ 2 / 4) % 2 ^ 64 := by unfold ax_w64; rw [e]
    rw [e2, ax_j_or]
    exact Nat.mod_eq_of_lt (Nat.or_lt_two_pow (Nat.mod_lt _ (by decide)) (Nat.mod_lt _ (by decide)))
  have hlt : ax_w64 (ρ 3) < 2 ^ 64 := Nat.mod_lt _ (by decide)
  obtain ⟨ρ', h1, h2⟩ := ax_pn (K := 2 ^ 64 - ax_w64 (ρ 3)) (xf := [(7, [23, 15]), (1030, [23, 3])]) hE (by decide) (fun ρ' h1 h2 x hx => by
    rcases List.mem_cons.mp hx with e | e
    · subst e
      refine (ax_XF_lt (x := 7) (Nat.le_of_ble_eq_true rfl)).mpr ?_
      show 2 ^ 64 - ax_w64 (ρ' 3) ≤ ρ' 5 / 4
      rw [h2, h1 3 (by decide)]
      omega
    · cases List.mem_singleton.mp e
      refine (ax_XF_bi (o := 30) (by decide)).mpr (Or.inr ⟨rfl, ?_⟩)
      show ρ' 5 < ρ' 0
      rw [h2, h1 0 (by decide)]
      rw [hs3] at hlt ⊢
      omega)
  exact ⟨(fun x hx => by cases hx), _, List.mem_cons_self, ρ', h1, h2⟩
theorem axq0_roS2 : ax_RO ax_wM0 (ax_XM 0) axu0_roS2 := axqg_roS2 ax_WW0
theorem axqg_roN {w : ax_W} {b : Nat} (hw : ax_WW w) : ax_RO w (ax_XM b) axu0_roN := by
  intro ρ hp hE hT
  have m1 : ax_M7 (ρ 1) (ρ 2) := (ax_XF_lt (x := 7) (Nat.le_of_ble_eq_true rfl)).mp (ax_gx hE (7, [7, 11]) ax_m0)
  have hxo : ρ 4 = rx_lng (rx_j_xor (ρ 2 / 4) 18446744073709551615) := by
    have h := (ax_XF_bi (o := 101) (by decide)).mp (ax_gx hE (1101, [11, 73786976294838206461, 19]) ax_m1)
    replace h : ax_BI 101 [ρ 2, 73786976294838206461, ρ 4] := h
    rcases h with ⟨h, -⟩ | ⟨j, j1, j2, -, -, h⟩ | ⟨h, -⟩
    · omega
    · have : j = 5 := by omega
      subst this
      exact h
    · omega
  have han : ρ 0 = rx_lng (rx_j_and (ρ 3 / 4) (ρ 4 / 4)) := by
    have h := (ax_XF_bi (o := 99) (by decide)).mp (ax_gx hE (1099, [15, 19, 3]) ax_m2)
    replace h : ax_BI 99 [ρ 3, ρ 4, ρ 0] := h
    rcases h with ⟨h, -⟩ | ⟨j, j1, j2, -, -, h⟩ | ⟨h, -⟩
    · omega
    · have : j = 3 := by omega
      subst this
      exact h
    · omega
  have e4 : ρ 4 / 4 = rx_j_xor (ρ 2 / 4) 18446744073709551615 := by rw [hxo]; show (4 * _ + 1) / 4 = _; omega
  have e0 : ρ 0 / 4 = rx_j_and (ρ 3 / 4) (ρ 4 / 4) := by rw [han]; show (4 * _ + 1) / 4 = _; omega
  have hx4 : rx_j_xor (ρ 2 / 4) 18446744073709551615 % 2 ^ 64 = ρ 2 / 4 % 2 ^ 64 ^^^ (2 ^ 64 - 1) := by
    rw [ax_j_xor]
    exact Nat.mod_eq_of_lt (Nat.xor_lt_two_pow (Nat.mod_lt _ (by decide)) (Nat.mod_lt _ (by decide)))
  have hw : ax_w64 (ρ 0) = ρ 3 / 4 % 2 ^ 64 &&& (ρ 2 / 4 % 2 ^ 64 ^^^ (2 ^ 64 - 1)) := by
    unfold ax_w64
    rw [e0, ax_j_and, e4, hx4]
    exact Nat.mod_eq_of_lt (Nat.lt_of_le_of_lt Nat.and_le_left (Nat.mod_lt _ (by decide)))
  refine ⟨(fun y hy => by cases hy), _, List.mem_cons_self, ρ, fun _ _ => rfl, ax_px hE rfl (fun y hy => ?_)⟩
  cases List.mem_singleton.mp hy
  refine (ax_XF_lt (x := 6) (Nat.le_of_ble_eq_true rfl)).mpr ?_
  show ax_w64 (ρ 2) &&& ax_w64 (ρ 0) = 0 ∧ 2 ^ 64 - ax_w64 (ρ 2) ≤ ρ 1 / 4
  rw [hw]
  exact ⟨ax_and_not _ _, m1⟩
theorem axq0_roN : ax_RO ax_wM0 (ax_XM 0) axu0_roN := axqg_roN ax_WW0
