theorem ax_XM1_ok : ax_XD ax_wM1 (ax_XM 1) := by
  intro x vs dl md hp hp' hdl hall hR hX
  match x, vs, hX with
  | 0, [k], hX =>
    have hdl : [(11, 56), (11, 57)] = dl := Option.some.inj hdl
    subst hdl
    obtain ⟨kk, n, d, u, f, e1, e2, e3, e4⟩ := hX
    obtain ⟨f', e5, e6⟩ := hR.2 173 11 rfl kk n f e1
    have hD := ax_mem_no (List.all_eq_true.mp hall (11, 56) List.mem_cons_self)
    have hU := ax_mem_no (List.all_eq_true.mp hall (11, 57) (List.mem_cons_of_mem _ List.mem_cons_self))
    exact ⟨kk, n, d, u, f', e5, (e6 _ hD).trans e2, (e6 _ hU).trans e3, e4⟩
  | 1, [], hX =>
    have hdl : [(72, 999)] = dl := Option.some.inj hdl
    subst hdl
    obtain ⟨kk, m, f, e1, e2⟩ := hX
    exact ⟨kk, m, f, ax_same hR (q := 202) rfl (List.all_eq_true.mp hall (72, 999) List.mem_cons_self) e1, e2⟩
  | 2, [], hX =>
    have hdl : [(73, 999)] = dl := Option.some.inj hdl
    subst hdl
    obtain ⟨kk, m, f, e1, e2⟩ := hX
    exact ⟨kk, m, f, ax_same hR (q := 203) rfl (List.all_eq_true.mp hall (73, 999) List.mem_cons_self) e1, e2⟩
  | 3, [], hX =>
    have hdl : [(44, 999)] = dl := Option.some.inj hdl
    subst hdl
    obtain ⟨kk, m, f, e1, e2⟩ := hX
    exact ⟨kk, m, f, ax_same hR (q := 174) rfl (List.all_eq_true.mp hall (44, 999) List.mem_cons_self) e1, e2⟩
  | 4, [p], hX =>
    have hdl : [(44, 999)] = dl := Option.some.inj hdl
    subst hdl
    obtain ⟨kk, m, f, e1, e2⟩ := hX
    exact ⟨kk, m, f, ax_same hR (q := 174) rfl (List.all_eq_true.mp hall (44, 999) List.mem_cons_self) e1, e2⟩
  | 5, [s, c], hX =>
    have hdl : [(61, 999)] = dl := Option.some.inj hdl
    subst hdl
    obtain ⟨kk, m, f, e1, e2⟩ := hX
    exact ⟨kk, m, f, ax_same hR (q := 191) rfl (List.all_eq_true.mp hall (61, 999) List.mem_cons_self) e1, e2⟩
  | 8, [s, c], hX =>
    have hdl : [(69, 999)] = dl := Option.some.inj hdl
    subst hdl
    obtain ⟨x0, hX⟩ := hX
    have e0 : ay_at hp' 199 = ay_at hp 199 := ay_same hR x0 (g := 69) rfl (List.all_eq_true.mp hall (69, 999) (by simp))
    refine ⟨ay_ex_same hR x0 (g := 69) rfl, ?_⟩
    show ay_M8 s c (ay_at hp' 199)
    rw [e0]
    exact hX
  | 9, [f, i], hX =>
    have hdl : [(69, 999)] = dl := Option.some.inj hdl
    subst hdl
    obtain ⟨x0, hX⟩ := hX
    have e0 : ay_at hp' 199 = ay_at hp 199 := ay_same hR x0 (g := 69) rfl (List.all_eq_true.mp hall (69, 999) (by simp))
    refine ⟨ay_ex_same hR x0 (g := 69) rfl, ?_⟩
    show ay_M9 f i (ay_at hp' 199)
    rw [e0]
    exact hX
  | 10, [f, i], hX =>
    have hdl : [(69, 999)] = dl := Option.some.inj hdl
    subst hdl
    obtain ⟨x0, hX⟩ := hX
    have e0 : ay_at hp' 199 = ay_at hp 199 := ay_same hR x0 (g := 69) rfl (List.all_eq_true.mp hall (69, 999) (by simp))
    refine ⟨ay_ex_same hR x0 (g := 69) rfl, ?_⟩
    show ay_M10 f i (ay_at hp' 199)
    rw [e0]
    exact hX
  | 11, [f], hX =>
    have hdl : [(69, 999), (68, 999), (51, 999)] = dl := Option.some.inj hdl
    subst hdl
    obtain ⟨x0, x1, x2, hX⟩ := hX
    have e0 : ay_at hp' 199 = ay_at hp 199 := ay_same hR x0 (g := 69) rfl (List.all_eq_true.mp hall (69, 999) (by simp))
    have e1 : ay_at hp' 198 = ay_at hp 198 := ay_same hR x1 (g := 68) rfl (List.all_eq_true.mp hall (68, 999) (by simp))
    have e2 : ay_at hp' 181 = ay_at hp 181 := ay_same hR x2 (g := 51) rfl (List.all_eq_true.mp hall (51, 999) (by simp))
    refine ⟨ay_ex_same hR x0 (g := 69) rfl, ay_ex_same hR x1 (g := 68) rfl, ay_ex_same hR x2 (g := 51) rfl, ?_⟩
    show ay_M11 1 f (ay_at hp' 199) (ay_at hp' 198) (ay_at hp' 181)
    rw [e0, e1, e2]
    exact hX
  | 12, [k, f, v], hX =>
    have hdl : [(69, 999), (68, 999), (51, 999)] = dl := Option.some.inj hdl
    subst hdl
    obtain ⟨x0, x1, x2, hX⟩ := hX
    have e0 : ay_at hp' 199 = ay_at hp 199 := ay_same hR x0 (g := 69) rfl (List.all_eq_true.mp hall (69, 999) (by simp))
    have e1 : ay_at hp' 198 = ay_at hp 198 := ay_same hR x1 (g := 68) rfl (List.all_eq_true.mp hall (68, 999) (by simp))
    have e2 : ay_at hp' 181 = ay_at hp 181 := ay_same hR x2 (g := 51) rfl (List.all_eq_true.mp hall (51, 999) (by simp))
    refine ⟨ay_ex_same hR x0 (g := 69) rfl, ay_ex_same hR x1 (g := 68) rfl, ay_ex_same hR x2 (g := 51) rfl, ?_⟩
    show ay_M12 1 k f v (ay_at hp' 199) (ay_at hp' 198) (ay_at hp' 181)
    rw [e0, e1, e2]
    exact hX
  | 13, [k, f, v], hX =>
    have hdl : [(69, 999), (68, 999), (51, 999)] = dl := Option.some.inj hdl
    subst hdl
    obtain ⟨x0, x1, x2, hX⟩ := hX
    have e0 : ay_at hp' 199 = ay_at hp 199 := ay_same hR x0 (g := 69) rfl (List.all_eq_true.mp hall (69, 999) (by simp))
    have e1 : ay_at hp' 198 = ay_at hp 198 := ay_same hR x1 (g := 68) rfl (List.all_eq_true.mp hall (68, 999) (by simp))
    have e2 : ay_at hp' 181 = ay_at hp 181 := ay_same hR x2 (g := 51) rfl (List.all_eq_true.mp hall (51, 999) (by simp))
    refine ⟨ay_ex_same hR x0 (g := 69) rfl, ay_ex_same hR x1 (g := 68) rfl, ay_ex_same hR x2 (g := 51) rfl, ?_⟩
    show ay_M13 1 k f v (ay_at hp' 199) (ay_at hp' 198) (ay_at hp' 181)
    rw [e0, e1, e2]
    exact hX
  | 14, [k, f], hX =>
    have hdl : [(68, 999), (51, 999)] = dl := Option.some.inj hdl
    subst hdl
    obtain ⟨x0, x1, hX⟩ := hX
    have e0 : ay_at hp' 198 = ay_at hp 198 := ay_same hR x0 (g := 68) rfl (List.all_eq_true.mp hall (68, 999) (by simp))
    have e1 : ay_at hp' 181 = ay_at hp 181 := ay_same hR x1 (g := 51) rfl (List.all_eq_true.mp hall (51, 999) (by simp))
    refine ⟨ay_ex_same hR x0 (g := 68) rfl, ay_ex_same hR x1 (g := 51) rfl, ?_⟩
    show ay_M14 1 k f (ay_at hp' 198) (ay_at hp' 181)
    rw [e0, e1]
    exact hX
  | 15, [k, f, v], hX =>
    have hdl : [(68, 999), (51, 999)] = dl := Option.some.inj hdl
    subst hdl
    obtain ⟨x0, x1, hX⟩ := hX
    have e0 : ay_at hp' 198 = ay_at hp 198 := ay_same hR x0 (g := 68) rfl (List.all_eq_true.mp hall (68, 999) (by simp))
    have e1 : ay_at hp' 181 = ay_at hp 181 := ay_same hR x1 (g := 51) rfl (List.all_eq_true.mp hall (51, 999) (by simp))
    refine ⟨ay_ex_same hR x0 (g := 68) rfl, ay_ex_same hR x1 (g := 51) rfl, ?_⟩
    show ay_M15 1 k f v (ay_at hp' 198) (ay_at hp' 181)
    rw [e0, e1]
    exact hX
  | 16, [k, f, v], hX =>
    have hdl : [(68, 999), (51, 999), (69, 999)] = dl := Option.some.inj hdl
    subst hdl
    obtain ⟨x0, x1, x2, hX⟩ := hX
    have e0 : ay_at hp' 198 = ay_at hp 198 := ay_same hR x0 (g := 68) rfl (List.all_eq_true.mp hall (68, 999) (by simp))
    have e1 : ay_at hp' 181 = ay_at hp 181 := ay_same hR x1 (g := 51) rfl (List.all_eq_true.mp hall (51, 999) (by simp))
    have e2 : ay_at hp' 199 = ay_at hp 199 := ay_same hR x2 (g := 69) rfl (List.all_eq_true.mp hall (69, 999) (by simp))
    refine ⟨ay_ex_same hR x0 (g := 68) rfl, ay_ex_same hR x1 (g := 51) rfl, ay_ex_same hR x2 (g := 69) rfl, ?_⟩
    show ay_M16 1 k f v (ay_at hp' 199) (ay_at hp' 198) (ay_at hp' 181)
    rw [e0, e1, e2]
    exact hX
  | 17, [k], hX =>
    have hdl : [(58, 999), (44, 999), (46, 1)] = dl := Option.some.inj hdl
    subst hdl
    obtain ⟨x0, x1, x2, hX⟩ := hX
    have e0 : ay_at hp' 188 = ay_at hp 188 := ay_same hR x0 (g := 58) rfl (List.all_eq_true.mp hall (58, 999) (by simp))
    have e1 : ay_at hp' 174 = ay_at hp 174 := ay_same hR x1 (g := 44) rfl (List.all_eq_true.mp hall (44, 999) (by simp))
    have e2 : ay_at hp' 176 1 = ay_at hp 176 1 := ay_same1 hR x2 (g := 46) rfl (List.all_eq_true.mp hall (46, 1) (by simp))
    refine ⟨ay_ex_same hR x0 (g := 58) rfl, ay_ex_same hR x1 (g := 44) rfl, ay_ex_same hR x2 (g := 46) rfl, ?_⟩
    show ay_M17 k (ay_at hp' 188) (ay_at hp' 174) (ay_at hp' 176 1)
    rw [e0, e1, e2]
    exact hX
  | 18, [n, l], hX =>
    have hdl : [(58, 999), (44, 999), (46, 1), (70, 999)] = dl := Option.some.inj hdl
    subst hdl
    obtain ⟨x0, x1, x2, x3, hX⟩ := hX
    have e0 : ay_at hp' 188 = ay_at hp 188 := ay_same hR x0 (g := 58) rfl (List.all_eq_true.mp hall (58, 999) (by simp))
    have e1 : ay_at hp' 174 = ay_at hp 174 := ay_same hR x1 (g := 44) rfl (List.all_eq_true.mp hall (44, 999) (by simp))
    have e2 : ay_at hp' 176 1 = ay_at hp 176 1 := ay_same1 hR x2 (g := 46) rfl (List.all_eq_true.mp hall (46, 1) (by simp))
    have e3 : ay_at hp' 200 = ay_at hp 200 := ay_same hR x3 (g := 70) rfl (List.all_eq_true.mp hall (70, 999) (by simp))
    refine ⟨ay_ex_same hR x0 (g := 58) rfl, ay_ex_same hR x1 (g := 44) rfl, ay_ex_same hR x2 (g := 46) rfl, ay_ex_same hR x3 (g := 70) rfl, ?_⟩
    show ay_M18 n l (ay_at hp' 188) (ay_at hp' 174) (ay_at hp' 200) (ay_at hp' 176 1)
    rw [e0, e1, e2, e3]
    exact hX
  | 19, [n], hX =>
    have hdl : [(58, 999), (44, 999), (46, 1), (70, 999)] = dl := Option.some.inj hdl
    subst hdl
    obtain ⟨x0, x1, x2, x3, hX⟩ := hX
    have e0 : ay_at hp' 188 = ay_at hp 188 := ay_same hR x0 (g := 58) rfl (List.all_eq_true.mp hall (58, 999) (by simp))
    have e1 : ay_at hp' 174 = ay_at hp 174 := ay_same hR x1 (g := 44) rfl (List.all_eq_true.mp hall (44, 999) (by simp))
    have e2 : ay_at hp' 176 1 = ay_at hp 176 1 := ay_same1 hR x2 (g := 46) rfl (List.all_eq_true.mp hall (46, 1) (by simp))
    have e3 : ay_at hp' 200 = ay_at hp 200 := ay_same hR x3 (g := 70) rfl (List.all_eq_true.mp hall (70, 999) (by simp))
    refine ⟨ay_ex_same hR x0 (g := 58) rfl, ay_ex_same hR x1 (g := 44) rfl, ay_ex_same hR x2 (g := 46) rfl, ay_ex_same hR x3 (g := 70) rfl, ?_⟩
    show ay_M19 n (ay_at hp' 188) (ay_at hp' 174) (ay_at hp' 200) (ay_at hp' 176 1)
    rw [e0, e1, e2, e3]
    exact hX
  | 20, [k, l], hX =>
    have hdl : [(58, 999), (44, 999), (46, 1), (70, 999)] = dl := Option.some.inj hdl
    subst hdl
    obtain ⟨x0, x1, x2, x3, hX⟩ := hX
    have e0 : ay_at hp' 188 = ay_at hp 188 := ay_same hR x0 (g := 58) rfl (List.all_eq_true.mp hall (58, 999) (by simp))
    have e1 : ay_at hp' 174 = ay_at hp 174 := ay_same hR x1 (g := 44) rfl (List.all_eq_true.mp hall (44, 999) (by simp))
    have e2 : ay_at hp' 176 1 = ay_at hp 176 1 := ay_same1 hR x2 (g := 46) rfl (List.all_eq_true.mp hall (46, 1) (by simp))
    have e3 : ay_at hp' 200 = ay_at hp 200 := ay_same hR x3 (g := 70) rfl (List.all_eq_true.mp hall (70, 999) (by simp))
    refine ⟨ay_ex_same hR x0 (g := 58) rfl, ay_ex_same hR x1 (g := 44) rfl, ay_ex_same hR x2 (g := 46) rfl, ay_ex_same hR x3 (g := 70) rfl, ?_⟩
    show ay_M20 k l (ay_at hp' 188) (ay_at hp' 174) (ay_at hp' 200) (ay_at hp' 176 1)
    rw [e0, e1, e2, e3]
    exact hX
  | 21, [k, l], hX =>
    have hdl : [(58, 999), (44, 999), (46, 1), (70, 999)] = dl := Option.some.inj hdl
    subst hdl
    obtain ⟨x0, x1, x2, x3, hX⟩ := hX
    have e0 : ay_at hp' 188 = ay_at hp 188 := ay_same hR x0 (g := 58) rfl (List.all_eq_true.mp hall (58, 999) (by simp))
    have e1 : ay_at hp' 174 = ay_at hp 174 := ay_same hR x1 (g := 44) rfl (List.all_eq_true.mp hall (44, 999) (by simp))
    have e2 : ay_at hp' 176 1 = ay_at hp 176 1 := ay_same1 hR x2 (g := 46) rfl (List.all_eq_true.mp hall (46, 1) (by simp))
    have e3 : ay_at hp' 200 = ay_at hp 200 := ay_same hR x3 (g := 70) rfl (List.all_eq_true.mp hall (70, 999) (by simp))
    refine ⟨ay_ex_same hR x0 (g := 58) rfl, ay_ex_same hR x1 (g := 44) rfl, ay_ex_same hR x2 (g := 46) rfl, ay_ex_same hR x3 (g := 70) rfl, ?_⟩
    show ay_M21 k l (ay_at hp' 188) (ay_at hp' 174) (ay_at hp' 200) (ay_at hp' 176 1)
    rw [e0, e1, e2, e3]
    exact hX
  | 22, [], hX =>
    have hdl : [(58, 999), (44, 999), (46, 1), (70, 999)] = dl := Option.some.inj hdl
    subst hdl
    obtain ⟨x0, x1, x2, x3, hX⟩ := hX
    have e0 : ay_at hp' 188 = ay_at hp 188 := ay_same hR x0 (g := 58) rfl (List.all_eq_true.mp hall (58, 999) (by simp))
    have e1 : ay_at hp' 174 = ay_at hp 174 := ay_same hR x1 (g := 44) rfl (List.all_eq_true.mp hall (44, 999) (by simp))
    have e2 : ay_at hp' 176 1 = ay_at hp 176 1 := ay_same1 hR x2 (g := 46) rfl (List.all_eq_true.mp hall (46, 1) (by simp))
    have e3 : ay_at hp' 200 = ay_at hp 200 := ay_same hR x3 (g := 70) rfl (List.all_eq_true.mp hall (70, 999) (by simp))
    refine ⟨ay_ex_same hR x0 (g := 58) rfl, ay_ex_same hR x1 (g := 44) rfl, ay_ex_same hR x2 (g := 46) rfl, ay_ex_same hR x3 (g := 70) rfl, ?_⟩
    show ay_M22 (ay_at hp' 188) (ay_at hp' 174) (ay_at hp' 200) (ay_at hp' 176 1)
    rw [e0, e1, e2, e3]
    exact hX
  | 24, [], hX =>
    have hdl : [(64, 999), (61, 999), (51, 999), (44, 999), (45, 1), (46, 1)] = dl := Option.some.inj hdl
    subst hdl
    obtain ⟨x0, x1, x2, x3, x4, x5, hX⟩ := hX
    have e0 : ay_at hp' 194 = ay_at hp 194 := ay_same hR x0 (g := 64) rfl (List.all_eq_true.mp hall (64, 999) (by simp))
    have e1 : ay_at hp' 191 = ay_at hp 191 := ay_same hR x1 (g := 61) rfl (List.all_eq_true.mp hall (61, 999) (by simp))
    have e2 : ay_at hp' 181 = ay_at hp 181 := ay_same hR x2 (g := 51) rfl (List.all_eq_true.mp hall (51, 999) (by simp))
    have e3 : ay_at hp' 174 = ay_at hp 174 := ay_same hR x3 (g := 44) rfl (List.all_eq_true.mp hall (44, 999) (by simp))
    have e4 : ay_at hp' 175 1 = ay_at hp 175 1 := ay_same1 hR x4 (g := 45) rfl (List.all_eq_true.mp hall (45, 1) (by simp))
    have e5 : ay_at hp' 176 1 = ay_at hp 176 1 := ay_same1 hR x5 (g := 46) rfl (List.all_eq_true.mp hall (46, 1) (by simp))
    refine ⟨ay_ex_same hR x0 (g := 64) rfl, ay_ex_same hR x1 (g := 61) rfl, ay_ex_same hR x2 (g := 51) rfl, ay_ex_same hR x3 (g := 44) rfl, ay_ex_same hR x4 (g := 45) rfl, ay_ex_same hR x5 (g := 46) rfl, ?_⟩
    show ay_M24 1 (ay_at hp' 194) (ay_at hp' 191) (ay_at hp' 181) (ay_at hp' 174) (ay_at hp' 175 1) (ay_at hp' 176 1)
    rw [e0, e1, e2, e3, e4, e5]
    exact hX
  | 25, [], hX =>
    have hdl : [(51, 999), (45, 1), (46, 1)] = dl := Option.some.inj hdl
    subst hdl
    obtain ⟨x0, x1, x2, hX⟩ := hX
    have e0 : ay_at hp' 181 = ay_at hp 181 := ay_same hR x0 (g := 51) rfl (List.all_eq_true.mp hall (51, 999) (by simp))
    have e1 : ay_at hp' 175 1 = ay_at hp 175 1 := ay_same1 hR x1 (g := 45) rfl (List.all_eq_true.mp hall (45, 1) (by simp))
    have e2 : ay_at hp' 176 1 = ay_at hp 176 1 := ay_same1 hR x2 (g := 46) rfl (List.all_eq_true.mp hall (46, 1) (by simp))
    refine ⟨ay_ex_same hR x0 (g := 51) rfl, ay_ex_same hR x1 (g := 45) rfl, ay_ex_same hR x2 (g := 46) rfl, ?_⟩
    show ay_M25 1 (ay_at hp' 181) (ay_at hp' 175 1) (ay_at hp' 176 1)
    rw [e0, e1, e2]
    exact hX
  | 26, [], hX =>
    have hdl : [(52, 999), (50, 1)] = dl := Option.some.inj hdl
    subst hdl
    obtain ⟨x0, x1, hX⟩ := hX
    have e0 : ay_at hp' 182 = ay_at hp 182 := ay_same hR x0 (g := 52) rfl (List.all_eq_true.mp hall (52, 999) (by simp))
    have e1 : ay_at hp' 180 1 = ay_at hp 180 1 := ay_same1 hR x1 (g := 50) rfl (List.all_eq_true.mp hall (50, 1) (by simp))
    refine ⟨ay_ex_same hR x0 (g := 52) rfl, ay_ex_same hR x1 (g := 50) rfl, ?_⟩
    show ay_M26 1 (ay_at hp' 182) (ay_at hp' 180 1)
    rw [e0, e1]
    exact hX
  | 28, [g, v, s, c], hX =>
    have hdl : [(61, 999), (51, 999), (44, 999), (46, 1)] = dl := Option.some.inj hdl
    subst hdl
    obtain ⟨x0, x1, x2, x3, hX⟩ := hX
    have e0 : ay_at hp' 191 = ay_at hp 191 := ay_same hR x0 (g := 61) rfl (List.all_eq_true.mp hall (61, 999) (by simp))
    have e1 : ay_at hp' 181 = ay_at hp 181 := ay_same hR x1 (g := 51) rfl (List.all_eq_true.mp hall (51, 999) (by simp))
    have e2 : ay_at hp' 174 = ay_at hp 174 := ay_same hR x2 (g := 44) rfl (List.all_eq_true.mp hall (44, 999) (by simp))
    have e3 : ay_at hp' 176 1 = ay_at hp 176 1 := ay_same1 hR x3 (g := 46) rfl (List.all_eq_true.mp hall (46, 1) (by simp))
    refine ⟨ay_ex_same hR x0 (g := 61) rfl, ay_ex_same hR x1 (g := 51) rfl, ay_ex_same hR x2 (g := 44) rfl, ay_ex_same hR x3 (g := 46) rfl, ?_⟩
    show ay_M28 1 g v s c (ay_at hp' 191) (ay_at hp' 181) (ay_at hp' 174) (ay_at hp' 176 1)
    rw [e0, e1, e2, e3]
    exact hX
  | 29, [g, v, s], hX =>
    have hdl : [(64, 999), (61, 999), (51, 999), (44, 999), (45, 1), (46, 1)] = dl := Option.some.inj hdl
    subst hdl
    obtain ⟨x0, x1, x2, x3, x4, x5, hX⟩ := hX
    have e0 : ay_at hp' 194 = ay_at hp 194 := ay_same hR x0 (g := 64) rfl (List.all_eq_true.mp hall (64, 999) (by simp))
    have e1 : ay_at hp' 191 = ay_at hp 191 := ay_same hR x1 (g := 61) rfl (List.all_eq_true.mp hall (61, 999) (by simp))
    have e2 : ay_at hp' 181 = ay_at hp 181 := ay_same hR x2 (g := 51) rfl (List.all_eq_true.mp hall (51, 999) (by simp))
    have e3 : ay_at hp' 174 = ay_at hp 174 := ay_same hR x3 (g := 44) rfl (List.all_eq_true.mp hall (44, 999) (by simp))
    have e4 : ay_at hp' 175 1 = ay_at hp 175 1 := ay_same1 hR x4 (g := 45) rfl (List.all_eq_true.mp hall (45, 1) (by simp))
    have e5 : ay_at hp' 176 1 = ay_at hp 176 1 := ay_same1 hR x5 (g := 46) rfl (List.all_eq_true.mp hall (46, 1) (by simp))
    refine ⟨ay_ex_same hR x0 (g := 64) rfl, ay_ex_same hR x1 (g := 61) rfl, ay_ex_same hR x2 (g := 51) rfl, ay_ex_same hR x3 (g := 44) rfl, ay_ex_same hR x4 (g := 45) rfl, ay_ex_same hR x5 (g := 46) rfl, ?_⟩
    show ay_M29 1 g v s (ay_at hp' 194) (ay_at hp' 191) (ay_at hp' 181) (ay_at hp' 174) (ay_at hp' 175 1) (ay_at hp' 176 1)
    rw [e0, e1, e2, e3, e4, e5]
    exact hX
  | 30, [g, v, s], hX =>
    have hdl : [(64, 999), (61, 999), (51, 999), (44, 999), (45, 1), (46, 1)] = dl := Option.some.inj hdl
    subst hdl
    obtain ⟨x0, x1, x2, x3, x4, x5, hX⟩ := hX
    have e0 : ay_at hp' 194 = ay_at hp 194 := ay_same hR x0 (g := 64) rfl (List.all_eq_true.mp hall (64, 999) (by simp))
    have e1 : ay_at hp' 191 = ay_at hp 191 := ay_same hR x1 (g := 61) rfl (List.all_eq_true.mp hall (61, 999) (by simp))
    have e2 : ay_at hp' 181 = ay_at hp 181 := ay_same hR x2 (g := 51) rfl (List.all_eq_true.mp hall (51, 999) (by simp))
    have e3 : ay_at hp' 174 = ay_at hp 174 := ay_same hR x3 (g := 44) rfl (List.all_eq_true.mp hall (44, 999) (by simp))
    have e4 : ay_at hp' 175 1 = ay_at hp 175 1 := ay_same1 hR x4 (g := 45) rfl (List.all_eq_true.mp hall (45, 1) (by simp))
    have e5 : ay_at hp' 176 1 = ay_at hp 176 1 := ay_same1 hR x5 (g := 46) rfl (List.all_eq_true.mp hall (46, 1) (by simp))
    refine ⟨ay_ex_same hR x0 (g := 64) rfl, ay_ex_same hR x1 (g := 61) rfl, ay_ex_same hR x2 (g := 51) rfl, ay_ex_same hR x3 (g := 44) rfl, ay_ex_same hR x4 (g := 45) rfl, ay_ex_same hR x5 (g := 46) rfl, ?_⟩
    show ay_M30 1 g v s (ay_at hp' 194) (ay_at hp' 191) (ay_at hp' 181) (ay_at hp' 174) (ay_at hp' 175 1) (ay_at hp' 176 1)
    rw [e0, e1, e2, e3, e4, e5]
    exact hX
  | 31, [f, t, i, n, v, s, c], hX =>
    have hdl : [(64, 999), (51, 999), (44, 999)] = dl := Option.some.inj hdl
    subst hdl
    obtain ⟨x0, x1, x2, hX⟩ := hX
    have e0 : ay_at hp' 194 = ay_at hp 194 := ay_same hR x0 (g := 64) rfl (List.all_eq_true.mp hall (64, 999) (by simp))
    have e1 : ay_at hp' 181 = ay_at hp 181 := ay_same hR x1 (g := 51) rfl (List.all_eq_true.mp hall (51, 999) (by simp))
    have e2 : ay_at hp' 174 = ay_at hp 174 := ay_same hR x2 (g := 44) rfl (List.all_eq_true.mp hall (44, 999) (by simp))
    refine ⟨ay_ex_same hR x0 (g := 64) rfl, ay_ex_same hR x1 (g := 51) rfl, ay_ex_same hR x2 (g := 44) rfl, ?_⟩
    show ay_M31 1 f t i n v s c (ay_at hp' 194) (ay_at hp' 181) (ay_at hp' 174)
    rw [e0, e1, e2]
    exact hX
  | 32, [f, t, i, c], hX =>
    have hdl : [(64, 999), (51, 999), (44, 999)] = dl := Option.some.inj hdl
    subst hdl
    obtain ⟨x0, x1, x2, hX⟩ := hX
    have e0 : ay_at hp' 194 = ay_at hp 194 := ay_same hR x0 (g := 64) rfl (List.all_eq_true.mp hall (64, 999) (by simp))
    have e1 : ay_at hp' 181 = ay_at hp 181 := ay_same hR x1 (g := 51) rfl (List.all_eq_true.mp hall (51, 999) (by simp))
    have e2 : ay_at hp' 174 = ay_at hp 174 := ay_same hR x2 (g := 44) rfl (List.all_eq_true.mp hall (44, 999) (by simp))
    refine ⟨ay_ex_same hR x0 (g := 64) rfl, ay_ex_same hR x1 (g := 51) rfl, ay_ex_same hR x2 (g := 44) rfl, ?_⟩
    show ay_M32 1 f t i c (ay_at hp' 194) (ay_at hp' 181) (ay_at hp' 174)
    rw [e0, e1, e2]
    exact hX
  | 33, [f, t, i, n, v, s], hX =>
    have hdl : [(64, 999), (51, 999), (44, 999)] = dl := Option.some.inj hdl
    subst hdl
    obtain ⟨x0, x1, x2, hX⟩ := hX
    have e0 : ay_at hp' 194 = ay_at hp 194 := ay_same hR x0 (g := 64) rfl (List.all_eq_true.mp hall (64, 999) (by simp))
    have e1 : ay_at hp' 181 = ay_at hp 181 := ay_same hR x1 (g := 51) rfl (List.all_eq_true.mp hall (51, 999) (by simp))
    have e2 : ay_at hp' 174 = ay_at hp 174 := ay_same hR x2 (g := 44) rfl (List.all_eq_true.mp hall (44, 999) (by simp))
    refine ⟨ay_ex_same hR x0 (g := 64) rfl, ay_ex_same hR x1 (g := 51) rfl, ay_ex_same hR x2 (g := 44) rfl, ?_⟩
    show ay_M33 1 f t i n v s (ay_at hp' 194) (ay_at hp' 181) (ay_at hp' 174)
    rw [e0, e1, e2]
    exact hX
  | 34, [f, t, i], hX =>
    have hdl : [(64, 999), (51, 999), (44, 999)] = dl := Option.some.inj hdl
    subst hdl
    obtain ⟨x0, x1, x2, hX⟩ := hX
    have e0 : ay_at hp' 194 = ay_at hp 194 := ay_same hR x0 (g := 64) rfl (List.all_eq_true.mp hall (64, 999) (by simp))
    have e1 : ay_at hp' 181 = ay_at hp 181 := ay_same hR x1 (g := 51) rfl (List.all_eq_true.mp hall (51, 999) (by simp))
    have e2 : ay_at hp' 174 = ay_at hp 174 := ay_same hR x2 (g := 44) rfl (List.all_eq_true.mp hall (44, 999) (by simp))
    refine ⟨ay_ex_same hR x0 (g := 64) rfl, ay_ex_same hR x1 (g := 51) rfl, ay_ex_same hR x2 (g := 44) rfl, ?_⟩
    show ay_M34 1 f t i (ay_at hp' 194) (ay_at hp' 181) (ay_at hp' 174)
    rw [e0, e1, e2]
    exact hX
  | 36, [n, k], hX =>
    have hdl : [(52, 999), (50, 1)] = dl := Option.some.inj hdl
    subst hdl
    obtain ⟨x0, x1, hX⟩ := hX
    have e0 : ay_at hp' 182 = ay_at hp 182 := ay_same hR x0 (g := 52) rfl (List.all_eq_true.mp hall (52, 999) (by simp))
    have e1 : ay_at hp' 180 1 = ay_at hp 180 1 := ay_same1 hR x1 (g := 50) rfl (List.all_eq_true.mp hall (50, 1) (by simp))
    refine ⟨ay_ex_same hR x0 (g := 52) rfl, ay_ex_same hR x1 (g := 50) rfl, ?_⟩
    show ay_M36 1 n k (ay_at hp' 182)
    rw [e0]
    exact hX
  | 40, [u, x, d, e, m], hX =>
    have hdl : [(55, 999), (11, 27), (52, 999), (50, 0), (49, 0), (11, 28)] = dl := Option.some.inj hdl
    subst hdl
    obtain ⟨x0, x1, x2, x3, x4, x5, hX⟩ := hX
    have e0 : ay_at hp' 185 = ay_at hp 185 := ay_same hR x0 (g := 55) rfl (List.all_eq_true.mp hall (55, 999) (by simp))
    have e1 : ay_at hp' 173 27 = ay_at hp 173 27 := ay_same1 hR x1 (g := 11) rfl (List.all_eq_true.mp hall (11, 27) (by simp))
    have e2 : ay_at hp' 182 = ay_at hp 182 := ay_same hR x2 (g := 52) rfl (List.all_eq_true.mp hall (52, 999) (by simp))
    have e3 : ay_at hp' 180 0 = ay_at hp 180 0 := ay_same1 hR x3 (g := 50) rfl (List.all_eq_true.mp hall (50, 0) (by simp))
    have e4 : ay_at hp' 179 0 = ay_at hp 179 0 := ay_same1 hR x4 (g := 49) rfl (List.all_eq_true.mp hall (49, 0) (by simp))
    have e5 : ay_at hp' 173 28 = ay_at hp 173 28 := ay_same1 hR x5 (g := 11) rfl (List.all_eq_true.mp hall (11, 28) (by simp))
    refine ⟨ay_ex_same hR x0 (g := 55) rfl, ay_ex_same hR x1 (g := 11) rfl, ay_ex_same hR x2 (g := 52) rfl, ay_ex_same hR x3 (g := 50) rfl, ay_ex_same hR x4 (g := 49) rfl, ay_ex_same hR x5 (g := 11) rfl, ?_⟩
    show ay_M40 0 u x d e m (ay_at hp' 185) (ay_at hp' 173 27) (ay_at hp' 182) (ay_at hp' 180 0) (ay_at hp' 179 0) (ay_at hp' 173 28)
    rw [e0, e1, e2, e3, e4, e5]
    exact hX
  | 42, [], hX =>
    have hdl : [(50, 0), (49, 0)] = dl := Option.some.inj hdl
    subst hdl
    obtain ⟨x0, x1, hX⟩ := hX
    have e0 : ay_at hp' 180 0 = ay_at hp 180 0 := ay_same1 hR x0 (g := 50) rfl (List.all_eq_true.mp hall (50, 0) (by simp))
    have e1 : ay_at hp' 179 0 = ay_at hp 179 0 := ay_same1 hR x1 (g := 49) rfl (List.all_eq_true.mp hall (49, 0) (by simp))
    refine ⟨ay_ex_same hR x0 (g := 50) rfl, ay_ex_same hR x1 (g := 49) rfl, ?_⟩
    show ay_M42 (ay_at hp' 180 0) (ay_at hp' 179 0)
    rw [e0, e1]
    exact hX
  | 50, [], hX =>
    have hdl : [(45, 0), (47, 0), (46, 0), (51, 999), (11, 18)] = dl := Option.some.inj hdl
    subst hdl
    obtain ⟨x0, x1, x2, x3, x4, hX⟩ := hX
    have e0 : ay_at hp' 175 0 = ay_at hp 175 0 := ay_same1 hR x0 (g := 45) rfl (List.all_eq_true.mp hall (45, 0) (by simp))
    have e1 : ay_at hp' 177 0 = ay_at hp 177 0 := ay_same1 hR x1 (g := 47) rfl (List.all_eq_true.mp hall (47, 0) (by simp))
    have e2 : ay_at hp' 176 0 = ay_at hp 176 0 := ay_same1 hR x2 (g := 46) rfl (List.all_eq_true.mp hall (46, 0) (by simp))
    have e3 : ay_at hp' 181 = ay_at hp 181 := ay_same hR x3 (g := 51) rfl (List.all_eq_true.mp hall (51, 999) (by simp))
    have e4 : ay_at hp' 173 18 = ay_at hp 173 18 := ay_same1 hR x4 (g := 11) rfl (List.all_eq_true.mp hall (11, 18) (by simp))
    refine ⟨ay_ex_same hR x0 (g := 45) rfl, ay_ex_same hR x1 (g := 47) rfl, ay_ex_same hR x2 (g := 46) rfl, ay_ex_same hR x3 (g := 51) rfl, ay_ex_same hR x4 (g := 11) rfl, ?_⟩
    show ay_M50 0 (ay_at hp' 175 0) (ay_at hp' 177 0) (ay_at hp' 176 0) (ay_at hp' 181) (ay_at hp' 173 18)
    rw [e0, e1, e2, e3, e4]
    exact hX
  | 52, [], hX =>
    have hdl : [(52, 999), (50, 0), (49, 0), (11, 18), (11, 24)] = dl := Option.some.inj hdl
    subst hdl
    obtain ⟨x0, x1, x2, x3, x4, hX⟩ := hX
    have e0 : ay_at hp' 182 = ay_at hp 182 := ay_same hR x0 (g := 52) rfl (List.all_eq_true.mp hall (52, 999) (by simp))
    have e1 : ay_at hp' 180 0 = ay_at hp 180 0 := ay_same1 hR x1 (g := 50) rfl (List.all_eq_true.mp hall (50, 0) (by simp))
    have e2 : ay_at hp' 179 0 = ay_at hp 179 0 := ay_same1 hR x2 (g := 49) rfl (List.all_eq_true.mp hall (49, 0) (by simp))
    have e3 : ay_at hp' 173 18 = ay_at hp 173 18 := ay_same1 hR x3 (g := 11) rfl (List.all_eq_true.mp hall (11, 18) (by simp))
    have e4 : ay_at hp' 173 24 = ay_at hp 173 24 := ay_same1 hR x4 (g := 11) rfl (List.all_eq_true.mp hall (11, 24) (by simp))
    refine ⟨ay_ex_same hR x0 (g := 52) rfl, ay_ex_same hR x1 (g := 50) rfl, ay_ex_same hR x2 (g := 49) rfl, ay_ex_same hR x3 (g := 11) rfl, ay_ex_same hR x4 (g := 11) rfl, ?_⟩
    show ay_M52 0 (ay_at hp' 182) (ay_at hp' 180 0) (ay_at hp' 179 0) (ay_at hp' 173 18) (ay_at hp' 173 24)
    rw [e0, e1, e2, e3, e4]
    exact hX
  | 53, [k, u], hX =>
    have hdl : [(49, 0), (11, 28)] = dl := Option.some.inj hdl
    subst hdl
    obtain ⟨x0, x1, hX⟩ := hX
    have e0 : ay_at hp' 179 0 = ay_at hp 179 0 := ay_same1 hR x0 (g := 49) rfl (List.all_eq_true.mp hall (49, 0) (by simp))
    have e1 : ay_at hp' 173 28 = ay_at hp 173 28 := ay_same1 hR x1 (g := 11) rfl (List.all_eq_true.mp hall (11, 28) (by simp))
    refine ⟨ay_ex_same hR x0 (g := 49) rfl, ay_ex_same hR x1 (g := 11) rfl, ?_⟩
    show ay_M53 k u (ay_at hp' 179 0) (ay_at hp' 173 28)
    rw [e0, e1]
    exact hX
  | 54, [k], hX =>
    have hdl : [(46, 0), (11, 23), (11, 24), (11, 25)] = dl := Option.some.inj hdl
    subst hdl
    obtain ⟨x0, x1, x2, x3, hX⟩ := hX
    have e0 : ay_at hp' 176 0 = ay_at hp 176 0 := ay_same1 hR x0 (g := 46) rfl (List.all_eq_true.mp hall (46, 0) (by simp))
    have e1 : ay_at hp' 173 23 = ay_at hp 173 23 := ay_same1 hR x1 (g := 11) rfl (List.all_eq_true.mp hall (11, 23) (by simp))
    have e2 : ay_at hp' 173 24 = ay_at hp 173 24 := ay_same1 hR x2 (g := 11) rfl (List.all_eq_true.mp hall (11, 24) (by simp))
    have e3 : ay_at hp' 173 25 = ay_at hp 173 25 := ay_same1 hR x3 (g := 11) rfl (List.all_eq_true.mp hall (11, 25) (by simp))
    refine ⟨ay_ex_same hR x0 (g := 46) rfl, ay_ex_same hR x1 (g := 11) rfl, ay_ex_same hR x2 (g := 11) rfl, ay_ex_same hR x3 (g := 11) rfl, ?_⟩
    show ay_M54 k (ay_at hp' 176 0) (ay_at hp' 173 23) (ay_at hp' 173 24) (ay_at hp' 173 25)
    rw [e0, e1, e2, e3]
    exact hX
  | 55, [k], hX =>
    have hdl : [(49, 0)] = dl := Option.some.inj hdl
    subst hdl
    obtain ⟨x0, hX⟩ := hX
    have e0 : ay_at hp' 179 0 = ay_at hp 179 0 := ay_same1 hR x0 (g := 49) rfl (List.all_eq_true.mp hall (49, 0) (by simp))
    refine ⟨ay_ex_same hR x0 (g := 49) rfl, ?_⟩
    show ay_M55 k (ay_at hp' 179 0)
    rw [e0]
    exact hX
  | 56, [k], hX =>
    have hdl : [(11, 27)] = dl := Option.some.inj hdl
    subst hdl
    obtain ⟨x0, hX⟩ := hX
    have e0 : ay_at hp' 173 27 = ay_at hp 173 27 := ay_same1 hR x0 (g := 11) rfl (List.all_eq_true.mp hall (11, 27) (by simp))
    refine ⟨ay_ex_same hR x0 (g := 11) rfl, ?_⟩
    show ay_M56 k (ay_at hp' 173 27)
    rw [e0]
    exact hX
  | 57, [], hX =>
    have hdl : [(11, 27), (55, 999)] = dl := Option.some.inj hdl
    subst hdl
    obtain ⟨x0, x1, hX⟩ := hX
    have e0 : ay_at hp' 173 27 = ay_at hp 173 27 := ay_same1 hR x0 (g := 11) rfl (List.all_eq_true.mp hall (11, 27) (by simp))
    have e1 : ay_at hp' 185 = ay_at hp 185 := ay_same hR x1 (g := 55) rfl (List.all_eq_true.mp hall (55, 999) (by simp))
    refine ⟨ay_ex_same hR x0 (g := 11) rfl, ay_ex_same hR x1 (g := 55) rfl, ?_⟩
    show ay_M57 (ay_at hp' 173 27) (ay_at hp' 185)
    rw [e0, e1]
    exact hX
  | 58, [], hX =>
    have hdl : [(11, 27), (55, 999)] = dl := Option.some.inj hdl
    subst hdl
    obtain ⟨x0, x1, hX⟩ := hX
    have e0 : ay_at hp' 173 27 = ay_at hp 173 27 := ay_same1 hR x0 (g := 11) rfl (List.all_eq_true.mp hall (11, 27) (by simp))
    have e1 : ay_at hp' 185 = ay_at hp 185 := ay_same hR x1 (g := 55) rfl (List.all_eq_true.mp hall (55, 999) (by simp))
    refine ⟨ay_ex_same hR x0 (g := 11) rfl, ay_ex_same hR x1 (g := 55) rfl, ?_⟩
    show ay_M58 (ay_at hp' 173 27) (ay_at hp' 185)
    rw [e0, e1]
    exact hX
  | 59, [], hX =>
    have hdl : [(11, 27), (55, 999)] = dl := Option.some.inj hdl
    subst hdl
    obtain ⟨x0, x1, hX⟩ := hX
    have e0 : ay_at hp' 173 27 = ay_at hp 173 27 := ay_same1 hR x0 (g := 11) rfl (List.all_eq_true.mp hall (11, 27) (by simp))
    have e1 : ay_at hp' 185 = ay_at hp 185 := ay_same hR x1 (g := 55) rfl (List.all_eq_true.mp hall (55, 999) (by simp))
    refine ⟨ay_ex_same hR x0 (g := 11) rfl, ay_ex_same hR x1 (g := 55) rfl, ?_⟩
    show ay_M59 (ay_at hp' 173 27) (ay_at hp' 185)
    rw [e0, e1]
    exact hX
  | 61, [], hX =>
    have hdl : [(11, 27), (55, 999)] = dl := Option.some.inj hdl
    subst hdl
    obtain ⟨x0, x1, hX⟩ := hX
    have e0 : ay_at hp' 173 27 = ay_at hp 173 27 := ay_same1 hR x0 (g := 11) rfl (List.all_eq_true.mp hall (11, 27) (by simp))
    have e1 : ay_at hp' 185 = ay_at hp 185 := ay_same hR x1 (g := 55) rfl (List.all_eq_true.mp hall (55, 999) (by simp))
    refine ⟨ay_ex_same hR x0 (g := 11) rfl, ay_ex_same hR x1 (g := 55) rfl, ?_⟩
    show ay_M61 (ay_at hp' 173 27) (ay_at hp' 185)
    rw [e0, e1]
    exact hX
  | 62, [], hX =>
    have hdl : [(11, 18), (11, 15), (11, 14), (11, 12), (53, 999)] = dl := Option.some.inj hdl
    subst hdl
    obtain ⟨x0, x1, x2, x3, x4, hX⟩ := hX
    have e0 : ay_at hp' 173 18 = ay_at hp 173 18 := ay_same1 hR x0 (g := 11) rfl (List.all_eq_true.mp hall (11, 18) (by simp))
    have e1 : ay_at hp' 173 15 = ay_at hp 173 15 := ay_same1 hR x1 (g := 11) rfl (List.all_eq_true.mp hall (11, 15) (by simp))
    have e2 : ay_at hp' 173 14 = ay_at hp 173 14 := ay_same1 hR x2 (g := 11) rfl (List.all_eq_true.mp hall (11, 14) (by simp))
    have e3 : ay_at hp' 173 12 = ay_at hp 173 12 := ay_same1 hR x3 (g := 11) rfl (List.all_eq_true.mp hall (11, 12) (by simp))
    have e4 : ay_at hp' 183 = ay_at hp 183 := ay_same hR x4 (g := 53) rfl (List.all_eq_true.mp hall (53, 999) (by simp))
    refine ⟨ay_ex_same hR x0 (g := 11) rfl, ay_ex_same hR x1 (g := 11) rfl, ay_ex_same hR x2 (g := 11) rfl, ay_ex_same hR x3 (g := 11) rfl, ay_ex_same hR x4 (g := 53) rfl, ?_⟩
    show ay_M62 (ay_at hp' 173 18) (ay_at hp' 173 15) (ay_at hp' 173 14) (ay_at hp' 173 12) (ay_at hp' 183)
    rw [e0, e1, e2, e3, e4]
    exact hX
  | 64, [], hX =>
    have hdl : [(51, 999), (46, 0), (45, 0)] = dl := Option.some.inj hdl
    subst hdl
    obtain ⟨x0, x1, x2, hX⟩ := hX
    have e0 : ay_at hp' 181 = ay_at hp 181 := ay_same hR x0 (g := 51) rfl (List.all_eq_true.mp hall (51, 999) (by simp))
    have e1 : ay_at hp' 176 0 = ay_at hp 176 0 := ay_same1 hR x1 (g := 46) rfl (List.all_eq_true.mp hall (46, 0) (by simp))
    have e2 : ay_at hp' 175 0 = ay_at hp 175 0 := ay_same1 hR x2 (g := 45) rfl (List.all_eq_true.mp hall (45, 0) (by simp))
    refine ⟨ay_ex_same hR x0 (g := 51) rfl, ay_ex_same hR x1 (g := 46) rfl, ay_ex_same hR x2 (g := 45) rfl, ?_⟩
    show ay_M64 0 (ay_at hp' 181) (ay_at hp' 176 0) (ay_at hp' 175 0)
    rw [e0, e1, e2]
    exact hX
  | 65, [], hX =>
    have hdl : [(51, 999), (46, 0), (45, 0)] = dl := Option.some.inj hdl
    subst hdl
    obtain ⟨x0, x1, x2, hX⟩ := hX
    have e0 : ay_at hp' 181 = ay_at hp 181 := ay_same hR x0 (g := 51) rfl (List.all_eq_true.mp hall (51, 999) (by simp))
    have e1 : ay_at hp' 176 0 = ay_at hp 176 0 := ay_same1 hR x1 (g := 46) rfl (List.all_eq_true.mp hall (46, 0) (by simp))
    have e2 : ay_at hp' 175 0 = ay_at hp 175 0 := ay_same1 hR x2 (g := 45) rfl (List.all_eq_true.mp hall (45, 0) (by simp))
    refine ⟨ay_ex_same hR x0 (g := 51) rfl, ay_ex_same hR x1 (g := 46) rfl, ay_ex_same hR x2 (g := 45) rfl, ?_⟩
    show ay_M65 0 (ay_at hp' 181) (ay_at hp' 176 0) (ay_at hp' 175 0)
    rw [e0, e1, e2]
    exact hX
  | 130, [g], hX =>
    have hdl : [(11, 11), (53, 999)] = dl := Option.some.inj hdl
    subst hdl
    obtain ⟨x0, x1, hX⟩ := hX
    have e0 : ay_at hp' 173 11 = ay_at hp 173 11 := ay_same1 hR x0 (g := 11) rfl (List.all_eq_true.mp hall (11, 11) (by simp))
    have e1 : ay_at hp' 183 = ay_at hp 183 := ay_same hR x1 (g := 53) rfl (List.all_eq_true.mp hall (53, 999) (by simp))
    refine ⟨ay_ex_same hR x0 (g := 11) rfl, ay_ex_same hR x1 (g := 53) rfl, ?_⟩
    show pz_x30 g (ay_at hp' 173 11) (ay_at hp' 183)
    rw [e0, e1]
    exact hX
  | 131, [g], hX =>
    have hdl : [(11, 12), (53, 999)] = dl := Option.some.inj hdl
    subst hdl
    obtain ⟨x0, x1, hX⟩ := hX
    have e0 : ay_at hp' 173 12 = ay_at hp 173 12 := ay_same1 hR x0 (g := 11) rfl (List.all_eq_true.mp hall (11, 12) (by simp))
    have e1 : ay_at hp' 183 = ay_at hp 183 := ay_same hR x1 (g := 53) rfl (List.all_eq_true.mp hall (53, 999) (by simp))
    refine ⟨ay_ex_same hR x0 (g := 11) rfl, ay_ex_same hR x1 (g := 53) rfl, ?_⟩
    show pz_x30 g (ay_at hp' 173 12) (ay_at hp' 183)
    rw [e0, e1]
    exact hX
  | 135, [g], hX =>
    have hdl : [(53, 999)] = dl := Option.some.inj hdl
    subst hdl
    obtain ⟨x0, hX⟩ := hX
    have e0 : ay_at hp' 183 = ay_at hp 183 := ay_same hR x0 (g := 53) rfl (List.all_eq_true.mp hall (53, 999) (by simp))
    refine ⟨ay_ex_same hR x0 (g := 53) rfl, ?_⟩
    show pz_y135 g (ay_at hp' 183)
    rw [e0]
    exact hX
  | 151, [g, n], hX =>
    have hdl : [(11, 13), (11, 14), (11, 15), (11, 16), (11, 17)] = dl := Option.some.inj hdl
    subst hdl
    obtain ⟨x0, x1, x2, x3, x4, hX⟩ := hX
    have e0 : ay_at hp' 173 13 = ay_at hp 173 13 := ay_same1 hR x0 (g := 11) rfl (List.all_eq_true.mp hall (11, 13) (by simp))
    have e1 : ay_at hp' 173 14 = ay_at hp 173 14 := ay_same1 hR x1 (g := 11) rfl (List.all_eq_true.mp hall (11, 14) (by simp))
    have e2 : ay_at hp' 173 15 = ay_at hp 173 15 := ay_same1 hR x2 (g := 11) rfl (List.all_eq_true.mp hall (11, 15) (by simp))
    have e3 : ay_at hp' 173 16 = ay_at hp 173 16 := ay_same1 hR x3 (g := 11) rfl (List.all_eq_true.mp hall (11, 16) (by simp))
    have e4 : ay_at hp' 173 17 = ay_at hp 173 17 := ay_same1 hR x4 (g := 11) rfl (List.all_eq_true.mp hall (11, 17) (by simp))
    refine ⟨ay_ex_same hR x0 (g := 11) rfl, ay_ex_same hR x1 (g := 11) rfl, ay_ex_same hR x2 (g := 11) rfl, ay_ex_same hR x3 (g := 11) rfl, ay_ex_same hR x4 (g := 11) rfl, ?_⟩
    show pz_y151 g n (ay_at hp' 173 13) (ay_at hp' 173 14) (ay_at hp' 173 15) (ay_at hp' 173 16) (ay_at hp' 173 17)
    rw [e0, e1, e2, e3, e4]
    exact hX
  | 152, [g, n], hX =>
    have hdl : [(45, 0), (46, 0), (47, 0), (48, 0), (49, 0), (11, 23), (11, 25), (11, 24), (11, 18), (11, 19), (51, 999)] = dl := Option.some.inj hdl
    subst hdl
    obtain ⟨x0, x1, x2, x3, x4, x5, x6, x7, x8, x9, x10, hX⟩ := hX
    have e0 : ay_at hp' 175 0 = ay_at hp 175 0 := ay_same1 hR x0 (g := 45) rfl (List.all_eq_true.mp hall (45, 0) (by simp))
    have e1 : ay_at hp' 176 0 = ay_at hp 176 0 := ay_same1 hR x1 (g := 46) rfl (List.all_eq_true.mp hall (46, 0) (by simp))
    have e2 : ay_at hp' 177 0 = ay_at hp 177 0 := ay_same1 hR x2 (g := 47) rfl (List.all_eq_true.mp hall (47, 0) (by simp))
    have e3 : ay_at hp' 178 0 = ay_at hp 178 0 := ay_same1 hR x3 (g := 48) rfl (List.all_eq_true.mp hall (48, 0) (by simp))
    have e4 : ay_at hp' 179 0 = ay_at hp 179 0 := ay_same1 hR x4 (g := 49) rfl (List.all_eq_true.mp hall (49, 0) (by simp))
    have e5 : ay_at hp' 173 23 = ay_at hp 173 23 := ay_same1 hR x5 (g := 11) rfl (List.all_eq_true.mp hall (11, 23) (by simp))
    have e6 : ay_at hp' 173 25 = ay_at hp 173 25 := ay_same1 hR x6 (g := 11) rfl (List.all_eq_true.mp hall (11, 25) (by simp))
    have e7 : ay_at hp' 173 24 = ay_at hp 173 24 := ay_same1 hR x7 (g := 11) rfl (List.all_eq_true.mp hall (11, 24) (by simp))
    have e8 : ay_at hp' 173 18 = ay_at hp 173 18 := ay_same1 hR x8 (g := 11) rfl (List.all_eq_true.mp hall (11, 18) (by simp))
    have e9 : ay_at hp' 173 19 = ay_at hp 173 19 := ay_same1 hR x9 (g := 11) rfl (List.all_eq_true.mp hall (11, 19) (by simp))
    have e10 : ay_at hp' 181 = ay_at hp 181 := ay_same hR x10 (g := 51) rfl (List.all_eq_true.mp hall (51, 999) (by simp))
    refine ⟨ay_ex_same hR x0 (g := 45) rfl, ay_ex_same hR x1 (g := 46) rfl, ay_ex_same hR x2 (g := 47) rfl, ay_ex_same hR x3 (g := 48) rfl, ay_ex_same hR x4 (g := 49) rfl, ay_ex_same hR x5 (g := 11) rfl, ay_ex_same hR x6 (g := 11) rfl, ay_ex_same hR x7 (g := 11) rfl, ay_ex_same hR x8 (g := 11) rfl, ay_ex_same hR x9 (g := 11) rfl, ay_ex_same hR x10 (g := 51) rfl, ?_⟩
    show pz_y152 0 g n (ay_at hp' 175 0) (ay_at hp' 176 0) (ay_at hp' 177 0) (ay_at hp' 178 0) (ay_at hp' 179 0) (ay_at hp' 173 23) (ay_at hp' 173 25) (ay_at hp' 173 24) (ay_at hp' 173 18) (ay_at hp' 173 19) (ay_at hp' 181)
    rw [e0, e1, e2, e3, e4, e5, e6, e7, e8, e9, e10]
    exact hX
  | 153, [g, n], hX =>
    have hdl : [(11, 13)] = dl := Option.some.inj hdl
    subst hdl
    obtain ⟨x0, hX⟩ := hX
    have e0 : ay_at hp' 173 13 = ay_at hp 173 13 := ay_same1 hR x0 (g := 11) rfl (List.all_eq_true.mp hall (11, 13) (by simp))
    refine ⟨ay_ex_same hR x0 (g := 11) rfl, ?_⟩
    show pz_at (pz_gt g) (pz_gN g) (ay_ln (ay_at hp' 173 13)) = pz_at (pz_gt g) (pz_gN g) (pz_p (pz_cF g n))
    rw [e0]
    exact hX
  | 154, [g, n], hX =>
    have hdl : [(11, 14)] = dl := Option.some.inj hdl
    subst hdl
    obtain ⟨x0, hX⟩ := hX
    have e0 : ay_at hp' 173 14 = ay_at hp 173 14 := ay_same1 hR x0 (g := 11) rfl (List.all_eq_true.mp hall (11, 14) (by simp))
    refine ⟨ay_ex_same hR x0 (g := 11) rfl, ?_⟩
    show ay_ln (ay_at hp' 173 14) = pz_at (pz_gt g) (pz_gN g) (pz_p (pz_cF g n))
    rw [e0]
    exact hX
  | 155, [g, n], hX =>
    have hdl : [(11, 13)] = dl := Option.some.inj hdl
    subst hdl
    obtain ⟨x0, hX⟩ := hX
    have e0 : ay_at hp' 173 13 = ay_at hp 173 13 := ay_same1 hR x0 (g := 11) rfl (List.all_eq_true.mp hall (11, 13) (by simp))
    refine ⟨ay_ex_same hR x0 (g := 11) rfl, ?_⟩
    show pz_e pz_lt (pz_gt g) (pz_gN g) (ay_ln (ay_at hp' 173 13)) = pz_nx (pz_gt g) (pz_gN g) (pz_p (pz_cF g n))
    rw [e0]
    exact hX
  | 156, [g, n], hX =>
    have hdl : [(11, 13)] = dl := Option.some.inj hdl
    subst hdl
    obtain ⟨x0, hX⟩ := hX
    have e0 : ay_at hp' 173 13 = ay_at hp 173 13 := ay_same1 hR x0 (g := 11) rfl (List.all_eq_true.mp hall (11, 13) (by simp))
    refine ⟨ay_ex_same hR x0 (g := 11) rfl, ?_⟩
    show ay_ln (ay_at hp' 173 13) = pz_nx (pz_gt g) (pz_gN g) (pz_p (pz_cF g n))
    rw [e0]
    exact hX
  | 157, [g, n], hX =>
    have hdl : [(11, 14)] = dl := Option.some.inj hdl
    subst hdl
    obtain ⟨x0, hX⟩ := hX
    have e0 : ay_at hp' 173 14 = ay_at hp 173 14 := ay_same1 hR x0 (g := 11) rfl (List.all_eq_true.mp hall (11, 14) (by simp))
    refine ⟨ay_ex_same hR x0 (g := 11) rfl, ?_⟩
    show pz_at (pz_gt g) (pz_gN g) (ay_ln (ay_at hp' 173 14)) = pz_at (pz_gt g) (pz_gN g) (pz_p (pz_cF g n))
    rw [e0]
    exact hX
  | 158, [g, n], hX =>
    have hdl : [(11, 13), (11, 16)] = dl := Option.some.inj hdl
    subst hdl
    obtain ⟨x0, x1, hX⟩ := hX
    have e0 : ay_at hp' 173 13 = ay_at hp 173 13 := ay_same1 hR x0 (g := 11) rfl (List.all_eq_true.mp hall (11, 13) (by simp))
    have e1 : ay_at hp' 173 16 = ay_at hp 173 16 := ay_same1 hR x1 (g := 11) rfl (List.all_eq_true.mp hall (11, 16) (by simp))
    refine ⟨ay_ex_same hR x0 (g := 11) rfl, ay_ex_same hR x1 (g := 11) rfl, ?_⟩
    show pz_y158 g n (ay_at hp' 173 13) (ay_at hp' 173 16)
    rw [e0, e1]
    exact hX
  | 159, [g, n], hX =>
    have hdl : [(11, 13), (11, 16)] = dl := Option.some.inj hdl
    subst hdl
    obtain ⟨x0, x1, hX⟩ := hX
    have e0 : ay_at hp' 173 13 = ay_at hp 173 13 := ay_same1 hR x0 (g := 11) rfl (List.all_eq_true.mp hall (11, 13) (by simp))
    have e1 : ay_at hp' 173 16 = ay_at hp 173 16 := ay_same1 hR x1 (g := 11) rfl (List.all_eq_true.mp hall (11, 16) (by simp))
    refine ⟨ay_ex_same hR x0 (g := 11) rfl, ay_ex_same hR x1 (g := 11) rfl, ?_⟩
    show pz_y159 g n (ay_at hp' 173 13) (ay_at hp' 173 16)
    rw [e0, e1]
    exact hX
  | 163, [g], hX =>
    have hdl : [(11, 18), (11, 19)] = dl := Option.some.inj hdl
    subst hdl
    obtain ⟨x0, x1, hX⟩ := hX
    have e0 : ay_at hp' 173 18 = ay_at hp 173 18 := ay_same1 hR x0 (g := 11) rfl (List.all_eq_true.mp hall (11, 18) (by simp))
    have e1 : ay_at hp' 173 19 = ay_at hp 173 19 := ay_same1 hR x1 (g := 11) rfl (List.all_eq_true.mp hall (11, 19) (by simp))
    refine ⟨ay_ex_same hR x0 (g := 11) rfl, ay_ex_same hR x1 (g := 11) rfl, ?_⟩
    show pz63 (pz_gt g) (pz_gN g) (ay_ln (ay_at hp' 173 18)) (ay_ln (ay_at hp' 173 19))
    rw [e0, e1]
    exact hX
  | 165, [g, n, k], hX =>
    have hdl : [(11, 14), (11, 18)] = dl := Option.some.inj hdl
    subst hdl
    obtain ⟨x0, x1, hX⟩ := hX
    have e0 : ay_at hp' 173 14 = ay_at hp 173 14 := ay_same1 hR x0 (g := 11) rfl (List.all_eq_true.mp hall (11, 14) (by simp))
    have e1 : ay_at hp' 173 18 = ay_at hp 173 18 := ay_same1 hR x1 (g := 11) rfl (List.all_eq_true.mp hall (11, 18) (by simp))
    refine ⟨ay_ex_same hR x0 (g := 11) rfl, ay_ex_same hR x1 (g := 11) rfl, ?_⟩
    show pz_y165 g n k (ay_at hp' 173 14) (ay_at hp' 173 18)
    rw [e0, e1]
    exact hX
  | 195, [s], hX =>
    have hdl : [(11, 28)] = dl := Option.some.inj hdl
    subst hdl
    obtain ⟨x0, hX⟩ := hX
    have e0 : ay_at hp' 173 28 = ay_at hp 173 28 := ay_same1 hR x0 (g := 11) rfl (List.all_eq_true.mp hall (11, 28) (by simp))
    refine ⟨ay_ex_same hR x0 (g := 11) rfl, ?_⟩
    show ay_ln (ay_at hp' 173 28) = pz_dp (s / 4)
    rw [e0]
    exact hX
  | 196, [s], hX =>
    have hdl : [(11, 27), (55, 999)] = dl := Option.some.inj hdl
    subst hdl
    obtain ⟨x0, x1, hX⟩ := hX
    have e0 : ay_at hp' 173 27 = ay_at hp 173 27 := ay_same1 hR x0 (g := 11) rfl (List.all_eq_true.mp hall (11, 27) (by simp))
    have e1 : ay_at hp' 185 = ay_at hp 185 := ay_same hR x1 (g := 55) rfl (List.all_eq_true.mp hall (55, 999) (by simp))
    refine ⟨ay_ex_same hR x0 (g := 11) rfl, ay_ex_same hR x1 (g := 55) rfl, ?_⟩
    show pz_y196 s (ay_at hp' 173 27) (ay_at hp' 185)
    rw [e0, e1]
    exact hX
  | 210, [g], hX =>
    have hdl : [(45, 0), (46, 0), (47, 0), (48, 0), (49, 0), (11, 23), (11, 25), (11, 24), (11, 18), (11, 19), (51, 999)] = dl := Option.some.inj hdl
    subst hdl
    obtain ⟨x0, x1, x2, x3, x4, x5, x6, x7, x8, x9, x10, hX⟩ := hX
    have e0 : ay_at hp' 175 0 = ay_at hp 175 0 := ay_same1 hR x0 (g := 45) rfl (List.all_eq_true.mp hall (45, 0) (by simp))
    have e1 : ay_at hp' 176 0 = ay_at hp 176 0 := ay_same1 hR x1 (g := 46) rfl (List.all_eq_true.mp hall (46, 0) (by simp))
    have e2 : ay_at hp' 177 0 = ay_at hp 177 0 := ay_same1 hR x2 (g := 47) rfl (List.all_eq_true.mp hall (47, 0) (by simp))
    have e3 : ay_at hp' 178 0 = ay_at hp 178 0 := ay_same1 hR x3 (g := 48) rfl (List.all_eq_true.mp hall (48, 0) (by simp))
    have e4 : ay_at hp' 179 0 = ay_at hp 179 0 := ay_same1 hR x4 (g := 49) rfl (List.all_eq_true.mp hall (49, 0) (by simp))
    have e5 : ay_at hp' 173 23 = ay_at hp 173 23 := ay_same1 hR x5 (g := 11) rfl (List.all_eq_true.mp hall (11, 23) (by simp))
    have e6 : ay_at hp' 173 25 = ay_at hp 173 25 := ay_same1 hR x6 (g := 11) rfl (List.all_eq_true.mp hall (11, 25) (by simp))
    have e7 : ay_at hp' 173 24 = ay_at hp 173 24 := ay_same1 hR x7 (g := 11) rfl (List.all_eq_true.mp hall (11, 24) (by simp))
    have e8 : ay_at hp' 173 18 = ay_at hp 173 18 := ay_same1 hR x8 (g := 11) rfl (List.all_eq_true.mp hall (11, 18) (by simp))
    have e9 : ay_at hp' 173 19 = ay_at hp 173 19 := ay_same1 hR x9 (g := 11) rfl (List.all_eq_true.mp hall (11, 19) (by simp))
    have e10 : ay_at hp' 181 = ay_at hp 181 := ay_same hR x10 (g := 51) rfl (List.all_eq_true.mp hall (51, 999) (by simp))
    refine ⟨ay_ex_same hR x0 (g := 45) rfl, ay_ex_same hR x1 (g := 46) rfl, ay_ex_same hR x2 (g := 47) rfl, ay_ex_same hR x3 (g := 48) rfl, ay_ex_same hR x4 (g := 49) rfl, ay_ex_same hR x5 (g := 11) rfl, ay_ex_same hR x6 (g := 11) rfl, ay_ex_same hR x7 (g := 11) rfl, ay_ex_same hR x8 (g := 11) rfl, ay_ex_same hR x9 (g := 11) rfl, ay_ex_same hR x10 (g := 51) rfl, ?_⟩
    show pz110 (pz_gt g) (pz_gN g) (ay_ln (ay_at hp' 175 0)) (ay_ln (ay_at hp' 176 0)) (ay_ln (ay_at hp' 177 0)) (ay_ln (ay_at hp' 178 0)) (ay_ln (ay_at hp' 179 0)) (ay_ln (ay_at hp' 173 23)) (ay_ln (ay_at hp' 173 25)) (ay_ln (ay_at hp' 173 24)) (ay_ln (ay_at hp' 173 18)) (ay_ln (ay_at hp' 173 19)) (pz_be 0 (ay_at hp' 181)) (pz_fi 0 (ay_at hp' 181))
    rw [e0, e1, e2, e3, e4, e5, e6, e7, e8, e9, e10]
    exact hX
  | 216, [g, n, a, e, l], hX =>
    have hdl : [(45, 0), (46, 0), (47, 0), (48, 0), (49, 0), (11, 23), (11, 25), (11, 24), (11, 18), (11, 19), (51, 999)] = dl := Option.some.inj hdl
    subst hdl
    obtain ⟨x0, x1, x2, x3, x4, x5, x6, x7, x8, x9, x10, hX⟩ := hX
    have e0 : ay_at hp' 175 0 = ay_at hp 175 0 := ay_same1 hR x0 (g := 45) rfl (List.all_eq_true.mp hall (45, 0) (by simp))
    have e1 : ay_at hp' 176 0 = ay_at hp 176 0 := ay_same1 hR x1 (g := 46) rfl (List.all_eq_true.mp hall (46, 0) (by simp))
    have e2 : ay_at hp' 177 0 = ay_at hp 177 0 := ay_same1 hR x2 (g := 47) rfl (List.all_eq_true.mp hall (47, 0) (by simp))
    have e3 : ay_at hp' 178 0 = ay_at hp 178 0 := ay_same1 hR x3 (g := 48) rfl (List.all_eq_true.mp hall (48, 0) (by simp))
    have e4 : ay_at hp' 179 0 = ay_at hp 179 0 := ay_same1 hR x4 (g := 49) rfl (List.all_eq_true.mp hall (49, 0) (by simp))
    have e5 : ay_at hp' 173 23 = ay_at hp 173 23 := ay_same1 hR x5 (g := 11) rfl (List.all_eq_true.mp hall (11, 23) (by simp))
    have e6 : ay_at hp' 173 25 = ay_at hp 173 25 := ay_same1 hR x6 (g := 11) rfl (List.all_eq_true.mp hall (11, 25) (by simp))
    have e7 : ay_at hp' 173 24 = ay_at hp 173 24 := ay_same1 hR x7 (g := 11) rfl (List.all_eq_true.mp hall (11, 24) (by simp))
    have e8 : ay_at hp' 173 18 = ay_at hp 173 18 := ay_same1 hR x8 (g := 11) rfl (List.all_eq_true.mp hall (11, 18) (by simp))
    have e9 : ay_at hp' 173 19 = ay_at hp 173 19 := ay_same1 hR x9 (g := 11) rfl (List.all_eq_true.mp hall (11, 19) (by simp))
    have e10 : ay_at hp' 181 = ay_at hp 181 := ay_same hR x10 (g := 51) rfl (List.all_eq_true.mp hall (51, 999) (by simp))
    refine ⟨ay_ex_same hR x0 (g := 45) rfl, ay_ex_same hR x1 (g := 46) rfl, ay_ex_same hR x2 (g := 47) rfl, ay_ex_same hR x3 (g := 48) rfl, ay_ex_same hR x4 (g := 49) rfl, ay_ex_same hR x5 (g := 11) rfl, ay_ex_same hR x6 (g := 11) rfl, ay_ex_same hR x7 (g := 11) rfl, ay_ex_same hR x8 (g := 11) rfl, ay_ex_same hR x9 (g := 11) rfl, ay_ex_same hR x10 (g := 51) rfl, ?_⟩
    show pz_yal 1 0 g n a e l (ay_at hp' 175 0) (ay_at hp' 176 0) (ay_at hp' 177 0) (ay_at hp' 178 0) (ay_at hp' 179 0) (ay_at hp' 173 23) (ay_at hp' 173 25) (ay_at hp' 173 24) (ay_at hp' 173 18) (ay_at hp' 173 19) (ay_at hp' 181)
    rw [e0, e1, e2, e3, e4, e5, e6, e7, e8, e9, e10]
    exact hX
  | 217, [g, n, a, e, l], hX =>
    have hdl : [(45, 0), (46, 0), (47, 0), (48, 0), (49, 0), (11, 23), (11, 25), (11, 24), (11, 18), (11, 19), (51, 999)] = dl := Option.some.inj hdl
    subst hdl
    obtain ⟨x0, x1, x2, x3, x4, x5, x6, x7, x8, x9, x10, hX⟩ := hX
    have e0 : ay_at hp' 175 0 = ay_at hp 175 0 := ay_same1 hR x0 (g := 45) rfl (List.all_eq_true.mp hall (45, 0) (by simp))
    have e1 : ay_at hp' 176 0 = ay_at hp 176 0 := ay_same1 hR x1 (g := 46) rfl (List.all_eq_true.mp hall (46, 0) (by simp))
    have e2 : ay_at hp' 177 0 = ay_at hp 177 0 := ay_same1 hR x2 (g := 47) rfl (List.all_eq_true.mp hall (47, 0) (by simp))
    have e3 : ay_at hp' 178 0 = ay_at hp 178 0 := ay_same1 hR x3 (g := 48) rfl (List.all_eq_true.mp hall (48, 0) (by simp))
    have e4 : ay_at hp' 179 0 = ay_at hp 179 0 := ay_same1 hR x4 (g := 49) rfl (List.all_eq_true.mp hall (49, 0) (by simp))
    have e5 : ay_at hp' 173 23 = ay_at hp 173 23 := ay_same1 hR x5 (g := 11) rfl (List.all_eq_true.mp hall (11, 23) (by simp))
    have e6 : ay_at hp' 173 25 = ay_at hp 173 25 := ay_same1 hR x6 (g := 11) rfl (List.all_eq_true.mp hall (11, 25) (by simp))
    have e7 : ay_at hp' 173 24 = ay_at hp 173 24 := ay_same1 hR x7 (g := 11) rfl (List.all_eq_true.mp hall (11, 24) (by simp))
    have e8 : ay_at hp' 173 18 = ay_at hp 173 18 := ay_same1 hR x8 (g := 11) rfl (List.all_eq_true.mp hall (11, 18) (by simp))
    have e9 : ay_at hp' 173 19 = ay_at hp 173 19 := ay_same1 hR x9 (g := 11) rfl (List.all_eq_true.mp hall (11, 19) (by simp))
    have e10 : ay_at hp' 181 = ay_at hp 181 := ay_same hR x10 (g := 51) rfl (List.all_eq_true.mp hall (51, 999) (by simp))
    refine ⟨ay_ex_same hR x0 (g := 45) rfl, ay_ex_same hR x1 (g := 46) rfl, ay_ex_same hR x2 (g := 47) rfl, ay_ex_same hR x3 (g := 48) rfl, ay_ex_same hR x4 (g := 49) rfl, ay_ex_same hR x5 (g := 11) rfl, ay_ex_same hR x6 (g := 11) rfl, ay_ex_same hR x7 (g := 11) rfl, ay_ex_same hR x8 (g := 11) rfl, ay_ex_same hR x9 (g := 11) rfl, ay_ex_same hR x10 (g := 51) rfl, ?_⟩
    show pz_yal 2 0 g n a e l (ay_at hp' 175 0) (ay_at hp' 176 0) (ay_at hp' 177 0) (ay_at hp' 178 0) (ay_at hp' 179 0) (ay_at hp' 173 23) (ay_at hp' 173 25) (ay_at hp' 173 24) (ay_at hp' 173 18) (ay_at hp' 173 19) (ay_at hp' 181)
    rw [e0, e1, e2, e3, e4, e5, e6, e7, e8, e9, e10]
    exact hX
  | 222, [g, n], hX =>
    have hdl : [(11, 23)] = dl := Option.some.inj hdl
    subst hdl
    obtain ⟨x0, hX⟩ := hX
    have e0 : ay_at hp' 173 23 = ay_at hp 173 23 := ay_same1 hR x0 (g := 11) rfl (List.all_eq_true.mp hall (11, 23) (by simp))
    refine ⟨ay_ex_same hR x0 (g := 11) rfl, ?_⟩
    show (pz61 (pz_gt g) (pz_gN g) (n / 4) 2 ∨ ay_ln (ay_at hp' 173 23) = 1)
    rw [e0]
    exact hX
  | 223, [g, n], hX =>
    have hdl : [(11, 25)] = dl := Option.some.inj hdl
    subst hdl
    obtain ⟨x0, hX⟩ := hX
    have e0 : ay_at hp' 173 25 = ay_at hp 173 25 := ay_same1 hR x0 (g := 11) rfl (List.all_eq_true.mp hall (11, 25) (by simp))
    refine ⟨ay_ex_same hR x0 (g := 11) rfl, ?_⟩
    show (pz61 (pz_gt g) (pz_gN g) (n / 4) 3 ∨ ay_ln (ay_at hp' 173 25) = 1)
    rw [e0]
    exact hX
  | 224, [g, n], hX =>
    have hdl : [(11, 24)] = dl := Option.some.inj hdl
    subst hdl
    obtain ⟨x0, hX⟩ := hX
    have e0 : ay_at hp' 173 24 = ay_at hp 173 24 := ay_same1 hR x0 (g := 11) rfl (List.all_eq_true.mp hall (11, 24) (by simp))
    refine ⟨ay_ex_same hR x0 (g := 11) rfl, ?_⟩
    show (pz61 (pz_gt g) (pz_gN g) (n / 4) 4 ∨ ay_ln (ay_at hp' 173 24) = 1)
    rw [e0]
    exact hX
  | 227, [], hX =>
    have hdl : [(11, 20), (11, 21)] = dl := Option.some.inj hdl
    subst hdl
    obtain ⟨x0, x1, hX⟩ := hX
    have e0 : ay_at hp' 173 20 = ay_at hp 173 20 := ay_same1 hR x0 (g := 11) rfl (List.all_eq_true.mp hall (11, 20) (by simp))
    have e1 : ay_at hp' 173 21 = ay_at hp 173 21 := ay_same1 hR x1 (g := 11) rfl (List.all_eq_true.mp hall (11, 21) (by simp))
    refine ⟨ay_ex_same hR x0 (g := 11) rfl, ay_ex_same hR x1 (g := 11) rfl, ?_⟩
    show (ay_ln (ay_at hp' 173 20) = 0 ∧ ay_ln (ay_at hp' 173 21) = 4294967295)
    rw [e0, e1]
    exact hX
  | 228, [g], hX =>
    have hdl : [(11, 20), (11, 21)] = dl := Option.some.inj hdl
    subst hdl
    obtain ⟨x0, x1, hX⟩ := hX
    have e0 : ay_at hp' 173 20 = ay_at hp 173 20 := ay_same1 hR x0 (g := 11) rfl (List.all_eq_true.mp hall (11, 20) (by simp))
    have e1 : ay_at hp' 173 21 = ay_at hp 173 21 := ay_same1 hR x1 (g := 11) rfl (List.all_eq_true.mp hall (11, 21) (by simp))
    refine ⟨ay_ex_same hR x0 (g := 11) rfl, ay_ex_same hR x1 (g := 11) rfl, ?_⟩
    show pz63 (pz_gt g) (pz_gN g) (ay_ln (ay_at hp' 173 20)) (ay_ln (ay_at hp' 173 21))
    rw [e0, e1]
    exact hX
  | 241, [l], hX =>
    have hdl : [(50, 0), (52, 999)] = dl := Option.some.inj hdl
    subst hdl
    obtain ⟨x0, x1, hX⟩ := hX
    have e0 : ay_at hp' 180 0 = ay_at hp 180 0 := ay_same1 hR x0 (g := 50) rfl (List.all_eq_true.mp hall (50, 0) (by simp))
    have e1 : ay_at hp' 182 = ay_at hp 182 := ay_same hR x1 (g := 52) rfl (List.all_eq_true.mp hall (52, 999) (by simp))
    refine ⟨ay_ex_same hR x0 (g := 50) rfl, ay_ex_same hR x1 (g := 52) rfl, ?_⟩
    show py_y241 0 l (ay_at hp' 180 0) (ay_at hp' 182)
    rw [e0, e1]
    exact hX
  | 242, [s], hX =>
    have hdl : [(11, 27), (55, 999)] = dl := Option.some.inj hdl
    subst hdl
    obtain ⟨x0, x1, hX⟩ := hX
    have e0 : ay_at hp' 173 27 = ay_at hp 173 27 := ay_same1 hR x0 (g := 11) rfl (List.all_eq_true.mp hall (11, 27) (by simp))
    have e1 : ay_at hp' 185 = ay_at hp 185 := ay_same hR x1 (g := 55) rfl (List.all_eq_true.mp hall (55, 999) (by simp))
    refine ⟨ay_ex_same hR x0 (g := 11) rfl, ay_ex_same hR x1 (g := 55) rfl, ?_⟩
    show py_y242 s (ay_at hp' 173 27) (ay_at hp' 185)
    rw [e0, e1]
    exact hX
  | 243, [l, c], hX =>
    have hdl : [(50, 0), (52, 999)] = dl := Option.some.inj hdl
    subst hdl
    obtain ⟨x0, x1, hX⟩ := hX
    have e0 : ay_at hp' 180 0 = ay_at hp 180 0 := ay_same1 hR x0 (g := 50) rfl (List.all_eq_true.mp hall (50, 0) (by simp))
    have e1 : ay_at hp' 182 = ay_at hp 182 := ay_same hR x1 (g := 52) rfl (List.all_eq_true.mp hall (52, 999) (by simp))
    refine ⟨ay_ex_same hR x0 (g := 50) rfl, ay_ex_same hR x1 (g := 52) rfl, ?_⟩
    show py_y243 0 l c (ay_at hp' 180 0) (ay_at hp' 182)
    rw [e0, e1]
    exact hX
  | 254, [s, r], hX =>
    have hdl : [(11, 27), (55, 999)] = dl := Option.some.inj hdl
    subst hdl
    obtain ⟨x0, x1, hX⟩ := hX
    have e0 : ay_at hp' 173 27 = ay_at hp 173 27 := ay_same1 hR x0 (g := 11) rfl (List.all_eq_true.mp hall (11, 27) (by simp))
    have e1 : ay_at hp' 185 = ay_at hp 185 := ay_same hR x1 (g := 55) rfl (List.all_eq_true.mp hall (55, 999) (by simp))
    refine ⟨ay_ex_same hR x0 (g := 11) rfl, ay_ex_same hR x1 (g := 55) rfl, ?_⟩
    show py_y254 s r (ay_at hp' 173 27) (ay_at hp' 185)
    rw [e0, e1]
    exact hX
  | 134, [g, p, q, u, v, w, k, r], hX => exact hX
  | 136, [g, p, q, u, v, w, k, r], hX => exact hX
  | 137, [g, p, q, u, v, w, r], hX => exact hX
  | 138, [g, n, r], hX => exact hX
  | 139, [g, s], hX => exact hX
  | 160, [g, n, w], hX => exact hX
  | 161, [g, n, w], hX => exact hX
  | 162, [g, n, w, v], hX => exact hX
  | 164, [g, n, k], hX => exact hX
  | 166, [g, n, v], hX => exact hX
  | 167, [g, n, a], hX => exact hX
  | 168, [g, n, k], hX => exact hX
  | 169, [g, n, k], hX => exact hX
  | 170, [g, n], hX => exact hX
  | 171, [g, n], hX => exact hX
  | 172, [g, n], hX => exact hX
  | 173, [g, n], hX => exact hX
  | 174, [g, n], hX => exact hX
  | 175, [g, n], hX => exact hX
  | 176, [g, n], hX => exact hX
  | 177, [g, n], hX => exact hX
  | 178, [g, n], hX => exact hX
  | 179, [g, n], hX => exact hX
  | 180, [g, n, s, u], hX => exact hX
  | 181, [g, n], hX => exact hX
  | 182, [n, m], hX => exact hX
  | 187, [g, n, s], hX => exact hX
  | 188, [g, n, s], hX => exact hX
  | 189, [s], hX => exact hX
  | 190, [g, n, s], hX => exact hX
  | 192, [s, r], hX => exact hX
  | 193, [r, s], hX => exact hX
  | 194, [g, n], hX => exact hX
  | 197, [g, n, s], hX => exact hX
  | 198, [g, n], hX => exact hX
  | 199, [g, n, s], hX => exact hX
  | 203, [g, n, m], hX => exact hX
  | 204, [g, n, v], hX => exact hX
  | 207, [g, n, o], hX => exact hX
  | 208, [s, r], hX => exact hX
  | 209, [s, r], hX => exact hX
  | 211, [g, n], hX => exact hX
  | 212, [g, n, w, i], hX => exact hX
  | 213, [g, n, a, e], hX => exact hX
  | 214, [g, n, a, e], hX => exact hX
  | 215, [g, n, a, e, i], hX => exact hX
  | 226, [g, v], hX => exact hX
  | 246, [g, n, s, l], hX => exact hX
  | 247, [g, n, s, l], hX => exact hX
  | 248, [g, n, l], hX => exact hX
  | 249, [p, q, s, l], hX => exact hX
  | 250, [c, p, q, s, l], hX => exact hX
  | 251, [r, c, s], hX => exact hX
  | 253, [p, q, s, l], hX => exact hX
  | 256, [s, c], hX => exact hX
  | 257, [g, n, s, l, c], hX => exact hX
  | 258, [g, n, c, s, l], hX => exact hX
  | 259, [g, n, c], hX => exact hX
  | 260, [c, p, q, s, l], hX => exact hX
  | 261, [g, n, l], hX => exact hX
  | 262, [g, l], hX => exact hX
  | 6, [k, s, n], hX => exact hX
  | 7, [k, s], hX => exact hX
  | 0, [], _ => trivial
  | 0, _ :: _ :: _, _ => trivial
  | 1, _ :: _, _ => trivial
  | 2, _ :: _, _ => trivial
  | 3, _ :: _, _ => trivial
  | 4, [], _ => trivial
  | 4, _ :: _ :: _, _ => trivial
  | 5, [], _ => trivial
  | 5, [_], _ => trivial
  | 5, _ :: _ :: _ :: _, _ => trivial
  | 6, [], _ => trivial
  | 6, [_], _ => trivial
  | 6, [_, _], _ => trivial
  | 6, _ :: _ :: _ :: _ :: _, _ => trivial
  | 7, [], _ => trivial
  | 7, [_], _ => trivial
  | 7, _ :: _ :: _ :: _, _ => trivial
  | 8, [], _ => trivial
  | 8, [_], _ => trivial
  | 8, _ :: _ :: _ :: _, _ => trivial
  | 9, [], _ => trivial
  | 9, [_], _ => trivial
  | 9, _ :: _ :: _ :: _, _ => trivial
  | 10, [], _ => trivial
  | 10, [_], _ => trivial
  | 10, _ :: _ :: _ :: _, _ => trivial
  | 11, [], _ => trivial
  | 11, _ :: _ :: _, _ => trivial
  | 12, [], _ => trivial
  | 12, [_], _ => trivial
  | 12, [_, _], _ => trivial
  | 12, _ :: _ :: _ :: _ :: _, _ => trivial
  | 13, [], _ => trivial
  | 13, [_], _ => trivial
  | 13, [_, _], _ => trivial
  | 13, _ :: _ :: _ :: _ :: _, _ => trivial
  | 14, [], _ => trivial
  | 14, [_], _ => trivial
  | 14, _ :: _ :: _ :: _, _ => trivial
  | 15, [], _ => trivial
  | 15, [_], _ => trivial
  | 15, [_, _], _ => trivial
  | 15, _ :: _ :: _ :: _ :: _, _ => trivial
  | 16, [], _ => trivial
  | 16, [_], _ => trivial
  | 16, [_, _], _ => trivial
  | 16, _ :: _ :: _ :: _ :: _, _ => trivial
  | 17, [], _ => trivial
  | 17, _ :: _ :: _, _ => trivial
  | 18, [], _ => trivial
  | 18, [_], _ => trivial
  | 18, _ :: _ :: _ :: _, _ => trivial
  | 19, [], _ => trivial
  | 19, _ :: _ :: _, _ => trivial
  | 20, [], _ => trivial
  | 20, [_], _ => trivial
  | 20, _ :: _ :: _ :: _, _ => trivial
  | 21, [], _ => trivial
  | 21, [_], _ => trivial
  | 21, _ :: _ :: _ :: _, _ => trivial
  | 22, _ :: _, _ => trivial
  | 24, _ :: _, _ => trivial
  | 25, _ :: _, _ => trivial
  | 26, _ :: _, _ => trivial
  | 28, [], _ => trivial
  | 28, [_], _ => trivial
  | 28, [_, _], _ => trivial
  | 28, [_, _, _], _ => trivial
  | 28, _ :: _ :: _ :: _ :: _ :: _, _ => trivial
  | 29, [], _ => trivial
  | 29, [_], _ => trivial
  | 29, [_, _], _ => trivial
  | 29, _ :: _ :: _ :: _ :: _, _ => trivial
  | 30, [], _ => trivial
  | 30, [_], _ => trivial
  | 30, [_, _], _ => trivial
  | 30, _ :: _ :: _ :: _ :: _, _ => trivial
  | 31, [], _ => trivial
  | 31, [_], _ => trivial
  | 31, [_, _], _ => trivial
  | 31, [_, _, _], _ => trivial
  | 31, [_, _, _, _], _ => trivial
  | 31, [_, _, _, _, _], _ => trivial
  | 31, [_, _, _, _, _, _], _ => trivial
  | 31, _ :: _ :: _ :: _ :: _ :: _ :: _ :: _ :: _, _ => trivial
  | 32, [], _ => trivial
  | 32, [_], _ => trivial
  | 32, [_, _], _ => trivial
  | 32, [_, _, _], _ => trivial
  | 32, _ :: _ :: _ :: _ :: _ :: _, _ => trivial
  | 33, [], _ => trivial
  | 33, [_], _ => trivial
  | 33, [_, _], _ => trivial
  | 33, [_, _, _], _ => trivial
  | 33, [_, _, _, _], _ => trivial
  | 33, [_, _, _, _, _], _ => trivial
  | 33, _ :: _ :: _ :: _ :: _ :: _ :: _ :: _, _ => trivial
  | 34, [], _ => trivial
  | 34, [_], _ => trivial
  | 34, [_, _], _ => trivial
  | 34, _ :: _ :: _ :: _ :: _, _ => trivial
  | 36, [], _ => trivial
  | 36, [_], _ => trivial
  | 36, _ :: _ :: _ :: _, _ => trivial
  | 40, [], _ => trivial
  | 40, [_], _ => trivial
  | 40, [_, _], _ => trivial
  | 40, [_, _, _], _ => trivial
  | 40, [_, _, _, _], _ => trivial
  | 40, _ :: _ :: _ :: _ :: _ :: _ :: _, _ => trivial
  | 42, _ :: _, _ => trivial
  | 50, _ :: _, _ => trivial
  | 52, _ :: _, _ => trivial
  | 53, [], _ => trivial
  | 53, [_], _ => trivial
  | 53, _ :: _ :: _ :: _, _ => trivial
  | 54, [], _ => trivial
  | 54, _ :: _ :: _, _ => trivial
  | 55, [], _ => trivial
  | 55, _ :: _ :: _, _ => trivial
  | 56, [], _ => trivial
  | 56, _ :: _ :: _, _ => trivial
  | 57, _ :: _, _ => trivial
  | 58, _ :: _, _ => trivial
  | 59, _ :: _, _ => trivial
  | 61, _ :: _, _ => trivial
  | 62, _ :: _, _ => trivial
  | 64, _ :: _, _ => trivial
  | 65, _ :: _, _ => trivial
  | 130, [], _ => trivial
  | 130, _ :: _ :: _, _ => trivial
  | 131, [], _ => trivial
  | 131, _ :: _ :: _, _ => trivial
  | 134, [], _ => trivial
  | 134, [_], _ => trivial
  | 134, [_, _], _ => trivial
  | 134, [_, _, _], _ => trivial
  | 134, [_, _, _, _], _ => trivial
  | 134, [_, _, _, _, _], _ => trivial
  | 134, [_, _, _, _, _, _], _ => trivial
  | 134, [_, _, _, _, _, _, _], _ => trivial
  | 134, _ :: _ :: _ :: _ :: _ :: _ :: _ :: _ :: _ :: _, _ => trivial
  | 135, [], _ => trivial
  | 135, _ :: _ :: _, _ => trivial
  | 136, [], _ => trivial
  | 136, [_], _ => trivial
  | 136, [_, _], _ => trivial
  | 136, [_, _, _], _ => trivial
  | 136, [_, _, _, _], _ => trivial
  | 136, [_, _, _, _, _], _ => trivial
  | 136, [_, _, _, _, _, _], _ => trivial
  | 136, [_, _, _, _, _, _, _], _ => trivial
  | 136, _ :: _ :: _ :: _ :: _ :: _ :: _ :: _ :: _ :: _, _ => trivial
  | 137, [], _ => trivial
  | 137, [_], _ => trivial
  | 137, [_, _], _ => trivial
  | 137, [_, _, _], _ => trivial
  | 137, [_, _, _, _], _ => trivial
  | 137, [_, _, _, _, _], _ => trivial
  | 137, [_, _, _, _, _, _], _ => trivial
  | 137, _ :: _ :: _ :: _ :: _ :: _ :: _ :: _ :: _, _ => trivial
  | 138, [], _ => trivial
  | 138, [_], _ => trivial
  | 138, [_, _], _ => trivial
  | 138, _ :: _ :: _ :: _ :: _, _ => trivial
  | 139, [], _ => trivial
  | 139, [_], _ => trivial
  | 139, _ :: _ :: _ :: _, _ => trivial
  | 151, [], _ => trivial
  | 151, [_], _ => trivial
  | 151, _ :: _ :: _ :: _, _ => trivial
  | 152, [], _ => trivial
  | 152, [_], _ => trivial
  | 152, _ :: _ :: _ :: _, _ => trivial
  | 153, [], _ => trivial
  | 153, [_], _ => trivial
  | 153, _ :: _ :: _ :: _, _ => trivial
  | 154, [], _ => trivial
  | 154, [_], _ => trivial
  | 154, _ :: _ :: _ :: _, _ => trivial
  | 155, [], _ => trivial
  | 155, [_], _ => trivial
  | 155, _ :: _ :: _ :: _, _ => trivial
  | 156, [], _ => trivial
  | 156, [_], _ => trivial
  | 156, _ :: _ :: _ :: _, _ => trivial
  | 157, [], _ => trivial
  | 157, [_], _ => trivial
  | 157, _ :: _ :: _ :: _, _ => trivial
  | 158, [], _ => trivial
  | 158, [_], _ => trivial
  | 158, _ :: _ :: _ :: _, _ => trivial
  | 159, [], _ => trivial
  | 159, [_], _ => trivial
  | 159, _ :: _ :: _ :: _, _ => trivial
  | 160, [], _ => trivial
  | 160, [_], _ => trivial
  | 160, [_, _], _ => trivial
  | 160, _ :: _ :: _ :: _ :: _, _ => trivial
  | 161, [], _ => trivial
  | 161, [_], _ => trivial
  | 161, [_, _], _ => trivial
  | 161, _ :: _ :: _ :: _ :: _, _ => trivial
  | 162, [], _ => trivial
  | 162, [_], _ => trivial
  | 162, [_, _], _ => trivial
  | 162, [_, _, _], _ => trivial
  | 162, _ :: _ :: _ :: _ :: _ :: _, _ => trivial
  | 163, [], _ => trivial
  | 163, _ :: _ :: _, _ => trivial
  | 164, [], _ => trivial
  | 164, [_], _ => trivial
  | 164, [_, _], _ => trivial
  | 164, _ :: _ :: _ :: _ :: _, _ => trivial
  | 165, [], _ => trivial
  | 165, [_], _ => trivial
  | 165, [_, _], _ => trivial
  | 165, _ :: _ :: _ :: _ :: _, _ => trivial
  | 166, [], _ => trivial
  | 166, [_], _ => trivial
  | 166, [_, _], _ => trivial
  | 166, _ :: _ :: _ :: _ :: _, _ => trivial
  | 167, [], _ => trivial
  | 167, [_], _ => trivial
  | 167, [_, _], _ => trivial
  | 167, _ :: _ :: _ :: _ :: _, _ => trivial
  | 168, [], _ => trivial
  | 168, [_], _ => trivial
  | 168, [_, _], _ => trivial
  | 168, _ :: _ :: _ :: _ :: _, _ => trivial
  | 169, [], _ => trivial
  | 169, [_], _ => trivial
  | 169, [_, _], _ => trivial
  | 169, _ :: _ :: _ :: _ :: _, _ => trivial
  | 170, [], _ => trivial
  | 170, [_], _ => trivial
  | 170, _ :: _ :: _ :: _, _ => trivial
  | 171, [], _ => trivial
  | 171, [_], _ => trivial
  | 171, _ :: _ :: _ :: _, _ => trivial
  | 172, [], _ => trivial
  | 172, [_], _ => trivial
  | 172, _ :: _ :: _ :: _, _ => trivial
  | 173, [], _ => trivial
  | 173, [_], _ => trivial
  | 173, _ :: _ :: _ :: _, _ => trivial
  | 174, [], _ => trivial
  | 174, [_], _ => trivial
  | 174, _ :: _ :: _ :: _, _ => trivial
  | 175, [], _ => trivial
  | 175, [_], _ => trivial
  | 175, _ :: _ :: _ :: _, _ => trivial
  | 176, [], _ => trivial
  | 176, [_], _ => trivial
  | 176, _ :: _ :: _ :: _, _ => trivial
  | 177, [], _ => trivial
  | 177, [_], _ => trivial
  | 177, _ :: _ :: _ :: _, _ => trivial
  | 178, [], _ => trivial
  | 178, [_], _ => trivial
  | 178, _ :: _ :: _ :: _, _ => trivial
  | 179, [], _ => trivial
  | 179, [_], _ => trivial
  | 179, _ :: _ :: _ :: _, _ => trivial
  | 180, [], _ => trivial
  | 180, [_], _ => trivial
  | 180, [_, _], _ => trivial
  | 180, [_, _, _], _ => trivial
  | 180, _ :: _ :: _ :: _ :: _ :: _, _ => trivial
  | 181, [], _ => trivial
  | 181, [_], _ => trivial
  | 181, _ :: _ :: _ :: _, _ => trivial
  | 182, [], _ => trivial
  | 182, [_], _ => trivial
  | 182, _ :: _ :: _ :: _, _ => trivial
  | 187, [], _ => trivial
  | 187, [_], _ => trivial
  | 187, [_, _], _ => trivial
  | 187, _ :: _ :: _ :: _ :: _, _ => trivial
  | 188, [], _ => trivial
  | 188, [_], _ => trivial
  | 188, [_, _], _ => trivial
  | 188, _ :: _ :: _ :: _ :: _, _ => trivial
  | 189, [], _ => trivial
  | 189, _ :: _ :: _, _ => trivial
  | 190, [], _ => trivial
  | 190, [_], _ => trivial
  | 190, [_, _], _ => trivial
  | 190, _ :: _ :: _ :: _ :: _, _ => trivial
  | 192, [], _ => trivial
  | 192, [_], _ => trivial
  | 192, _ :: _ :: _ :: _, _ => trivial
  | 193, [], _ => trivial
  | 193, [_], _ => trivial
  | 193, _ :: _ :: _ :: _, _ => trivial
  | 194, [], _ => trivial
  | 194, [_], _ => trivial
  | 194, _ :: _ :: _ :: _, _ => trivial
  | 195, [], _ => trivial
  | 195, _ :: _ :: _, _ => trivial
  | 196, [], _ => trivial
  | 196, _ :: _ :: _, _ => trivial
  | 197, [], _ => trivial
  | 197, [_], _ => trivial
  | 197, [_, _], _ => trivial
  | 197, _ :: _ :: _ :: _ :: _, _ => trivial
  | 198, [], _ => trivial
  | 198, [_], _ => trivial
  | 198, _ :: _ :: _ :: _, _ => trivial
  | 199, [], _ => trivial
  | 199, [_], _ => trivial
  | 199, [_, _], _ => trivial
  | 199, _ :: _ :: _ :: _ :: _, _ => trivial
  | 203, [], _ => trivial
  | 203, [_], _ => trivial
  | 203, [_, _], _ => trivial
  | 203, _ :: _ :: _ :: _ :: _, _ => trivial
  | 204, [], _ => trivial
  | 204, [_], _ => trivial
  | 204, [_, _], _ => trivial
  | 204, _ :: _ :: _ :: _ :: _, _ => trivial
  | 207, [], _ => trivial
  | 207, [_], _ => trivial
  | 207, [_, _], _ => trivial
  | 207, _ :: _ :: _ :: _ :: _, _ => trivial
  | 208, [], _ => trivial
  | 208, [_], _ => trivial
  | 208, _ :: _ :: _ :: _, _ => trivial
  | 209, [], _ => trivial
  | 209, [_], _ => trivial
  | 209, _ :: _ :: _ :: _, _ => trivial
  | 210, [], _ => trivial
  | 210, _ :: _ :: _, _ => trivial
  | 211, [], _ => trivial
  | 211, [_], _ => trivial
  | 211, _ :: _ :: _ :: _, _ => trivial
  | 212, [], _ => trivial
  | 212, [_], _ => trivial
  | 212, [_, _], _ => trivial
  | 212, [_, _, _], _ => trivial
  | 212, _ :: _ :: _ :: _ :: _ :: _, _ => trivial
  | 213, [], _ => trivial
  | 213, [_], _ => trivial
  | 213, [_, _], _ => trivial
  | 213, [_, _, _], _ => trivial
  | 213, _ :: _ :: _ :: _ :: _ :: _, _ => trivial
  | 214, [], _ => trivial
  | 214, [_], _ => trivial
  | 214, [_, _], _ => trivial
  | 214, [_, _, _], _ => trivial
  | 214, _ :: _ :: _ :: _ :: _ :: _, _ => trivial
  | 215, [], _ => trivial
  | 215, [_], _ => trivial
  | 215, [_, _], _ => trivial
  | 215, [_, _, _], _ => trivial
  | 215, [_, _, _, _], _ => trivial
  | 215, _ :: _ :: _ :: _ :: _ :: _ :: _, _ => trivial
  | 216, [], _ => trivial
  | 216, [_], _ => trivial
  | 216, [_, _], _ => trivial
  | 216, [_, _, _], _ => trivial
  | 216, [_, _, _, _], _ => trivial
  | 216, _ :: _ :: _ :: _ :: _ :: _ :: _, _ => trivial
  | 217, [], _ => trivial
  | 217, [_], _ => trivial
  | 217, [_, _], _ => trivial
  | 217, [_, _, _], _ => trivial
  | 217, [_, _, _, _], _ => trivial
  | 217, _ :: _ :: _ :: _ :: _ :: _ :: _, _ => trivial
  | 222, [], _ => trivial
  | 222, [_], _ => trivial
  | 222, _ :: _ :: _ :: _, _ => trivial
  | 223, [], _ => trivial
  | 223, [_], _ => trivial
  | 223, _ :: _ :: _ :: _, _ => trivial
  | 224, [], _ => trivial
  | 224, [_], _ => trivial
  | 224, _ :: _ :: _ :: _, _ => trivial
  | 226, [], _ => trivial
  | 226, [_], _ => trivial
  | 226, _ :: _ :: _ :: _, _ => trivial
  | 227, _ :: _, _ => trivial
  | 228, [], _ => trivial
  | 228, _ :: _ :: _, _ => trivial
  | 241, [], _ => trivial
  | 241, _ :: _ :: _, _ => trivial
  | 242, [], _ => trivial
  | 242, _ :: _ :: _, _ => trivial
  | 243, [], _ => trivial
  | 243, [_], _ => trivial
  | 243, _ :: _ :: _ :: _, _ => trivial
  | 246, [], _ => trivial
  | 246, [_], _ => trivial
  | 246, [_, _], _ => trivial
  | 246, [_, _, _], _ => trivial
  | 246, _ :: _ :: _ :: _ :: _ :: _, _ => trivial
  | 247, [], _ => trivial
  | 247, [_], _ => trivial
  | 247, [_, _], _ => trivial
  | 247, [_, _, _], _ => trivial
  | 247, _ :: _ :: _ :: _ :: _ :: _, _ => trivial
  | 248, [], _ => trivial
  | 248, [_], _ => trivial
  | 248, [_, _], _ => trivial
  | 248, _ :: _ :: _ :: _ :: _, _ => trivial
  | 249, [], _ => trivial
  | 249, [_], _ => trivial
  | 249, [_, _], _ => trivial
  | 249, [_, _, _], _ => trivial
  | 249, _ :: _ :: _ :: _ :: _ :: _, _ => trivial
  | 250, [], _ => trivial
  | 250, [_], _ => trivial
  | 250, [_, _], _ => trivial
  | 250, [_, _, _], _ => trivial
  | 250, [_, _, _, _], _ => trivial
  | 250, _ :: _ :: _ :: _ :: _ :: _ :: _, _ => trivial
  | 251, [], _ => trivial
  | 251, [_], _ => trivial
  | 251, [_, _], _ => trivial
  | 251, _ :: _ :: _ :: _ :: _, _ => trivial
  | 253, [], _ => trivial
  | 253, [_], _ => trivial
  | 253, [_, _], _ => trivial
  | 253, [_, _, _], _ => trivial
  | 253, _ :: _ :: _ :: _ :: _ :: _, _ => trivial
  | 254, [], _ => trivial
  | 254, [_], _ => trivial
  | 254, _ :: _ :: _ :: _, _ => trivial
  | 256, [], _ => trivial
  | 256, [_], _ => trivial
  | 256, _ :: _ :: _ :: _, _ => trivial
  | 257, [], _ => trivial
  | 257, [_], _ => trivial
  | 257, [_, _], _ => trivial
  | 257, [_, _, _], _ => trivial
  | 257, [_, _, _, _], _ => trivial
  | 257, _ :: _ :: _ :: _ :: _ :: _ :: _, _ => trivial
  | 258, [], _ => trivial
  | 258, [_], _ => trivial
  | 258, [_, _], _ => trivial
  | 258, [_, _, _], _ => trivial
  | 258, [_, _, _, _], _ => trivial
  | 258, _ :: _ :: _ :: _ :: _ :: _ :: _, _ => trivial
  | 259, [], _ => trivial
  | 259, [_], _ => trivial
  | 259, [_, _], _ => trivial
  | 259, _ :: _ :: _ :: _ :: _, _ => trivial
  | 260, [], _ => trivial
  | 260, [_], _ => trivial
  | 260, [_, _], _ => trivial
  | 260, [_, _, _], _ => trivial
  | 260, [_, _, _, _], _ => trivial
  | 260, _ :: _ :: _ :: _ :: _ :: _ :: _, _ => trivial
  | 261, [], _ => trivial
  | 261, [_], _ => trivial
  | 261, [_, _], _ => trivial
  | 261, _ :: _ :: _ :: _ :: _, _ => trivial
  | 262, [], _ => trivial
  | 262, [_], _ => trivial
  | 262, _ :: _ :: _ :: _, _ => trivial
  | 23, _, _ => trivial
  | 27, _, _ => trivial
  | 35, _, _ => trivial
  | 37, _, _ => trivial
  | 38, _, _ => trivial
  | 39, _, _ => trivial
  | 41, _, _ => trivial
  | 43, _, _ => trivial
  | 44, _, _ => trivial
  | 45, _, _ => trivial
  | 46, _, _ => trivial
  | 47, _, _ => trivial
  | 48, _, _ => trivial
  | 49, _, _ => trivial
  | 51, _, _ => trivial
  | 60, _, _ => trivial
  | 63, _, _ => trivial
  | 66, _, _ => trivial
  | 67, _, _ => trivial
  | 68, _, _ => trivial
  | 69, _, _ => trivial
  | 70, _, _ => trivial
  | 71, _, _ => trivial
  | 72, _, _ => trivial
  | 73, _, _ => trivial
  | 74, _, _ => trivial
  | 75, _, _ => trivial
  | 76, _, _ => trivial
  | 77, _, _ => trivial
  | 78, _, _ => trivial
  | 79, _, _ => trivial
  | 80, _, _ => trivial
  | 81, _, _ => trivial
  | 82, _, _ => trivial
  | 83, _, _ => trivial
  | 84, _, _ => trivial
  | 85, _, _ => trivial
  | 86, _, _ => trivial
  | 87, _, _ => trivial
  | 88, _, _ => trivial
  | 89, _, _ => trivial
  | 90, _, _ => trivial
  | 91, _, _ => trivial
  | 92, _, _ => trivial
  | 93, _, _ => trivial
  | 94, _, _ => trivial
  | 95, _, _ => trivial
  | 96, _, _ => trivial
  | 97, _, _ => trivial
  | 98, _, _ => trivial
  | 99, _, _ => trivial
  | 100, _, _ => trivial
  | 101, _, _ => trivial
  | 102, _, _ => trivial
  | 103, _, _ => trivial
  | 104, _, _ => trivial
  | 105, _, _ => trivial
  | 106, _, _ => trivial
  | 107, _, _ => trivial
  | 108, _, _ => trivial
  | 109, _, _ => trivial
  | 110, _, _ => trivial
  | 111, _, _ => trivial
  | 112, _, _ => trivial
  | 113, _, _ => trivial
  | 114, _, _ => trivial
  | 115, _, _ => trivial
  | 116, _, _ => trivial
  | 117, _, _ => trivial
  | 118, _, _ => trivial
  | 119, _, _ => trivial
  | 120, _, _ => trivial
  | 121, _, _ => trivial
  | 122, _, _ => trivial
  | 123, _, _ => trivial
  | 124, _, _ => trivial
  | 125, _, _ => trivial
  | 126, _, _ => trivial
  | 127, _, _ => trivial
  | 128, _, _ => trivial
  | 129, _, _ => trivial
  | 132, _, _ => trivial
  | 133, _, _ => trivial
  | 140, _, _ => trivial
  | 141, _, _ => trivial
  | 142, _, _ => trivial
  | 143, _, _ => trivial
  | 144, _, _ => trivial
  | 145, _, _ => trivial
  | 146, _, _ => trivial
  | 147, _, _ => trivial
  | 148, _, _ => trivial
  | 149, _, _ => trivial
  | 150, _, _ => trivial
  | 183, _, _ => trivial
  | 184, _, _ => trivial
  | 185, _, _ => trivial
  | 186, _, _ => trivial
  | 191, _, _ => trivial
  | 200, _, _ => trivial
  | 201, _, _ => trivial
  | 202, _, _ => trivial
  | 205, _, _ => trivial
  | 206, _, _ => trivial
  | 218, _, _ => trivial
  | 219, _, _ => trivial
  | 220, _, _ => trivial
  | 221, _, _ => trivial
  | 225, _, _ => trivial
  | 229, _, _ => trivial
  | 230, _, _ => trivial
  | 231, _, _ => trivial
  | 232, _, _ => trivial
  | 233, _, _ => trivial
  | 234, _, _ => trivial
  | 235, _, _ => trivial
  | 236, _, _ => trivial
  | 237, _, _ => trivial
  | 238, _, _ => trivial
  | 239, _, _ => trivial
  | 240, _, _ => trivial
  | 244, _, _ => trivial
  | 245, _, _ => trivial
  | 252, _, _ => trivial
  | 255, _, _ => trivial
  | _ + 263, _, _ => trivial
theorem axq1_huA : ax_RO ax_wM1 (ax_XM 1) axu1_huA := by
  intro ρ hp hE hT
  have x0 : ax_M0 80 hp := (ax_XF_lt (by decide)).mp (ax_gx hE (0, [80]) (by decide))
  obtain ⟨a, b, c, ha, hb, hc, la, lb, lc, hs⟩ := ax_gs hE 3 4 7 (by decide)
  obtain ⟨k, m, l, f1, f2⟩ := ax_gF hE 702 224 7 173 56 (ρ 1) (by decide) (by rw [ax_vl_c (by decide)]) (by rw [ax_vl_c (by decide)]) rfl
  obtain ⟨d, hd, d1, d2, d3⟩ := ax_gi hE 1 2147483649 2147483668 (by decide) rfl
  have hc' : ρ 1 = 4 * c := hc
  have hdc : d = c := by omega
  subst hdc
  have hb' : b = 1 := by have : (4 : Nat) = 4 * b := hb; omega
  subst hb'
  obtain ⟨p1, p2⟩ := ax_bi_pos lc (by omega)
  have had : d = a + 1 := by rw [p2, ax_bi_def, ax_bi_def] at hs; rw [p2] at d2 d3; omega
  refine ⟨(fun y hy => by cases hy), _, List.mem_cons_self, ρ, fun _ _ => rfl, ax_px hE (by decide) (fun y hy => ?_)⟩
  cases List.mem_singleton.mp hy
  show ax_XF (ax_XM 1) (500 + 0) [702, 224, ρ 0, 76] hp
  exact (ax_XF_wr (x := 0) (by decide)).mpr (ax_huw hT.1 x0 f1 (by rw [← hd]; exact f2) ha (Or.inl rfl) (fun u hu => by show _ ≤ 19; replace hu : _ ≤ 20 := hu; omega))
theorem axq1_hrU : ax_RO ax_wM1 (ax_XM 1) axu1_hrU := by
  intro ρ hp hE hT
  have x0 : ax_M0 84 hp := (ax_XF_lt (by decide)).mp (ax_gx hE (0, [84]) (by decide))
  obtain ⟨a, b, c, ha, hb, hc, la, lb, lc, hs⟩ := ax_gs hE 3 4 7 (by decide)
  obtain ⟨k, m, l, f1, f2⟩ := ax_gF hE 702 228 7 173 57 (ρ 1) (by decide) (by rw [ax_vl_c (by decide)]) (by rw [ax_vl_c (by decide)]) rfl
  obtain ⟨d, hd, d1, d2, d3⟩ := ax_gi hE 1 2147483649 2147483668 (by decide) rfl
  have hc' : ρ 1 = 4 * c := hc
  have hdc : d = c := by omega
  subst hdc
  have hb' : b = 1 := by have : (4 : Nat) = 4 * b := hb; omega
  subst hb'
  obtain ⟨p1, p2⟩ := ax_bi_pos lc (by omega)
  have had : d = a + 1 := by rw [p2, ax_bi_def, ax_bi_def] at hs; rw [p2] at d2 d3; omega
  refine ⟨(fun y hy => by cases hy), _, List.mem_cons_self, ρ, fun _ _ => rfl, ax_px hE (by decide) (fun y hy => ?_)⟩
  cases List.mem_singleton.mp hy
  show ax_XF (ax_XM 1) (500 + 0) [702, 228, ρ 0, 80] hp
  exact (ax_XF_wr (x := 0) (by decide)).mpr (ax_huw hT.1 x0 f1 (by rw [← hd]; exact f2) ha (Or.inr rfl) (fun u hu => by show _ ≤ 20; replace hu : _ ≤ 21 := hu; omega))
theorem axq1_huU : ax_RO ax_wM1 (ax_XM 1) axu1_huU := by
  intro ρ hp hE hT
  have x0 : ax_M0 76 hp := (ax_XF_lt (by decide)).mp (ax_gx hE (0, [76]) (by decide))
  obtain ⟨a, b, c, ha, hb, hc, la, lb, lc, hs⟩ := ax_gs hE 7 4 3 (by decide)
  obtain ⟨k, m, l, f1, f2⟩ := ax_gF hE 702 228 7 173 57 (ρ 1) (by decide) (by rw [ax_vl_c (by decide)]) (by rw [ax_vl_c (by decide)]) rfl
  obtain ⟨d, hd, d1, d2, d3⟩ := ax_gi hE 1 2147483648 2147483668 (by decide) rfl
  have ha' : ρ 1 = 4 * a := ha
  have hda : d = a := by omega
  subst hda
  have hb' : b = 1 := by have : (4 : Nat) = 4 * b := hb; omega
  obtain ⟨p1, p2⟩ := ax_bi_pos la d2
  have hcd := ax_sum1 hb' p1 lc hs
  have hu20 : d ≤ 19 := by
    obtain ⟨kk', n, d0, u0, f, e1, e2, e3, e4⟩ := x0
    rw [f1] at e1
    cases e1
    rw [e3] at f2
    have := Option.some.inj f2
    replace e4 : d0 + u0 ≤ 19 := e4
    omega
  refine ⟨fun x hx => ?_, _, List.mem_cons_self, ρ, fun _ _ => rfl, ax_px hE (by decide) (fun x hx => ?_)⟩
  · cases List.mem_singleton.mp hx
    have h0 : ρ 0 = 4 * c := hc
    show 2147483648 ≤ rx_bi (ρ 0 / 4) ∧ rx_bi (ρ 0 / 4) ≤ 2147483668
    rw [h0, Nat.mul_div_cancel_left c (by decide), ax_bi_nat (by omega)]
    omega
  · cases List.mem_singleton.mp hx
    show ax_XF (ax_XM 1) (500 + 0) [702, 228, ρ 0, 80] hp
    exact (ax_XF_wr (x := 0) (by decide)).mpr (ax_huw hT.1 x0 f1 (by rw [← hd]; exact f2) hc (Or.inr rfl) (fun u hu => by show _ ≤ 20; replace hu : _ ≤ 19 := hu; omega))
theorem axq1_hrA : ax_RO ax_wM1 (ax_XM 1) axu1_hrA := by
  intro ρ hp hE hT
  have x0 : ax_M0 80 hp := (ax_XF_lt (by decide)).mp (ax_gx hE (0, [80]) (by decide))
  obtain ⟨a, b, c, ha, hb, hc, la, lb, lc, hs⟩ := ax_gs hE 7 4 3 (by decide)
  obtain ⟨k, m, l, f1, f2⟩ := ax_gF hE 702 224 7 173 56 (ρ 1) (by decide) (by rw [ax_vl_c (by decide)]) (by rw [ax_vl_c (by decide)]) rfl
  obtain ⟨k', m', l', g1, g2⟩ := ax_gF hE 702 228 11 173 57 (ρ 2) (by decide) (by rw [ax_vl_c (by decide)]) (by rw [ax_vl_c (by decide)]) rfl
  obtain ⟨d, hd, d1, d2, d3⟩ := ax_gi hE 1 2147483648 2147483668 (by decide) rfl
  obtain ⟨u, hu, u1, u2, u3⟩ := ax_gi hE 2 2147483649 2147483668 (by decide) rfl
  have ha' : ρ 1 = 4 * a := ha
  have hda : d = a := by omega
  subst hda
  have hb' : b = 1 := by have : (4 : Nat) = 4 * b := hb; omega
  obtain ⟨p1, p2⟩ := ax_bi_pos la d2
  obtain ⟨v1, v2⟩ := ax_bi_pos u1 (by omega)
  have hcd := ax_sum1 hb' p1 lc hs
  have hd19 : d ≤ 19 := by
    obtain ⟨kk', n, d0, u0, f, e1, e2, e3, e4⟩ := x0
    rw [f1] at e1 g1
    cases e1
    cases g1
    rw [e2] at f2
    rw [e3] at g2
    have := Option.some.inj f2
    have := Option.some.inj g2
    replace e4 : d0 + u0 ≤ 20 := e4
    omega
  refine ⟨fun x hx => ?_, _, List.mem_cons_self, ρ, fun _ _ => rfl, ax_px hE (by decide) (fun x hx => ?_)⟩
  · cases List.mem_singleton.mp hx
    have h0 : ρ 0 = 4 * c := hc
    show 2147483648 ≤ rx_bi (ρ 0 / 4) ∧ rx_bi (ρ 0 / 4) ≤ 2147483668
    rw [h0, Nat.mul_div_cancel_left c (by decide), ax_bi_nat (by omega)]
    omega
  · cases List.mem_singleton.mp hx
    show ax_XF (ax_XM 1) (500 + 0) [702, 224, ρ 0, 84] hp
    exact (ax_XF_wr (x := 0) (by decide)).mpr (ax_huw hT.1 x0 f1 (by rw [← hd]; exact f2) hc (Or.inl rfl) (fun u hu => by show _ ≤ 21; replace hu : _ ≤ 20 := hu; omega))
theorem axq1_hk : ax_RO ax_wM1 (ax_XM 1) axu1_hk := by
  intro ρ hp hE hT
  obtain ⟨k, m, l, f1, f2⟩ := ax_gF hE 702 224 3 173 56 (ρ 0) (by decide) (by rw [ax_vl_c (by decide)]) (by rw [ax_vl_c (by decide)]) rfl
  obtain ⟨d, hd, d1, d2, d3⟩ := ax_gi hE 0 2147483648 2147483668 (by decide) rfl
  obtain ⟨p1, p2⟩ := ax_bi_pos d1 d2
  have hl := ax_len hT (q := 173) rfl (n := 58) rfl f1
  refine ⟨(fun y hy => by cases hy), _, List.mem_cons_self, ρ, fun _ _ => rfl, ax_px hE (by decide) (fun y hy => ?_)⟩
  cases List.mem_singleton.mp hy
  show ax_XF (ax_XM 1) (500 + 0) [702, 228, 0, 80] hp
  exact (ax_XF_wr (x := 0) (by decide)).mpr (ax_hu0 hT.1 f1 (by rw [hl]; decide) (by rw [← hd]; exact f2) (by omega))
theorem axq1_hzstartAnew : ax_RO ax_wM1 (ax_XM 1) axu1_hzstartAnew := by
  intro ρ hp hE hT
  obtain ⟨k, m, l, f1, f2⟩ := ax_gF hE 702 224 0 173 56 0 (by decide) (by rw [ax_vl_c (by decide)]) (by rw [ax_vl_c (by decide)]) rfl
  have hl := ax_len hT (q := 173) rfl (n := 58) rfl f1
  refine ⟨(fun y hy => by cases hy), _, List.mem_cons_self, ρ, fun _ _ => rfl, ax_px hE (by decide) (fun y hy => ?_)⟩
  cases List.mem_singleton.mp hy
  show ax_XF (ax_XM 1) (500 + 0) [702, 228, 0, 80] hp
  exact (ax_XF_wr (x := 0) (by decide)).mpr (ax_hu0 (d := 0) hT.1 f1 (by rw [hl]; decide) f2 (by decide))
theorem axq1_hzback : ax_RO ax_wM1 (ax_XM 1) axu1_hzback := by
  intro ρ hp hE hT
  obtain ⟨k, m, l, f1, f2⟩ := ax_gF hE 702 224 0 173 56 0 (by decide) (by rw [ax_vl_c (by decide)]) (by rw [ax_vl_c (by decide)]) rfl
  have hl := ax_len hT (q := 173) rfl (n := 58) rfl f1
  refine ⟨(fun y hy => by cases hy), _, List.mem_cons_self, ρ, fun _ _ => rfl, ax_px hE (by decide) (fun y hy => ?_)⟩
  cases List.mem_singleton.mp hy
  show ax_XF (ax_XM 1) (500 + 0) [702, 228, 0, 80] hp
  exact (ax_XF_wr (x := 0) (by decide)).mpr (ax_hu0 (d := 0) hT.1 f1 (by rw [hl]; decide) f2 (by decide))
theorem axq1_kgen : ax_RO ax_wM1 (ax_XM 1) axu1_kgen := by
  intro ρ hp hE hT
  obtain ⟨k, m, l, f1, f2⟩ := ax_gF hE 702 224 3 173 56 (ρ 0) (by decide) (by rw [ax_vl_c (by decide)]) (by rw [ax_vl_c (by decide)]) rfl
  have ht : ax_ok ax_wM1 (0, 2147483648, 2147483667) (ρ 0) := hE.2.1 0 _ (by decide) rfl
  obtain ⟨ρ', h1, h2⟩ := ax_pf (q := 173) (j := 56) hE (a := 702) (i := 224) (by decide) (by decide) (ax_vl_c (by decide)) (ax_vl_c (by decide)) f1 f2 ht
  exact ⟨(fun x hx => by cases hx), _, List.mem_cons_self, ρ', h1, h2⟩
theorem axq1_wSk0 : ax_RO ax_wM1 (ax_XM 1) axu1_wSk0 := by
  intro ρ hp hE hT
  have x0 : ax_M1 202 hp := (ax_XF_lt (by decide)).mp (ax_gx hE (1, []) (by decide))
  obtain ⟨k, hk, k1, k2, k3⟩ := ax_gi hE 2 2147483648 2147483688 (by decide) rfl
  obtain ⟨k4, k5⟩ := ax_bi_pos k1 (by omega)
  obtain ⟨a, ha, a1, a2, a3⟩ := ax_gi hE 3 2147483648 2147483668 (by decide) rfl
  obtain ⟨a4, a5⟩ := ax_bi_pos a1 (by omega)
  have hi : ρ 1 = 4 * (103 * a + k) := ax_gi3 hE 15 19 11 7 (by decide) (by decide) ha (by omega) hk (by omega)
  refine ⟨(fun y hy => by cases hy), _, List.mem_cons_self, ρ, fun _ _ => rfl, ax_px hE (by decide) (fun y hy => ?_)⟩
  cases List.mem_singleton.mp hy
  show ax_XF (ax_XM 1) (500 + 1) [818, ρ 1, ρ 0] hp
  refine (ax_XF_wr (x := 1) (by decide)).mpr ?_
  show ax_M1 202 (ax_upd hp 818 (ρ 1) (ρ 0))
  refine ax_M1_set hT.1 x0 rfl ?_
  have e : ρ 1 / 4 % 103 = k := by omega
  rw [e]
  exact ax_sg_none (by omega)
theorem axq1_wSs0 : ax_RO ax_wM1 (ax_XM 1) axu1_wSs0 := by
  intro ρ hp hE hT
  have x0 : ax_M1 202 hp := (ax_XF_lt (by decide)).mp (ax_gx hE (1, []) (by decide))
  obtain ⟨k, hk, k1, k2, k3⟩ := ax_gi hE 2 2147483648 2147483688 (by decide) rfl
  obtain ⟨k4, k5⟩ := ax_bi_pos k1 (by omega)
  obtain ⟨a, ha, a1, a2, a3⟩ := ax_gi hE 3 2147483648 2147483668 (by decide) rfl
  obtain ⟨a4, a5⟩ := ax_bi_pos a1 (by omega)
  have hi : ρ 1 = 4 * (103 * a + k) := ax_gi3 hE 15 19 11 7 (by decide) (by decide) ha (by omega) hk (by omega)
  refine ⟨(fun y hy => by cases hy), _, List.mem_cons_self, ρ, fun _ _ => rfl, ax_px hE (by decide) (fun y hy => ?_)⟩
  cases List.mem_singleton.mp hy
  show ax_XF (ax_XM 1) (500 + 1) [818, ρ 1, ρ 0] hp
  refine (ax_XF_wr (x := 1) (by decide)).mpr ?_
  show ax_M1 202 (ax_upd hp 818 (ρ 1) (ρ 0))
  refine ax_M1_set hT.1 x0 rfl ?_
  have e : ρ 1 / 4 % 103 = k := by omega
  rw [e]
  exact ax_sg_none (by omega)
theorem axq1_bS0 : ax_RO ax_wM1 (ax_XM 1) axu1_bS0 := by
  intro ρ hp hE hT
  have x0 : ax_M1 203 hp := (ax_XF_lt (by decide)).mp (ax_gx hE (2, []) (by decide))
  obtain ⟨k, hk, k1, k2, k3⟩ := ax_gi hE 2 2147483648 2147483688 (by decide) rfl
  obtain ⟨k4, k5⟩ := ax_bi_pos k1 (by omega)
  obtain ⟨a, ha, a1, a2, a3⟩ := ax_gi hE 3 2147483648 2147483649 (by decide) rfl
  obtain ⟨a4, a5⟩ := ax_bi_pos a1 (by omega)
  have hi : ρ 1 = 4 * (103 * a + k) := ax_gi3 hE 15 19 11 7 (by decide) (by decide) ha (by omega) hk (by omega)
  refine ⟨(fun y hy => by cases hy), _, List.mem_cons_self, ρ, fun _ _ => rfl, ax_px hE (by decide) (fun y hy => ?_)⟩
  cases List.mem_singleton.mp hy
  show ax_XF (ax_XM 1) (500 + 2) [822, ρ 1, ρ 0] hp
  refine (ax_XF_wr (x := 2) (by decide)).mpr ?_
  show ax_M1 203 (ax_upd hp 822 (ρ 1) (ρ 0))
  refine ax_M1_set hT.1 x0 rfl ?_
  have e : ρ 1 / 4 % 103 = k := by omega
  rw [e]
  exact ax_sg_none (by omega)
theorem axq1_wSk1 : ax_RO ax_wM1 (ax_XM 1) axu1_wSk1 := by
  intro ρ hp hE hT
  have x0 : ax_M1 202 hp := (ax_XF_lt (by decide)).mp (ax_gx hE (1, []) (by decide))
  obtain ⟨k, hk, k1, k2, k3⟩ := ax_gi hE 2 2147483689 2147483700 (by decide) rfl
  obtain ⟨k4, k5⟩ := ax_bi_pos k1 (by omega)
  obtain ⟨a, ha, a1, a2, a3⟩ := ax_gi hE 3 2147483648 2147483668 (by decide) rfl
  obtain ⟨a4, a5⟩ := ax_bi_pos a1 (by omega)
  have hi : ρ 1 = 4 * (103 * a + k) := ax_gi3 hE 15 19 11 7 (by decide) (by decide) ha (by omega) hk (by omega)
  refine ⟨(fun y hy => by cases hy), _, List.mem_cons_self, ρ, fun _ _ => rfl, ax_px hE (by decide) (fun y hy => ?_)⟩
  cases List.mem_singleton.mp hy
  show ax_XF (ax_XM 1) (500 + 1) [818, ρ 1, ρ 0] hp
  refine (ax_XF_wr (x := 1) (by decide)).mpr ?_
  show ax_M1 202 (ax_upd hp 818 (ρ 1) (ρ 0))
  refine ax_M1_set hT.1 x0 rfl ?_
  have e : ρ 1 / 4 % 103 = k := by omega
  rw [e]
  have hx0 : ax_rng 2147483648 2147483649 (ρ 0) := by
    obtain ⟨z, hz, z1, z2, z3⟩ := ax_gi hE 0 2147483648 2147483649 (by decide) rfl
    unfold ax_rng
    rw [hz, Nat.mul_div_cancel_left z (by decide)]
    exact ⟨z2, z3⟩
  exact ⟨fun h1 h2 => hx0, fun h1 h2 => by omega, fun h1 h2 => by omega⟩
theorem axq1_wSs1 : ax_RO ax_wM1 (ax_XM 1) axu1_wSs1 := by
  intro ρ hp hE hT
  have x0 : ax_M1 202 hp := (ax_XF_lt (by decide)).mp (ax_gx hE (1, []) (by decide))
  obtain ⟨k, hk, k1, k2, k3⟩ := ax_gi hE 2 2147483689 2147483700 (by decide) rfl
  obtain ⟨k4, k5⟩ := ax_bi_pos k1 (by omega)
  obtain ⟨a, ha, a1, a2, a3⟩ := ax_gi hE 3 2147483648 2147483668 (by decide) rfl
  obtain ⟨a4, a5⟩ := ax_bi_pos a1 (by omega)
  have hi : ρ 1 = 4 * (103 * a + k) := ax_gi3 hE 15 19 11 7 (by decide) (by decide) ha (by omega) hk (by omega)
  refine ⟨(fun y hy => by cases hy), _, List.mem_cons_self, ρ, fun _ _ => rfl, ax_px hE (by decide) (fun y hy => ?_)⟩
  cases List.mem_singleton.mp hy
  show ax_XF (ax_XM 1) (500 + 1) [818, ρ 1, ρ 0] hp
  refine (ax_XF_wr (x := 1) (by decide)).mpr ?_
  show ax_M1 202 (ax_upd hp 818 (ρ 1) (ρ 0))
  refine ax_M1_set hT.1 x0 rfl ?_
  have e : ρ 1 / 4 % 103 = k := by omega
  rw [e]
  have hx0 : ax_rng 2147483648 2147483649 (ρ 0) := by
    obtain ⟨z, hz, z1, z2, z3⟩ := ax_gi hE 0 2147483648 2147483649 (by decide) rfl
    unfold ax_rng
    rw [hz, Nat.mul_div_cancel_left z (by decide)]
    exact ⟨z2, z3⟩
  exact ⟨fun h1 h2 => hx0, fun h1 h2 => by omega, fun h1 h2 => by omega⟩
theorem axq1_bS1 : ax_RO ax_wM1 (ax_XM 1) axu1_bS1 := by
  intro ρ hp hE hT
  have x0 : ax_M1 203 hp := (ax_XF_lt (by decide)).mp (ax_gx hE (2, []) (by decide))
  obtain ⟨k, hk, k1, k2, k3⟩ := ax_gi hE 2 2147483689 2147483700 (by decide) rfl
  obtain ⟨k4, k5⟩ := ax_bi_pos k1 (by omega)
  obtain ⟨a, ha, a1, a2, a3⟩ := ax_gi hE 3 2147483648 2147483649 (by decide) rfl
  obtain ⟨a4, a5⟩ := ax_bi_pos a1 (by omega)
  have hi : ρ 1 = 4 * (103 * a + k) := ax_gi3 hE 15 19 11 7 (by decide) (by decide) ha (by omega) hk (by omega)
  refine ⟨(fun y hy => by cases hy), _, List.mem_cons_self, ρ, fun _ _ => rfl, ax_px hE (by decide) (fun y hy => ?_)⟩
  cases List.mem_singleton.mp hy
  show ax_XF (ax_XM 1) (500 + 2) [822, ρ 1, ρ 0] hp
  refine (ax_XF_wr (x := 2) (by decide)).mpr ?_
  show ax_M1 203 (ax_upd hp 822 (ρ 1) (ρ 0))
  refine ax_M1_set hT.1 x0 rfl ?_
  have e : ρ 1 / 4 % 103 = k := by omega
  rw [e]
  have hx0 : ax_rng 2147483648 2147483649 (ρ 0) := by
    obtain ⟨z, hz, z1, z2, z3⟩ := ax_gi hE 0 2147483648 2147483649 (by decide) rfl
    unfold ax_rng
    rw [hz, Nat.mul_div_cancel_left z (by decide)]
    exact ⟨z2, z3⟩
  exact ⟨fun h1 h2 => hx0, fun h1 h2 => by omega, fun h1 h2 => by omega⟩
theorem axq1_wR1 : ax_RO ax_wM1 (ax_XM 1) axu1_wR1 := by
  intro ρ hp hE hT
  obtain ⟨kk, m, f, e1, e2⟩ : ax_M1 202 hp := (ax_XF_lt (by decide)).mp (ax_gx hE (1, []) (by decide))
  obtain ⟨k, hk, k1, k2, k3⟩ := ax_gi hE 1 2147483689 2147483700 (by decide) rfl
  obtain ⟨k4, k5⟩ := ax_bi_pos k1 (by omega)
  obtain ⟨a, ha, a1, a2, a3⟩ := ax_gi hE 2 2147483648 2147483668 (by decide) rfl
  obtain ⟨a4, a5⟩ := ax_bi_pos a1 (by omega)
  have hi : ρ 0 = 4 * (103 * a + k) := ax_gi3 hE 11 15 7 3 (by decide) (by decide) ha (by omega) hk (by omega)
  have hl := ax_len hT (q := 202) rfl (n := 2163) rfl e1
  obtain ⟨v, hv⟩ := ax_get_some (f := f) (i := 103 * a + k) (by omega)
  have h3 := e2 _ _ hv
  rw [show (103 * a + k) % 103 = k by omega] at h3
  obtain ⟨v1, v2, -, -⟩ := ax_cellI hT (q := 202) (g := 72) (n := 2163) rfl rfl e1 hv
  obtain ⟨h4, h5⟩ := h3.1 (by omega) (by omega)
  obtain ⟨ρ', h1, h2⟩ := ax_pf (q := 202) (j := 103 * a + k) (t := (0, 2147483648, 2147483649)) hE (a := 818) (i := 3) (by decide) (by decide) (ax_vl_c (by decide)) hi e1 hv (Or.inl ⟨rfl, v1, v2, h4, h5⟩)
  exact ⟨(fun x hx => by cases hx), _, List.mem_cons_self, ρ', h1, h2⟩
theorem axq1_bR1 : ax_RO ax_wM1 (ax_XM 1) axu1_bR1 := by
  intro ρ hp hE hT
  obtain ⟨kk, m, f, e1, e2⟩ : ax_M1 203 hp := (ax_XF_lt (by decide)).mp (ax_gx hE (2, []) (by decide))
  obtain ⟨k, hk, k1, k2, k3⟩ := ax_gi hE 1 2147483689 2147483700 (by decide) rfl
  obtain ⟨k4, k5⟩ := ax_bi_pos k1 (by omega)
  obtain ⟨a, ha, a1, a2, a3⟩ := ax_gi hE 2 2147483648 2147483649 (by decide) rfl
  obtain ⟨a4, a5⟩ := ax_bi_pos a1 (by omega)
  have hi : ρ 0 = 4 * (103 * a + k) := ax_gi3 hE 11 15 7 3 (by decide) (by decide) ha (by omega) hk (by omega)
  have hl := ax_len hT (q := 203) rfl (n := 206) rfl e1
  obtain ⟨v, hv⟩ := ax_get_some (f := f) (i := 103 * a + k) (by omega)
  have h3 := e2 _ _ hv
  rw [show (103 * a + k) % 103 = k by omega] at h3
  obtain ⟨v1, v2, -, -⟩ := ax_cellI hT (q := 203) (g := 73) (n := 206) rfl rfl e1 hv
  obtain ⟨h4, h5⟩ := h3.1 (by omega) (by omega)
  obtain ⟨ρ', h1, h2⟩ := ax_pf (q := 203) (j := 103 * a + k) (t := (0, 2147483648, 2147483649)) hE (a := 822) (i := 3) (by decide) (by decide) (ax_vl_c (by decide)) hi e1 hv (Or.inl ⟨rfl, v1, v2, h4, h5⟩)
  exact ⟨(fun x hx => by cases hx), _, List.mem_cons_self, ρ', h1, h2⟩
theorem axq1_wSk2 : ax_RO ax_wM1 (ax_XM 1) axu1_wSk2 := by
  intro ρ hp hE hT
  have x0 : ax_M1 202 hp := (ax_XF_lt (by decide)).mp (ax_gx hE (1, []) (by decide))
  obtain ⟨k, hk, k1, k2, k3⟩ := ax_gi hE 2 2147483701 2147483724 (by decide) rfl
  obtain ⟨k4, k5⟩ := ax_bi_pos k1 (by omega)
  obtain ⟨a, ha, a1, a2, a3⟩ := ax_gi hE 3 2147483648 2147483668 (by decide) rfl
  obtain ⟨a4, a5⟩ := ax_bi_pos a1 (by omega)
  have hi : ρ 1 = 4 * (103 * a + k) := ax_gi3 hE 15 19 11 7 (by decide) (by decide) ha (by omega) hk (by omega)
  refine ⟨(fun y hy => by cases hy), _, List.mem_cons_self, ρ, fun _ _ => rfl, ax_px hE (by decide) (fun y hy => ?_)⟩
  cases List.mem_singleton.mp hy
  show ax_XF (ax_XM 1) (500 + 1) [818, ρ 1, ρ 0] hp
  refine (ax_XF_wr (x := 1) (by decide)).mpr ?_
  show ax_M1 202 (ax_upd hp 818 (ρ 1) (ρ 0))
  refine ax_M1_set hT.1 x0 rfl ?_
  have e : ρ 1 / 4 % 103 = k := by omega
  rw [e]
  have hx0 : ax_rng 2147483648 2147483657 (ρ 0) := by
    obtain ⟨z, hz, z1, z2, z3⟩ := ax_gi hE 0 2147483648 2147483657 (by decide) rfl
    unfold ax_rng
    rw [hz, Nat.mul_div_cancel_left z (by decide)]
    exact ⟨z2, z3⟩
  exact ⟨fun h1 h2 => by omega, fun h1 h2 => hx0, fun h1 h2 => by omega⟩
theorem axq1_wSs2 : ax_RO ax_wM1 (ax_XM 1) axu1_wSs2 := by
  intro ρ hp hE hT
  have x0 : ax_M1 202 hp := (ax_XF_lt (by decide)).mp (ax_gx hE (1, []) (by decide))
  obtain ⟨k, hk, k1, k2, k3⟩ := ax_gi hE 2 2147483701 2147483724 (by decide) rfl
  obtain ⟨k4, k5⟩ := ax_bi_pos k1 (by omega)
  obtain ⟨a, ha, a1, a2, a3⟩ := ax_gi hE 3 2147483648 2147483668 (by decide) rfl
  obtain ⟨a4, a5⟩ := ax_bi_pos a1 (by omega)
  have hi : ρ 1 = 4 * (103 * a + k) := ax_gi3 hE 15 19 11 7 (by decide) (by decide) ha (by omega) hk (by omega)
  refine ⟨(fun y hy => by cases hy), _, List.mem_cons_self, ρ, fun _ _ => rfl, ax_px hE (by decide) (fun y hy => ?_)⟩
  cases List.mem_singleton.mp hy
  show ax_XF (ax_XM 1) (500 + 1) [818, ρ 1, ρ 0] hp
  refine (ax_XF_wr (x := 1) (by decide)).mpr ?_
  show ax_M1 202 (ax_upd hp 818 (ρ 1) (ρ 0))
  refine ax_M1_set hT.1 x0 rfl ?_
  have e : ρ 1 / 4 % 103 = k := by omega
  rw [e]
  have hx0 : ax_rng 2147483648 2147483657 (ρ 0) := by
    obtain ⟨z, hz, z1, z2, z3⟩ := ax_gi hE 0 2147483648 2147483657 (by decide) rfl
    unfold ax_rng
    rw [hz, Nat.mul_div_cancel_left z (by decide)]
    exact ⟨z2, z3⟩
  exact ⟨fun h1 h2 => by omega, fun h1 h2 => hx0, fun h1 h2 => by omega⟩
theorem axq1_bS2 : ax_RO ax_wM1 (ax_XM 1) axu1_bS2 := by
  intro ρ hp hE hT
  have x0 : ax_M1 203 hp := (ax_XF_lt (by decide)).mp (ax_gx hE (2, []) (by decide))
  obtain ⟨k, hk, k1, k2, k3⟩ := ax_gi hE 2 2147483701 2147483724 (by decide) rfl
  obtain ⟨k4, k5⟩ := ax_bi_pos k1 (by omega)
  obtain ⟨a, ha, a1, a2, a3⟩ := ax_gi hE 3 2147483648 2147483649 (by decide) rfl
  obtain ⟨a4, a5⟩ := ax_bi_pos a1 (by omega)
  have hi : ρ 1 = 4 * (103 * a + k) := ax_gi3 hE 15 19 11 7 (by decide) (by decide) ha (by omega) hk (by omega)
  refine ⟨(fun y hy => by cases hy), _, List.mem_cons_self, ρ, fun _ _ => rfl, ax_px hE (by decide) (fun y hy => ?_)⟩
  cases List.mem_singleton.mp hy
  show ax_XF (ax_XM 1) (500 + 2) [822, ρ 1, ρ 0] hp
  refine (ax_XF_wr (x := 2) (by decide)).mpr ?_
  show ax_M1 203 (ax_upd hp 822 (ρ 1) (ρ 0))
  refine ax_M1_set hT.1 x0 rfl ?_
  have e : ρ 1 / 4 % 103 = k := by omega
  rw [e]
  have hx0 : ax_rng 2147483648 2147483657 (ρ 0) := by
    obtain ⟨z, hz, z1, z2, z3⟩ := ax_gi hE 0 2147483648 2147483657 (by decide) rfl
    unfold ax_rng
    rw [hz, Nat.mul_div_cancel_left z (by decide)]
    exact ⟨z2, z3⟩
  exact ⟨fun h1 h2 => by omega, fun h1 h2 => hx0, fun h1 h2 => by omega⟩
theorem axq1_wR2 : ax_RO ax_wM1 (ax_XM 1) axu1_wR2 := by
  intro ρ hp hE hT
  obtain ⟨kk, m, f, e1, e2⟩ : ax_M1 202 hp := (ax_XF_lt (by decide)).mp (ax_gx hE (1, []) (by decide))
  obtain ⟨k, hk, k1, k2, k3⟩ := ax_gi hE 1 2147483701 2147483724 (by decide) rfl
  obtain ⟨k4, k5⟩ := ax_bi_pos k1 (by omega)
  obtain ⟨a, ha, a1, a2, a3⟩ := ax_gi hE 2 2147483648 2147483668 (by decide) rfl
  obtain ⟨a4, a5⟩ := ax_bi_pos a1 (by omega)
  have hi : ρ 0 = 4 * (103 * a + k) := ax_gi3 hE 11 15 7 3 (by decide) (by decide) ha (by omega) hk (by omega)
  have hl := ax_len hT (q := 202) rfl (n := 2163) rfl e1
  obtain ⟨v, hv⟩ := ax_get_some (f := f) (i := 103 * a + k) (by omega)
  have h3 := e2 _ _ hv
  rw [show (103 * a + k) % 103 = k by omega] at h3
  obtain ⟨v1, v2, -, -⟩ := ax_cellI hT (q := 202) (g := 72) (n := 2163) rfl rfl e1 hv
  obtain ⟨h4, h5⟩ := h3.2.1 (by omega) (by omega)
  obtain ⟨ρ', h1, h2⟩ := ax_pf (q := 202) (j := 103 * a + k) (t := (0, 2147483648, 2147483657)) hE (a := 818) (i := 3) (by decide) (by decide) (ax_vl_c (by decide)) hi e1 hv (Or.inl ⟨rfl, v1, v2, h4, h5⟩)
  exact ⟨(fun x hx => by cases hx), _, List.mem_cons_self, ρ', h1, h2⟩
theorem axq1_bR2 : ax_RO ax_wM1 (ax_XM 1) axu1_bR2 := by
  intro ρ hp hE hT
  obtain ⟨kk, m, f, e1, e2⟩ : ax_M1 203 hp := (ax_XF_lt (by decide)).mp (ax_gx hE (2, []) (by decide))
  obtain ⟨k, hk, k1, k2, k3⟩ := ax_gi hE 1 2147483701 2147483724 (by decide) rfl
  obtain ⟨k4, k5⟩ := ax_bi_pos k1 (by omega)
  obtain ⟨a, ha, a1, a2, a3⟩ := ax_gi hE 2 2147483648 2147483649 (by decide) rfl
  obtain ⟨a4, a5⟩ := ax_bi_pos a1 (by omega)
  have hi : ρ 0 = 4 * (103 * a + k) := ax_gi3 hE 11 15 7 3 (by decide) (by decide) ha (by omega) hk (by omega)
  have hl := ax_len hT (q := 203) rfl (n := 206) rfl e1
  obtain ⟨v, hv⟩ := ax_get_some (f := f) (i := 103 * a + k) (by omega)
  have h3 := e2 _ _ hv
  rw [show (103 * a + k) % 103 = k by omega] at h3
  obtain ⟨v1, v2, -, -⟩ := ax_cellI hT (q := 203) (g := 73) (n := 206) rfl rfl e1 hv
  obtain ⟨h4, h5⟩ := h3.2.1 (by omega) (by omega)
  obtain ⟨ρ', h1, h2⟩ := ax_pf (q := 203) (j := 103 * a + k) (t := (0, 2147483648, 2147483657)) hE (a := 822) (i := 3) (by decide) (by decide) (ax_vl_c (by decide)) hi e1 hv (Or.inl ⟨rfl, v1, v2, h4, h5⟩)
  exact ⟨(fun x hx => by cases hx), _, List.mem_cons_self, ρ', h1, h2⟩
theorem axq1_wSk3 : ax_RO ax_wM1 (ax_XM 1) axu1_wSk3 := by
  intro ρ hp hE hT
  have x0 : ax_M1 202 hp := (ax_XF_lt (by decide)).mp (ax_gx hE (1, []) (by decide))
  obtain ⟨k, hk, k1, k2, k3⟩ := ax_gi hE 2 2147483725 2147483736 (by decide) rfl
  obtain ⟨k4, k5⟩ := ax_bi_pos k1 (by omega)
  obtain ⟨a, ha, a1, a2, a3⟩ := ax_gi hE 3 2147483648 2147483668 (by decide) rfl
  obtain ⟨a4, a5⟩ := ax_bi_pos a1 (by omega)
  have hi : ρ 1 = 4 * (103 * a + k) := ax_gi3 hE 15 19 11 7 (by decide) (by decide) ha (by omega) hk (by omega)
  refine ⟨(fun y hy => by cases hy), _, List.mem_cons_self, ρ, fun _ _ => rfl, ax_px hE (by decide) (fun y hy => ?_)⟩
  cases List.mem_singleton.mp hy
  show ax_XF (ax_XM 1) (500 + 1) [818, ρ 1, ρ 0] hp
  refine (ax_XF_wr (x := 1) (by decide)).mpr ?_
  show ax_M1 202 (ax_upd hp 818 (ρ 1) (ρ 0))
  refine ax_M1_set hT.1 x0 rfl ?_
  have e : ρ 1 / 4 % 103 = k := by omega
  rw [e]
  have hx0 : ax_rng 2147483647 2147483687 (ρ 0) := by
    obtain ⟨z, hz, z1, z2, z3⟩ := ax_gi hE 0 2147483647 2147483687 (by decide) rfl
    unfold ax_rng
    rw [hz, Nat.mul_div_cancel_left z (by decide)]
    exact ⟨z2, z3⟩
  exact ⟨fun h1 h2 => by omega, fun h1 h2 => by omega, fun h1 h2 => hx0⟩
theorem axq1_wSs3 : ax_RO ax_wM1 (ax_XM 1) axu1_wSs3 := by
  intro ρ hp hE hT
  have x0 : ax_M1 202 hp := (ax_XF_lt (by decide)).mp (ax_gx hE (1, []) (by decide))
  obtain ⟨k, hk, k1, k2, k3⟩ := ax_gi hE 2 2147483725 2147483736 (by decide) rfl
  obtain ⟨k4, k5⟩ := ax_bi_pos k1 (by omega)
  obtain ⟨a, ha, a1, a2, a3⟩ := ax_gi hE 3 2147483648 2147483668 (by decide) rfl
  obtain ⟨a4, a5⟩ := ax_bi_pos a1 (by omega)
  have hi : ρ 1 = 4 * (103 * a + k) := ax_gi3 hE 15 19 11 7 (by decide) (by decide) ha (by omega) hk (by omega)
  refine ⟨(fun y hy => by cases hy), _, List.mem_cons_self, ρ, fun _ _ => rfl, ax_px hE (by decide) (fun y hy => ?_)⟩
  cases List.mem_singleton.mp hy
  show ax_XF (ax_XM 1) (500 + 1) [818, ρ 1, ρ 0] hp
  refine (ax_XF_wr (x := 1) (by decide)).mpr ?_
  show ax_M1 202 (ax_upd hp 818 (ρ 1) (ρ 0))
  refine ax_M1_set hT.1 x0 rfl ?_
  have e : ρ 1 / 4 % 103 = k := by omega
  rw [e]
  have hx0 : ax_rng 2147483647 2147483687 (ρ 0) := by
    obtain ⟨z, hz, z1, z2, z3⟩ := ax_gi hE 0 2147483647 2147483687 (by decide) rfl
    unfold ax_rng
    rw [hz, Nat.mul_div_cancel_left z (by decide)]
    exact ⟨z2, z3⟩
  exact ⟨fun h1 h2 => by omega, fun h1 h2 => by omega, fun h1 h2 => hx0⟩
theorem axq1_bS3 : ax_RO ax_wM1 (ax_XM 1) axu1_bS3 := by
  intro ρ hp hE hT
  have x0 : ax_M1 203 hp := (ax_XF_lt (by decide)).mp (ax_gx hE (2, []) (by decide))
  obtain ⟨k, hk, k1, k2, k3⟩ := ax_gi hE 2 2147483725 2147483736 (by decide) rfl
  obtain ⟨k4, k5⟩ := ax_bi_pos k1 (by omega)
  obtain ⟨a, ha, a1, a2, a3⟩ := ax_gi hE 3 2147483648 2147483649 (by decide) rfl
  obtain ⟨a4, a5⟩ := ax_bi_pos a1 (by omega)
  have hi : ρ 1 = 4 * (103 * a + k) := ax_gi3 hE 15 19 11 7 (by decide) (by decide) ha (by omega) hk (by omega)
  refine ⟨(fun y hy => by cases hy), _, List.mem_cons_self, ρ, fun _ _ => rfl, ax_px hE (by decide) (fun y hy => ?_)⟩
  cases List.mem_singleton.mp hy
  show ax_XF (ax_XM 1) (500 + 2) [822, ρ 1, ρ 0] hp
  refine (ax_XF_wr (x := 2) (by decide)).mpr ?_
  show ax_M1 203 (ax_upd hp 822 (ρ 1) (ρ 0))
  refine ax_M1_set hT.1 x0 rfl ?_
  have e : ρ 1 / 4 % 103 = k := by omega
  rw [e]
  have hx0 : ax_rng 2147483647 2147483687 (ρ 0) := by
    obtain ⟨z, hz, z1, z2, z3⟩ := ax_gi hE 0 2147483647 2147483687 (by decide) rfl
    unfold ax_rng
    rw [hz, Nat.mul_div_cancel_left z (by decide)]
    exact ⟨z2, z3⟩
  exact ⟨fun h1 h2 => by omega, fun h1 h2 => by omega, fun h1 h2 => hx0⟩
theorem axq1_wR3 : ax_RO ax_wM1 (ax_XM 1) axu1_wR3 := by
  intro ρ hp hE hT
  obtain ⟨kk, m, f, e1, e2⟩ : ax_M1 202 hp := (ax_XF_lt (by decide)).mp (ax_gx hE (1, []) (by decide))
  obtain ⟨k, hk, k1, k2, k3⟩ := ax_gi hE 1 2147483725 2147483736 (by decide) rfl
  obtain ⟨k4, k5⟩ := ax_bi_pos k1 (by omega)
  obtain ⟨a, ha, a1, a2, a3⟩ := ax_gi hE 2 2147483648 2147483668 (by decide) rfl
  obtain ⟨a4, a5⟩ := ax_bi_pos a1 (by omega)
  have hi : ρ 0 = 4 * (103 * a + k) := ax_gi3 hE 11 15 7 3 (by decide) (by decide) ha (by omega) hk (by omega)
  have hl := ax_len hT (q := 202) rfl (n := 2163) rfl e1
  obtain ⟨v, hv⟩ := ax_get_some (f := f) (i := 103 * a + k) (by omega)
  have h3 := e2 _ _ hv
  rw [show (103 * a + k) % 103 = k by omega] at h3
  obtain ⟨v1, v2, -, -⟩ := ax_cellI hT (q := 202) (g := 72) (n := 2163) rfl rfl e1 hv
  obtain ⟨h4, h5⟩ := h3.2.2 (by omega) (by omega)
  obtain ⟨ρ', h1, h2⟩ := ax_pf (q := 202) (j := 103 * a + k) (t := (0, 2147483647, 2147483687)) hE (a := 818) (i := 3) (by decide) (by decide) (ax_vl_c (by decide)) hi e1 hv (Or.inl ⟨rfl, v1, v2, h4, h5⟩)
  exact ⟨(fun x hx => by cases hx), _, List.mem_cons_self, ρ', h1, h2⟩
theorem axq1_bR3 : ax_RO ax_wM1 (ax_XM 1) axu1_bR3 := by
  intro ρ hp hE hT
  obtain ⟨kk, m, f, e1, e2⟩ : ax_M1 203 hp := (ax_XF_lt (by decide)).mp (ax_gx hE (2, []) (by decide))
  obtain ⟨k, hk, k1, k2, k3⟩ := ax_gi hE 1 2147483725 2147483736 (by decide) rfl
  obtain ⟨k4, k5⟩ := ax_bi_pos k1 (by omega)
  obtain ⟨a, ha, a1, a2, a3⟩ := ax_gi hE 2 2147483648 2147483649 (by decide) rfl
  obtain ⟨a4, a5⟩ := ax_bi_pos a1 (by omega)
  have hi : ρ 0 = 4 * (103 * a + k) := ax_gi3 hE 11 15 7 3 (by decide) (by decide) ha (by omega) hk (by omega)
  have hl := ax_len hT (q := 203) rfl (n := 206) rfl e1
  obtain ⟨v, hv⟩ := ax_get_some (f := f) (i := 103 * a + k) (by omega)
  have h3 := e2 _ _ hv
  rw [show (103 * a + k) % 103 = k by omega] at h3
  obtain ⟨v1, v2, -, -⟩ := ax_cellI hT (q := 203) (g := 73) (n := 206) rfl rfl e1 hv
  obtain ⟨h4, h5⟩ := h3.2.2 (by omega) (by omega)
  obtain ⟨ρ', h1, h2⟩ := ax_pf (q := 203) (j := 103 * a + k) (t := (0, 2147483647, 2147483687)) hE (a := 822) (i := 3) (by decide) (by decide) (ax_vl_c (by decide)) hi e1 hv (Or.inl ⟨rfl, v1, v2, h4, h5⟩)
  exact ⟨(fun x hx => by cases hx), _, List.mem_cons_self, ρ', h1, h2⟩
theorem axq1_wSk4 : ax_RO ax_wM1 (ax_XM 1) axu1_wSk4 := by
  intro ρ hp hE hT
  have x0 : ax_M1 202 hp := (ax_XF_lt (by decide)).mp (ax_gx hE (1, []) (by decide))
  obtain ⟨k, hk, k1, k2, k3⟩ := ax_gi hE 2 2147483737 2147483750 (by decide) rfl
  obtain ⟨k4, k5⟩ := ax_bi_pos k1 (by omega)
  obtain ⟨a, ha, a1, a2, a3⟩ := ax_gi hE 3 2147483648 2147483668 (by decide) rfl
  obtain ⟨a4, a5⟩ := ax_bi_pos a1 (by omega)
  have hi : ρ 1 = 4 * (103 * a + k) := ax_gi3 hE 15 19 11 7 (by decide) (by decide) ha (by omega) hk (by omega)
  refine ⟨(fun y hy => by cases hy), _, List.mem_cons_self, ρ, fun _ _ => rfl, ax_px hE (by decide) (fun y hy => ?_)⟩
  cases List.mem_singleton.mp hy
  show ax_XF (ax_XM 1) (500 + 1) [818, ρ 1, ρ 0] hp
  refine (ax_XF_wr (x := 1) (by decide)).mpr ?_
  show ax_M1 202 (ax_upd hp 818 (ρ 1) (ρ 0))
  refine ax_M1_set hT.1 x0 rfl ?_
  have e : ρ 1 / 4 % 103 = k := by omega
  rw [e]
  exact ax_sg_none (by omega)
theorem axq1_wSs4 : ax_RO ax_wM1 (ax_XM 1) axu1_wSs4 := by
  intro ρ hp hE hT
  have x0 : ax_M1 202 hp := (ax_XF_lt (by decide)).mp (ax_gx hE (1, []) (by decide))
  obtain ⟨k, hk, k1, k2, k3⟩ := ax_gi hE 2 2147483737 2147483750 (by decide) rfl
  obtain ⟨k4, k5⟩ := ax_bi_pos k1 (by omega)
  obtain ⟨a, ha, a1, a2, a3⟩ := ax_gi hE 3 2147483648 2147483668 (by decide) rfl
  obtain ⟨a4, a5⟩ := ax_bi_pos a1 (by omega)
  have hi : ρ 1 = 4 * (103 * a + k) := ax_gi3 hE 15 19 11 7 (by decide) (by decide) ha (by omega) hk (by omega)
  refine ⟨(fun y hy => by cases hy), _, List.mem_cons_self, ρ, fun _ _ => rfl, ax_px hE (by decide) (fun y hy => ?_)⟩
  cases List.mem_singleton.mp hy
  show ax_XF (ax_XM 1) (500 + 1) [818, ρ 1, ρ 0] hp
  refine (ax_XF_wr (x := 1) (by decide)).mpr ?_
  show ax_M1 202 (ax_upd hp 818 (ρ 1) (ρ 0))
  refine ax_M1_set hT.1 x0 rfl ?_
  have e : ρ 1 / 4 % 103 = k := by omega
  rw [e]
  exact ax_sg_none (by omega)
theorem axq1_bS4 : ax_RO ax_wM1 (ax_XM 1) axu1_bS4 := by
  intro ρ hp hE hT
  have x0 : ax_M1 203 hp := (ax_XF_lt (by decide)).mp (ax_gx hE (2, []) (by decide))
  obtain ⟨k, hk, k1, k2, k3⟩ := ax_gi hE 2 2147483737 2147483750 (by decide) rfl
  obtain ⟨k4, k5⟩ := ax_bi_pos k1 (by omega)
  obtain ⟨a, ha, a1, a2, a3⟩ := ax_gi hE 3 2147483648 2147483649 (by decide) rfl
  obtain ⟨a4, a5⟩ := ax_bi_pos a1 (by omega)
  have hi : ρ 1 = 4 * (103 * a + k) := ax_gi3 hE 15 19 11 7 (by decide) (by decide) ha (by omega) hk (by omega)
  refine ⟨(fun y hy => by cases hy), _, List.mem_cons_self, ρ, fun _ _ => rfl, ax_px hE (by decide) (fun y hy => ?_)⟩
  cases List.mem_singleton.mp hy
  show ax_XF (ax_XM 1) (500 + 2) [822, ρ 1, ρ 0] hp
  refine (ax_XF_wr (x := 2) (by decide)).mpr ?_
  show ax_M1 203 (ax_upd hp 822 (ρ 1) (ρ 0))
  refine ax_M1_set hT.1 x0 rfl ?_
  have e : ρ 1 / 4 % 103 = k := by omega
  rw [e]
  exact ax_sg_none (by omega)
theorem axq1_wM : ax_RO ax_wM1 (ax_XM 1) axu1_wM := by
  intro ρ hp hE hT
  have x0 : ax_M1 202 hp := (ax_XF_lt (by decide)).mp (ax_gx hE (1, []) (by decide))
  obtain ⟨kk, m, f, e1, e2⟩ := x0
  obtain ⟨a, b, c, ha, hb, hc, la, lb, lc, hs⟩ := ax_gs hE 7 412 11 (by decide)
  have ha' : ρ 1 = 4 * a := ha
  have hc' : ρ 2 = 4 * c := hc
  obtain ⟨k, hk, k1, k2, k3⟩ := ax_gi hE 1 2147483648 2147485707 (by decide) rfl
  obtain ⟨k4, k5⟩ := ax_bi_pos k1 (by omega)
  have hka : k = a := by omega
  subst hka
  have hb' : b = 103 := by have : (412 : Nat) = 4 * b := hb; omega
  subst hb'
  have hck := ax_sum3 la (by decide) lc k4 hs
  obtain ⟨k', m', l', f1, f2⟩ := ax_gF hE 818 11 3 202 (ρ 2 / 4) (ρ 0) (by decide) (by rw [ax_vl_c (by decide)]) rfl rfl
  rw [e1] at f1
  cases f1
  have h3 := e2 _ _ f2
  rw [show ρ 2 / 4 % 103 = ρ 1 / 4 % 103 by omega] at h3
  refine ⟨(fun y hy => by cases hy), _, List.mem_cons_self, ρ, fun _ _ => rfl, ax_px hE (by decide) (fun y hy => ?_)⟩
  cases List.mem_singleton.mp hy
  show ax_XF (ax_XM 1) (500 + 1) [818, ρ 1, ρ 0] hp
  refine (ax_XF_wr (x := 1) (by decide)).mpr ?_
  show ax_M1 202 (ax_upd hp 818 (ρ 1) (ρ 0))
  exact ax_M1_set hT.1 ⟨_, _, _, e1, e2⟩ rfl h3
theorem axq1_fp0 : ax_RO ax_wM1 (ax_XM 1) axu1_fp0 := by
  intro ρ hp hE hT
  obtain ⟨k, m, l, e1⟩ := ax_cellT hT (q := 174) (g := 44) rfl
  refine ⟨(fun y hy => by cases hy), _, List.mem_cons_self, ρ, fun _ _ => rfl, ax_px hE (by decide) (fun y hy => ?_)⟩
  cases List.mem_singleton.mp hy
  refine (ax_XF_lt (x := 4) (by decide)).mpr ⟨k, m, l, e1, fun q _ h => ?_⟩
  rw [show ax_vl ρ 0 = 0 from rfl] at h
  omega
theorem axq1_fpN : ax_RO ax_wM1 (ax_XM 1) axu1_fpN := by
  intro ρ hp hE hT
  obtain ⟨kk, m, f, e1, e2⟩ : ax_M4 (ρ 0) hp := (ax_XF_lt (by decide)).mp (ax_gx hE (4, [3]) (by decide))
  obtain ⟨p, hp, p1, p2, p3⟩ := ax_gi hE 0 2147483648 2147483659 (by decide) rfl
  obtain ⟨p4, p5⟩ := ax_bi_pos p1 (by omega)
  obtain ⟨a, b, c, ha, hb, hc, la, lb, lc, hs⟩ := ax_gs hE 164 3 15 (by decide)
  have ha' : (164 : Nat) = 4 * a := ha
  have ha'' : a = 41 := by omega
  subst ha''
  have hb' : ρ 0 = 4 * b := hb
  have hpb : p = b := by omega
  subst hpb
  have hj := ax_sum3 la p4 lc (by decide) hs
  obtain ⟨a2, b2, c2, ha2, hb2, hc2, la2, lb2, lc2, hs2⟩ := ax_gs hE 3 4 7 (by decide)
  have ha2' : ρ 0 = 4 * a2 := ha2
  have hc2' : ρ 1 = 4 * c2 := hc2
  have hpa : p = a2 := by omega
  subst hpa
  have hb2' : b2 = 1 := by have : (4 : Nat) = 4 * b2 := hb2; omega
  have hcd := ax_sum1 hb2' p4 lc2 hs2
  have hc' : ρ 3 = 4 * c := hc
  obtain ⟨k', m', l', f1, f2⟩ := ax_gF hE 706 15 11 174 (ρ 3 / 4) (ρ 2) (by decide) (by rw [ax_vl_c (by decide)]) rfl rfl
  rw [e1] at f1
  cases f1
  obtain ⟨x, hx, x1, x2, x3⟩ := ax_gi hE 2 2147483649 2147483649 (by decide) rfl
  refine ⟨(fun y hy => by cases hy), _, List.mem_cons_self, ρ, fun _ _ => rfl, ax_px hE (by decide) (fun y hy => ?_)⟩
  cases List.mem_singleton.mp hy
  refine (ax_XF_lt (x := 4) (by decide)).mpr ⟨_, _, _, e1, fun q h1 h2 => ?_⟩
  replace h2 : q < ρ 1 / 4 := h2
  rcases Nat.lt_or_ge q (ρ 0 / 4) with h | h
  · exact e2 q h1 h
  · have e : ρ 3 / 4 = 41 + q := by omega
    rw [e] at f2
    rw [f2]
    intro z
    have z := Option.some.inj z
    have : x = 0 := by omega
    rw [this, ax_bi_def] at x2
    omega
theorem axq1_fpF : ax_RO ax_wM1 (ax_XM 1) axu1_fpF := by
  intro ρ hp hE hT
  obtain ⟨p, hp, p1, p2, p3⟩ := ax_gi hE 0 2147483648 2147483659 (by decide) rfl
  obtain ⟨p4, p5⟩ := ax_bi_pos p1 (by omega)
  obtain ⟨a, b, c, ha, hb, hc, la, lb, lc, hs⟩ := ax_gs hE 164 3 11 (by decide)
  have ha' : (164 : Nat) = 4 * a := ha
  have ha'' : a = 41 := by omega
  subst ha''
  have hb' : ρ 0 = 4 * b := hb
  have hpb : p = b := by omega
  subst hpb
  have hj := ax_sum3 la p4 lc (by decide) hs
  have hc' : ρ 2 = 4 * c := hc
  obtain ⟨k', m', l', f1, f2⟩ := ax_gF hE 706 11 7 174 (ρ 2 / 4) (ρ 1) (by decide) (by rw [ax_vl_c (by decide)]) rfl rfl
  obtain ⟨x, hx, x1, x2, x3⟩ := ax_gi hE 1 2147483648 2147483648 (by decide) rfl
  refine ⟨(fun y hy => by cases hy), _, List.mem_cons_self, ρ, fun _ _ => rfl, ax_px hE (by decide) (fun y hy => ?_)⟩
  cases List.mem_singleton.mp hy
  refine (ax_XF_lt (x := 3) (by decide)).mpr ⟨k', m', l', f1, p, by omega, ?_⟩
  have e : ρ 2 / 4 = 41 + p := by omega
  rw [e] at f2
  rw [f2, hx]
  have : x = 0 := by rw [ax_bi_def] at x2 x3; omega
  rw [this]
theorem axq1_fpX : ax_RO ax_wM1 (ax_XM 1) axu1_fpX := by
  intro ρ hp hE hT
  obtain ⟨kk, m, f, e1, q, q1, q2⟩ : ax_M3 hp := (ax_XF_lt (by decide)).mp (ax_gx hE (3, []) (by decide))
  obtain ⟨kk', m', f', e3, e4⟩ : ax_M4 (ρ 0) hp := (ax_XF_lt (by decide)).mp (ax_gx hE (4, [3]) (by decide))
  obtain ⟨p, hp, p1, p2, p3⟩ := ax_gi hE 0 2147483660 2147483660 (by decide) rfl
  obtain ⟨p4, p5⟩ := ax_bi_pos p1 (by omega)
  rw [e1] at e3
  cases e3
  exact absurd q2 (e4 q q1 (by omega))
theorem axq1_lg0 : ax_RO ax_wM1 (ax_XM 1) axu1_lg0 := by
  intro ρ hp hE hT
  obtain ⟨k, m, l, e1⟩ := ax_cellT hT (q := 191) (g := 61) rfl
  obtain ⟨ρ', h1, h2⟩ := ax_pn (K := ax_sum l + 1) (xf := [(5, [3, 4])]) hE (by decide) (fun ρ' h1 h2 x hx => by
    cases List.mem_singleton.mp hx
    refine (ax_XF_lt (x := 5) (by decide)).mpr ⟨k, m, l, e1, ?_⟩
    show ax_sum l + 4 / 4 ≤ ρ' 0 / 4
    rw [h2]
    omega)
  exact ⟨(fun x hx => by cases hx), _, List.mem_cons_self, ρ', h1, h2⟩
theorem axq1_lgN : ax_RO ax_wM1 (ax_XM 1) axu1_lgN := by
  intro ρ hp hE hT
  obtain ⟨k, m, l, e1, e2⟩ : ax_M5 (ρ 0) (ρ 1) hp := (ax_XF_lt (by decide)).mp (ax_gx hE (5, [3, 7]) (by decide))
  obtain ⟨s, hs⟩ := ax_gj hE 0 (by decide) rfl
  obtain ⟨c, hc, c1, c2, c3⟩ := ax_gi hE 1 2147483649 2147483649 (by decide) rfl
  obtain ⟨c4, c5⟩ := ax_bi_pos c1 (by omega)
  obtain ⟨ρ', h1, h2⟩ := ax_pn (K := ax_sum l) (xf := [(5, [11, 0]), (1030, [11, 3])]) hE (by decide) (fun ρ' h1 h2 x hx => by
    rcases List.mem_cons.mp hx with e | e
    · subst e
      refine (ax_XF_lt (x := 5) (by decide)).mpr ⟨k, m, l, e1, ?_⟩
      show ax_sum l + 0 / 4 ≤ ρ' 2 / 4
      rw [h2]
      omega
    · cases List.mem_singleton.mp e
      refine (ax_XF_bi (o := 30) (by decide)).mpr (Or.inr ⟨rfl, ?_⟩)
      show ρ' 2 < ρ' 0
      rw [h2, h1 0 (by decide), hs]
      omega)
  exact ⟨(fun x hx => by cases hx), _, List.mem_cons_self, ρ', h1, h2⟩
theorem axq1_lgS : ax_RO ax_wM1 (ax_XM 1) axu1_lgS := by
  intro ρ hp hE hT
  obtain ⟨k, m, l, e1, e2⟩ : ax_M5 (ρ 2) (ρ 3) hp := (ax_XF_lt (by decide)).mp (ax_gx hE (5, [11, 15]) (by decide))
  obtain ⟨k', m', l', f1, f2⟩ := ax_gF hE 774 7 19 191 (ρ 1 / 4) (ρ 4) (by decide) (by rw [ax_vl_c (by decide)]) rfl rfl
  rw [e1] at f1
  cases f1
  have hc : rx_bi (ρ 0 / 4) < rx_bi (ρ 4 / 4) := ax_gc hE 2 3 19 (by decide) (by decide)
  obtain ⟨x, hx, x1, x2, x3⟩ := ax_gi hE 0 2147483648 2147583648 (by decide) rfl
  obtain ⟨x4, x5⟩ := ax_bi_pos x1 (by omega)
  obtain ⟨o, ho, o1, o2, o3⟩ := ax_gi hE 4 2147483648 2147583648 (by decide) rfl
  obtain ⟨o4, o5⟩ := ax_bi_pos o1 (by omega)
  have d4 : ∀ z : Nat, 4 * z / 4 = z := fun z => by omega
  rw [hx, ho, d4, d4] at hc
  have hg := ax_hg_upd (a := 774) (i := ρ 1) (v := ρ 0) hT.1 (show rx_hg hp (774 / 4 - 2) = _ from e1) 191
  rw [if_pos (show 191 = 774 / 4 - 2 from rfl)] at hg
  have hsum := ax_sum_set l (ρ 1 / 4) (ρ 4) (ρ 0) f2
  refine ⟨(fun y hy => by cases hy), _, List.mem_cons_self, ρ, fun _ _ => rfl, ax_px hE (by decide) (fun y hy => ?_)⟩
  cases List.mem_singleton.mp hy
  show ax_XF (ax_XM 1) (500 + 5) [774, ρ 1, ρ 0, ρ 2, 4] hp
  refine (ax_XF_wr (x := 5) (by decide)).mpr ?_
  show ax_M5 (ρ 2) 4 (ax_upd hp 774 (ρ 1) (ρ 0))
  exact ⟨_, _, _, hg, by omega⟩
theorem axq1_ro0 : ax_RO ax_wM1 (ax_XM 1) axu1_ro0 := by
  intro ρ hp hE hT
  obtain ⟨ρ', h1, h2⟩ := ax_pn (K := 2 ^ 64) (xf := [(6, [7, 1, 3])]) hE (by decide) (fun ρ' h1 h2 x hx => by
    cases List.mem_singleton.mp hx
    refine (ax_XF_lt (x := 6) (by decide)).mpr ?_
    show ax_w64 1 &&& ax_w64 (ρ' 0) = 0 ∧ 2 ^ 64 - ax_w64 1 ≤ ρ' 1 / 4
    have e : ax_w64 1 = 0 := by decide
    rw [e, h2]
    exact ⟨Nat.zero_and _, by omega⟩)
  exact ⟨(fun x hx => by cases hx), _, List.mem_cons_self, ρ', h1, h2⟩
theorem axq1_roS0 : ax_RO ax_wM1 (ax_XM 1) axu1_roS0 := by
  intro ρ hp hE hT
  obtain ⟨m1, m2⟩ : ax_M6 (ρ 0) (ρ 1) (ρ 2) := (ax_XF_lt (by decide)).mp (ax_gx hE (6, [3, 7, 11]) (by decide))
  obtain ⟨kc, hk⟩ := ax_gj hE 0 (by decide) rfl
  have hor : ρ 3 = rx_lng (rx_j_or (ρ 1 / 4) (ρ 2 / 4)) := by
    have h := (ax_XF_bi (o := 100) (by decide)).mp (ax_gx hE (1100, [7, 11, 15]) (by decide))
    replace h : ax_BI 100 [ρ 1, ρ 2, ρ 3] := h
    rcases h with ⟨h, -⟩ | ⟨j, j1, j2, -, -, h⟩ | ⟨h, -⟩
    · omega
    · have : j = 4 := by omega
      subst this
      exact h
    · omega
  have hne : ax_w64 (ρ 2) ≠ 0 := by
    intro h0
    have h := (ax_XF_bi (o := 112) (by decide)).mp (ax_gx hE (1112, [11, 1, 19]) (by decide))
    replace h : ax_BI 112 [ρ 2, 1, ρ 4] := h
    rcases h with ⟨h, -⟩ | ⟨j, j1, j2, -⟩ | ⟨-, -, h⟩
    · omega
    · omega
    · replace h : ρ 4 = 4 * rx_f_lcmp (ρ 2 / 4) 0 := h
      rw [ax_lcmp_0 h0] at h
      obtain ⟨c, hc, c1, c2, c3⟩ := ax_gi hE 4 2147483647 2147483647 (by decide) rfl
      have : c = 0 := by omega
      rw [this, ax_bi_def] at c2 c3
      omega
  have hgt := ax_or_gt m1 hne
  have hs3 : ax_w64 (ρ 3) = ax_w64 (ρ 1) ||| ax_w64 (ρ 2) := by
    have e : ρ 3 / 4 = rx_j_or (ρ 1 / 4) (ρ 2 / 4) := by rw [hor]; show (4 * _ + 1) / 4 = _; omega
    have e2 : ax_w64 (ρ 3) = rx_j_or (ρ 1 / 4) (ρ 2 / 4) % 2 ^ 64 := by unfold ax_w64; rw [e]
    rw [e2, ax_j_or]
    exact Nat.mod_eq_of_lt (Nat.or_lt_two_pow (Nat.mod_lt _ (by decide)) (Nat.mod_lt _ (by decide)))
  have hlt : ax_w64 (ρ 3) < 2 ^ 64 := Nat.mod_lt _ (by decide)
  obtain ⟨ρ', h1, h2⟩ := ax_pn (K := 2 ^ 64 - ax_w64 (ρ 3)) (xf := [(7, [23, 15]), (1030, [23, 3])]) hE (by decide) (fun ρ' h1 h2 x hx => by
    rcases List.mem_cons.mp hx with e | e
    · subst e
      refine (ax_XF_lt (x := 7) (by decide)).mpr ?_
      show 2 ^ 64 - ax_w64 (ρ' 3) ≤ ρ' 5 / 4
      rw [h2, h1 3 (by decide)]
      omega
    · cases List.mem_singleton.mp e
      refine (ax_XF_bi (o := 30) (by decide)).mpr (Or.inr ⟨rfl, ?_⟩)
      show ρ' 5 < ρ' 0
      rw [h2, h1 0 (by decide)]
      rw [hs3] at hlt ⊢
      omega)
  exact ⟨(fun x hx => by cases hx), _, List.mem_cons_self, ρ', h1, h2⟩
theorem axq1_roS2 : ax_RO ax_wM1 (ax_XM 1) axu1_roS2 := by
  intro ρ hp hE hT
  obtain ⟨m1, m2⟩ : ax_M6 (ρ 0) (ρ 1) (ρ 2) := (ax_XF_lt (by decide)).mp (ax_gx hE (6, [3, 7, 11]) (by decide))
  obtain ⟨kc, hk⟩ := ax_gj hE 0 (by decide) rfl
  have hor : ρ 3 = rx_lng (rx_j_or (ρ 1 / 4) (ρ 2 / 4)) := by
    have h := (ax_XF_bi (o := 100) (by decide)).mp (ax_gx hE (1100, [7, 11, 15]) (by decide))
    replace h : ax_BI 100 [ρ 1, ρ 2, ρ 3] := h
    rcases h with ⟨h, -⟩ | ⟨j, j1, j2, -, -, h⟩ | ⟨h, -⟩
    · omega
    · have : j = 4 := by omega
      subst this
      exact h
    · omega
  have hne : ax_w64 (ρ 2) ≠ 0 := by
    intro h0
    have h := (ax_XF_bi (o := 112) (by decide)).mp (ax_gx hE (1112, [11, 1, 19]) (by decide))
    replace h : ax_BI 112 [ρ 2, 1, ρ 4] := h
    rcases h with ⟨h, -⟩ | ⟨j, j1, j2, -⟩ | ⟨-, -, h⟩
    · omega
    · omega
    · replace h : ρ 4 = 4 * rx_f_lcmp (ρ 2 / 4) 0 := h
      rw [ax_lcmp_0 h0] at h
      obtain ⟨c, hc, c1, c2, c3⟩ := ax_gi hE 4 2147483649 2147483649 (by decide) rfl
      have : c = 0 := by omega
      rw [this, ax_bi_def] at c2 c3
      omega
  have hgt := ax_or_gt m1 hne
  have hs3 : ax_w64 (ρ 3) = ax_w64 (ρ 1) ||| ax_w64 (ρ 2) := by
    have e : ρ 3 / 4 = rx_j_or (ρ 1 / 4) (ρ 2 / 4) := by rw [hor]; show (4 * _ + 1) / 4 = _; omega
    have e2 : ax_w64 (ρ 3) = rx_j_or (ρ 1 / 4) (ρ 2 / 4) % 2 ^ 64 := by unfold ax_w64; rw [e]
    rw [e2, ax_j_or]
    exact Nat.mod_eq_of_lt (Nat.or_lt_two_pow (Nat.mod_lt _ (by decide)) (Nat.mod_lt _ (by decide)))
  have hlt : ax_w64 (ρ 3) < 2 ^ 64 := Nat.mod_lt _ (by decide)
  obtain ⟨ρ', h1, h2⟩ := ax_pn (K := 2 ^ 64 - ax_w64 (ρ 3)) (xf := [(7, [23, 15]), (1030, [23, 3])]) hE (by decide) (fun ρ' h1 h2 x hx => by
    rcases List.mem_cons.mp hx with e | e
    · subst e
      refine (ax_XF_lt (x := 7) (by decide)).mpr ?_
      show 2 ^ 64 - ax_w64 (ρ' 3) ≤ ρ' 5 / 4
      rw [h2, h1 3 (by decide)]
      omega
    · cases List.mem_singleton.mp e
      refine (ax_XF_bi (o := 30) (by decide)).mpr (Or.inr ⟨rfl, ?_⟩)
      show ρ' 5 < ρ' 0
      rw [h2, h1 0 (by decide)]
      rw [hs3] at hlt ⊢
      omega)
  exact ⟨(fun x hx => by cases hx), _, List.mem_cons_self, ρ', h1, h2⟩
theorem axq1_roN : ax_RO ax_wM1 (ax_XM 1) axu1_roN := by
  intro ρ hp hE hT
  have m1 : ax_M7 (ρ 1) (ρ 2) := (ax_XF_lt (by decide)).mp (ax_gx hE (7, [7, 11]) (by decide))
  have hxo : ρ 4 = rx_lng (rx_j_xor (ρ 2 / 4) 18446744073709551615) := by
    have h := (ax_XF_bi (o := 101) (by decide)).mp (ax_gx hE (1101, [11, 73786976294838206461, 19]) (by decide))
    replace h : ax_BI 101 [ρ 2, 73786976294838206461, ρ 4] := h
    rcases h with ⟨h, -⟩ | ⟨j, j1, j2, -, -, h⟩ | ⟨h, -⟩
    · omega
    · have : j = 5 := by omega
      subst this
      exact h
    · omega
  have han : ρ 0 = rx_lng (rx_j_and (ρ 3 / 4) (ρ 4 / 4)) := by
    have h := (ax_XF_bi (o := 99) (by decide)).mp (ax_gx hE (1099, [15, 19, 3]) (by decide))
    replace h : ax_BI 99 [ρ 3, ρ 4, ρ 0] := h
    rcases h with ⟨h, -⟩ | ⟨j, j1, j2, -, -, h⟩ | ⟨h, -⟩
    · omega
    · have : j = 3 := by omega
      subst this
      exact h
    · omega
  have e4 : ρ 4 / 4 = rx_j_xor (ρ 2 / 4) 18446744073709551615 := by rw [hxo]; show (4 * _ + 1) / 4 = _; omega
  have e0 : ρ 0 / 4 = rx_j_and (ρ 3 / 4) (ρ 4 / 4) := by rw [han]; show (4 * _ + 1) / 4 = _; omega
  have hx4 : rx_j_xor (ρ 2 / 4) 18446744073709551615 % 2 ^ 64 = ρ 2 / 4 % 2 ^ 64 ^^^ (2 ^ 64 - 1) := by
    rw [ax_j_xor]
    exact Nat.mod_eq_of_lt (Nat.xor_lt_two_pow (Nat.mod_lt _ (by decide)) (Nat.mod_lt _ (by decide)))
  have hw : ax_w64 (ρ 0) = ρ 3 / 4 % 2 ^ 64 &&& (ρ 2 / 4 % 2 ^ 64 ^^^ (2 ^ 64 - 1)) := by
    unfold ax_w64
    rw [e0, ax_j_and, e4, hx4]
    exact Nat.mod_eq_of_lt (Nat.lt_of_le_of_lt Nat.and_le_left (Nat.mod_lt _ (by decide)))
  refine ⟨(fun y hy => by cases hy), _, List.mem_cons_self, ρ, fun _ _ => rfl, ax_px hE (by decide) (fun y hy => ?_)⟩
  cases List.mem_singleton.mp hy
  refine (ax_XF_lt (x := 6) (by decide)).mpr ?_
  show ax_w64 (ρ 2) &&& ax_w64 (ρ 0) = 0 ∧ 2 ^ 64 - ax_w64 (ρ 2) ≤ ρ 1 / 4
  rw [hw]
  exact ⟨ax_and_not _ _, m1⟩
