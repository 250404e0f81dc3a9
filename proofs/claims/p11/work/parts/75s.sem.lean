def ax_sqb (x : Nat) : Bool := [27].any (fun y => Nat.beq x y)
theorem ax_WW1 : ax_WW ax_wM1 := ⟨rfl, rfl⟩
def ax_weq : List (List (Nat × Nat)) → List (List (Nat × Nat)) → Nat → Bool
  | a :: l, b :: m, x => (ax_sp x || (ax_sqb x || decide (a = b))) && ax_weq l m (x + 1)
  | [], [], _ => true
  | _, _, _ => false
theorem ax_weq_ok : ∀ {l m : List (List (Nat × Nat))} {k : Nat}, ax_weq l m k = true → ∀ i, ax_sp (k + i) = false → ax_sqb (k + i) = false → l[i]? = m[i]?
  | [], [], _, _, _, _, _ => rfl
  | [], _ :: _, _, h, _, _, _ => Bool.noConfusion (show false = true from h)
  | _ :: _, [], _, h, _, _, _ => Bool.noConfusion (show false = true from h)
  | a :: l, b :: m, k, h, 0, hs, hq => by
    have h : ((ax_sp k || (ax_sqb k || decide (a = b))) && ax_weq l m (k + 1)) = true := h
    obtain ⟨h1, -⟩ := rx_and2.mp h
    rw [Nat.add_zero] at hs hq
    rw [hs, hq, Bool.false_or, Bool.false_or] at h1
    have e : a = b := of_decide_eq_true h1
    show some a = some b
    rw [e]
  | a :: l, b :: m, k, h, i + 1, hs, hq => by
    have h : ((ax_sp k || (ax_sqb k || decide (a = b))) && ax_weq l m (k + 1)) = true := h
    obtain ⟨-, h2⟩ := rx_and2.mp h
    rw [List.getElem?_cons_succ, List.getElem?_cons_succ]
    exact ax_weq_ok h2 i (by rw [show k + 1 + i = k + (i + 1) by omega]; exact hs) (by rw [show k + 1 + i = k + (i + 1) by omega]; exact hq)
theorem ax_we1 {x : Nat} (hs : ax_sp x = false) (hq : ax_sqb x = false) : ax_wM1.2.2[x]? = ax_wM0.2.2[x]? := ax_weq_ok (k := 0) (show ax_weq ax_wM1.2.2 ax_wM0.2.2 0 = true by decide +kernel) x (by rw [Nat.zero_add]; exact hs) (by rw [Nat.zero_add]; exact hq)
/-- what ax_XD says of one name -/
noncomputable def ax_XMd1 (x : Nat) : Prop := ∀ (vs : List Nat) (dl md : List (Nat × Nat)) (hp hp' : rx_H), ax_wM1.2.2[x]? = some dl → dl.all (fun d => !(md.any (fun y => Nat.beq y.1 d.1 && (Nat.beq y.2 d.2 || (Nat.beq y.2 999 || Nat.beq d.2 999))))) = true → ax_HR ax_wM1 md hp hp' → ax_XM 1 x vs hp → ax_XM 1 x vs hp'
theorem ax_XMs1_11 : ax_XMd1 11 := by
  intro vs dl md hp hp' hdl hall hR hX
  match vs, hX with
  | [f], hX =>
    have hdl : [(69, 999), (68, 999), (51, 999)] = dl := Option.some.inj hdl
    subst hdl
    obtain ⟨x0, x1, x2, hX⟩ := hX
    have e0 : ay_at hp' 199 = ay_at hp 199 := ay_same hR x0 (g := 69) (ax_wc ax_WW1 ax_cg_199) (List.all_eq_true.mp hall (69, 999) (by simp))
    have e1 : ay_at hp' 198 = ay_at hp 198 := ay_same hR x1 (g := 68) (ax_wc ax_WW1 ax_cg_198) (List.all_eq_true.mp hall (68, 999) (by simp))
    have e2 : ay_at hp' 181 = ay_at hp 181 := ay_same hR x2 (g := 51) (ax_wc ax_WW1 ax_cg_181) (List.all_eq_true.mp hall (51, 999) (by simp))
    refine ⟨ay_ex_same hR x0 (g := 69) (ax_wc ax_WW1 ax_cg_199), ay_ex_same hR x1 (g := 68) (ax_wc ax_WW1 ax_cg_198), ay_ex_same hR x2 (g := 51) (ax_wc ax_WW1 ax_cg_181), ?_⟩
    show ay_M11 1 f (ay_at hp' 199) (ay_at hp' 198) (ay_at hp' 181)
    rw [e0, e1, e2]
    exact hX
  | [], _ => trivial
  | _ :: _ :: _, _ => trivial
theorem ax_XMs1_12 : ax_XMd1 12 := by
  intro vs dl md hp hp' hdl hall hR hX
  match vs, hX with
  | [k, f, v], hX =>
    have hdl : [(69, 999), (68, 999), (51, 999)] = dl := Option.some.inj hdl
    subst hdl
    obtain ⟨x0, x1, x2, hX⟩ := hX
    have e0 : ay_at hp' 199 = ay_at hp 199 := ay_same hR x0 (g := 69) (ax_wc ax_WW1 ax_cg_199) (List.all_eq_true.mp hall (69, 999) (by simp))
    have e1 : ay_at hp' 198 = ay_at hp 198 := ay_same hR x1 (g := 68) (ax_wc ax_WW1 ax_cg_198) (List.all_eq_true.mp hall (68, 999) (by simp))
    have e2 : ay_at hp' 181 = ay_at hp 181 := ay_same hR x2 (g := 51) (ax_wc ax_WW1 ax_cg_181) (List.all_eq_true.mp hall (51, 999) (by simp))
    refine ⟨ay_ex_same hR x0 (g := 69) (ax_wc ax_WW1 ax_cg_199), ay_ex_same hR x1 (g := 68) (ax_wc ax_WW1 ax_cg_198), ay_ex_same hR x2 (g := 51) (ax_wc ax_WW1 ax_cg_181), ?_⟩
    show ay_M12 1 k f v (ay_at hp' 199) (ay_at hp' 198) (ay_at hp' 181)
    rw [e0, e1, e2]
    exact hX
  | [], _ => trivial
  | [_], _ => trivial
  | [_, _], _ => trivial
  | _ :: _ :: _ :: _ :: _, _ => trivial
theorem ax_XMs1_13 : ax_XMd1 13 := by
  intro vs dl md hp hp' hdl hall hR hX
  match vs, hX with
  | [k, f, v], hX =>
    have hdl : [(69, 999), (68, 999), (51, 999)] = dl := Option.some.inj hdl
    subst hdl
    obtain ⟨x0, x1, x2, hX⟩ := hX
    have e0 : ay_at hp' 199 = ay_at hp 199 := ay_same hR x0 (g := 69) (ax_wc ax_WW1 ax_cg_199) (List.all_eq_true.mp hall (69, 999) (by simp))
    have e1 : ay_at hp' 198 = ay_at hp 198 := ay_same hR x1 (g := 68) (ax_wc ax_WW1 ax_cg_198) (List.all_eq_true.mp hall (68, 999) (by simp))
    have e2 : ay_at hp' 181 = ay_at hp 181 := ay_same hR x2 (g := 51) (ax_wc ax_WW1 ax_cg_181) (List.all_eq_true.mp hall (51, 999) (by simp))
    refine ⟨ay_ex_same hR x0 (g := 69) (ax_wc ax_WW1 ax_cg_199), ay_ex_same hR x1 (g := 68) (ax_wc ax_WW1 ax_cg_198), ay_ex_same hR x2 (g := 51) (ax_wc ax_WW1 ax_cg_181), ?_⟩
    show ay_M13 1 k f v (ay_at hp' 199) (ay_at hp' 198) (ay_at hp' 181)
    rw [e0, e1, e2]
    exact hX
  | [], _ => trivial
  | [_], _ => trivial
  | [_, _], _ => trivial
  | _ :: _ :: _ :: _ :: _, _ => trivial
theorem ax_XMs1_14 : ax_XMd1 14 := by
  intro vs dl md hp hp' hdl hall hR hX
  match vs, hX with
  | [k, f], hX =>
    have hdl : [(68, 999), (51, 999)] = dl := Option.some.inj hdl
    subst hdl
    obtain ⟨x0, x1, hX⟩ := hX
    have e0 : ay_at hp' 198 = ay_at hp 198 := ay_same hR x0 (g := 68) (ax_wc ax_WW1 ax_cg_198) (List.all_eq_true.mp hall (68, 999) (by simp))
    have e1 : ay_at hp' 181 = ay_at hp 181 := ay_same hR x1 (g := 51) (ax_wc ax_WW1 ax_cg_181) (List.all_eq_true.mp hall (51, 999) (by simp))
    refine ⟨ay_ex_same hR x0 (g := 68) (ax_wc ax_WW1 ax_cg_198), ay_ex_same hR x1 (g := 51) (ax_wc ax_WW1 ax_cg_181), ?_⟩
    show ay_M14 1 k f (ay_at hp' 198) (ay_at hp' 181)
    rw [e0, e1]
    exact hX
  | [], _ => trivial
  | [_], _ => trivial
  | _ :: _ :: _ :: _, _ => trivial
theorem ax_XMs1_15 : ax_XMd1 15 := by
  intro vs dl md hp hp' hdl hall hR hX
  match vs, hX with
  | [k, f, v], hX =>
    have hdl : [(68, 999), (51, 999)] = dl := Option.some.inj hdl
    subst hdl
    obtain ⟨x0, x1, hX⟩ := hX
    have e0 : ay_at hp' 198 = ay_at hp 198 := ay_same hR x0 (g := 68) (ax_wc ax_WW1 ax_cg_198) (List.all_eq_true.mp hall (68, 999) (by simp))
    have e1 : ay_at hp' 181 = ay_at hp 181 := ay_same hR x1 (g := 51) (ax_wc ax_WW1 ax_cg_181) (List.all_eq_true.mp hall (51, 999) (by simp))
    refine ⟨ay_ex_same hR x0 (g := 68) (ax_wc ax_WW1 ax_cg_198), ay_ex_same hR x1 (g := 51) (ax_wc ax_WW1 ax_cg_181), ?_⟩
    show ay_M15 1 k f v (ay_at hp' 198) (ay_at hp' 181)
    rw [e0, e1]
    exact hX
  | [], _ => trivial
  | [_], _ => trivial
  | [_, _], _ => trivial
  | _ :: _ :: _ :: _ :: _, _ => trivial
theorem ax_XMs1_16 : ax_XMd1 16 := by
  intro vs dl md hp hp' hdl hall hR hX
  match vs, hX with
  | [k, f, v], hX =>
    have hdl : [(68, 999), (51, 999), (69, 999)] = dl := Option.some.inj hdl
    subst hdl
    obtain ⟨x0, x1, x2, hX⟩ := hX
    have e0 : ay_at hp' 198 = ay_at hp 198 := ay_same hR x0 (g := 68) (ax_wc ax_WW1 ax_cg_198) (List.all_eq_true.mp hall (68, 999) (by simp))
    have e1 : ay_at hp' 181 = ay_at hp 181 := ay_same hR x1 (g := 51) (ax_wc ax_WW1 ax_cg_181) (List.all_eq_true.mp hall (51, 999) (by simp))
    have e2 : ay_at hp' 199 = ay_at hp 199 := ay_same hR x2 (g := 69) (ax_wc ax_WW1 ax_cg_199) (List.all_eq_true.mp hall (69, 999) (by simp))
    refine ⟨ay_ex_same hR x0 (g := 68) (ax_wc ax_WW1 ax_cg_198), ay_ex_same hR x1 (g := 51) (ax_wc ax_WW1 ax_cg_181), ay_ex_same hR x2 (g := 69) (ax_wc ax_WW1 ax_cg_199), ?_⟩
    show ay_M16 1 k f v (ay_at hp' 199) (ay_at hp' 198) (ay_at hp' 181)
    rw [e0, e1, e2]
    exact hX
  | [], _ => trivial
  | [_], _ => trivial
  | [_, _], _ => trivial
  | _ :: _ :: _ :: _ :: _, _ => trivial
theorem ax_XMs1_17 : ax_XMd1 17 := by
  intro vs dl md hp hp' hdl hall hR hX
  match vs, hX with
  | [k], hX =>
    have hdl : [(58, 999), (44, 999), (46, 1)] = dl := Option.some.inj hdl
    subst hdl
    obtain ⟨x0, x1, x2, hX⟩ := hX
    have e0 : ay_at hp' 188 = ay_at hp 188 := ay_same hR x0 (g := 58) (ax_wc ax_WW1 ax_cg_188) (List.all_eq_true.mp hall (58, 999) (by simp))
    have e1 : ay_at hp' 174 = ay_at hp 174 := ay_same hR x1 (g := 44) (ax_wc ax_WW1 ax_cg_174) (List.all_eq_true.mp hall (44, 999) (by simp))
    have e2 : ay_at hp' 176 1 = ay_at hp 176 1 := ay_same1 hR x2 (g := 46) (ax_wc ax_WW1 ax_cg_176) (List.all_eq_true.mp hall (46, 1) (by simp))
    refine ⟨ay_ex_same hR x0 (g := 58) (ax_wc ax_WW1 ax_cg_188), ay_ex_same hR x1 (g := 44) (ax_wc ax_WW1 ax_cg_174), ay_ex_same hR x2 (g := 46) (ax_wc ax_WW1 ax_cg_176), ?_⟩
    show ay_M17 k (ay_at hp' 188) (ay_at hp' 174) (ay_at hp' 176 1)
    rw [e0, e1, e2]
    exact hX
  | [], _ => trivial
  | _ :: _ :: _, _ => trivial
theorem ax_XMs1_18 : ax_XMd1 18 := by
  intro vs dl md hp hp' hdl hall hR hX
  match vs, hX with
  | [n, l], hX =>
    have hdl : [(58, 999), (44, 999), (46, 1), (70, 999)] = dl := Option.some.inj hdl
    subst hdl
    obtain ⟨x0, x1, x2, x3, hX⟩ := hX
    have e0 : ay_at hp' 188 = ay_at hp 188 := ay_same hR x0 (g := 58) (ax_wc ax_WW1 ax_cg_188) (List.all_eq_true.mp hall (58, 999) (by simp))
    have e1 : ay_at hp' 174 = ay_at hp 174 := ay_same hR x1 (g := 44) (ax_wc ax_WW1 ax_cg_174) (List.all_eq_true.mp hall (44, 999) (by simp))
    have e2 : ay_at hp' 176 1 = ay_at hp 176 1 := ay_same1 hR x2 (g := 46) (ax_wc ax_WW1 ax_cg_176) (List.all_eq_true.mp hall (46, 1) (by simp))
    have e3 : ay_at hp' 200 = ay_at hp 200 := ay_same hR x3 (g := 70) (ax_wc ax_WW1 ax_cg_200) (List.all_eq_true.mp hall (70, 999) (by simp))
    refine ⟨ay_ex_same hR x0 (g := 58) (ax_wc ax_WW1 ax_cg_188), ay_ex_same hR x1 (g := 44) (ax_wc ax_WW1 ax_cg_174), ay_ex_same hR x2 (g := 46) (ax_wc ax_WW1 ax_cg_176), ay_ex_same hR x3 (g := 70) (ax_wc ax_WW1 ax_cg_200), ?_⟩
    show ay_M18 n l (ay_at hp' 188) (ay_at hp' 174) (ay_at hp' 200) (ay_at hp' 176 1)
    rw [e0, e1, e2, e3]
    exact hX
  | [], _ => trivial
  | [_], _ => trivial
  | _ :: _ :: _ :: _, _ => trivial
theorem ax_XMs1_19 : ax_XMd1 19 := by
  intro vs dl md hp hp' hdl hall hR hX
  match vs, hX with
  | [n], hX =>
    have hdl : [(58, 999), (44, 999), (46, 1), (70, 999)] = dl := Option.some.inj hdl
    subst hdl
    obtain ⟨x0, x1, x2, x3, hX⟩ := hX
    have e0 : ay_at hp' 188 = ay_at hp 188 := ay_same hR x0 (g := 58) (ax_wc ax_WW1 ax_cg_188) (List.all_eq_true.mp hall (58, 999) (by simp))
    have e1 : ay_at hp' 174 = ay_at hp 174 := ay_same hR x1 (g := 44) (ax_wc ax_WW1 ax_cg_174) (List.all_eq_true.mp hall (44, 999) (by simp))
    have e2 : ay_at hp' 176 1 = ay_at hp 176 1 := ay_same1 hR x2 (g := 46) (ax_wc ax_WW1 ax_cg_176) (List.all_eq_true.mp hall (46, 1) (by simp))
    have e3 : ay_at hp' 200 = ay_at hp 200 := ay_same hR x3 (g := 70) (ax_wc ax_WW1 ax_cg_200) (List.all_eq_true.mp hall (70, 999) (by simp))
    refine ⟨ay_ex_same hR x0 (g := 58) (ax_wc ax_WW1 ax_cg_188), ay_ex_same hR x1 (g := 44) (ax_wc ax_WW1 ax_cg_174), ay_ex_same hR x2 (g := 46) (ax_wc ax_WW1 ax_cg_176), ay_ex_same hR x3 (g := 70) (ax_wc ax_WW1 ax_cg_200), ?_⟩
    show ay_M19 n (ay_at hp' 188) (ay_at hp' 174) (ay_at hp' 200) (ay_at hp' 176 1)
    rw [e0, e1, e2, e3]
    exact hX
  | [], _ => trivial
  | _ :: _ :: _, _ => trivial
theorem ax_XMs1_20 : ax_XMd1 20 := by
  intro vs dl md hp hp' hdl hall hR hX
  match vs, hX with
  | [k, l], hX =>
    have hdl : [(58, 999), (44, 999), (46, 1), (70, 999)] = dl := Option.some.inj hdl
    subst hdl
    obtain ⟨x0, x1, x2, x3, hX⟩ := hX
    have e0 : ay_at hp' 188 = ay_at hp 188 := ay_same hR x0 (g := 58) (ax_wc ax_WW1 ax_cg_188) (List.all_eq_true.mp hall (58, 999) (by simp))
    have e1 : ay_at hp' 174 = ay_at hp 174 := ay_same hR x1 (g := 44) (ax_wc ax_WW1 ax_cg_174) (List.all_eq_true.mp hall (44, 999) (by simp))
    have e2 : ay_at hp' 176 1 = ay_at hp 176 1 := ay_same1 hR x2 (g := 46) (ax_wc ax_WW1 ax_cg_176) (List.all_eq_true.mp hall (46, 1) (by simp))
    have e3 : ay_at hp' 200 = ay_at hp 200 := ay_same hR x3 (g := 70) (ax_wc ax_WW1 ax_cg_200) (List.all_eq_true.mp hall (70, 999) (by simp))
    refine ⟨ay_ex_same hR x0 (g := 58) (ax_wc ax_WW1 ax_cg_188), ay_ex_same hR x1 (g := 44) (ax_wc ax_WW1 ax_cg_174), ay_ex_same hR x2 (g := 46) (ax_wc ax_WW1 ax_cg_176), ay_ex_same hR x3 (g := 70) (ax_wc ax_WW1 ax_cg_200), ?_⟩
    show ay_M20 k l (ay_at hp' 188) (ay_at hp' 174) (ay_at hp' 200) (ay_at hp' 176 1)
    rw [e0, e1, e2, e3]
    exact hX
  | [], _ => trivial
  | [_], _ => trivial
  | _ :: _ :: _ :: _, _ => trivial
theorem ax_XMs1_21 : ax_XMd1 21 := by
  intro vs dl md hp hp' hdl hall hR hX
  match vs, hX with
  | [k, l], hX =>
    have hdl : [(58, 999), (44, 999), (46, 1), (70, 999)] = dl := Option.some.inj hdl
    subst hdl
    obtain ⟨x0, x1, x2, x3, hX⟩ := hX
    have e0 : ay_at hp' 188 = ay_at hp 188 := ay_same hR x0 (g := 58) (ax_wc ax_WW1 ax_cg_188) (List.all_eq_true.mp hall (58, 999) (by simp))
    have e1 : ay_at hp' 174 = ay_at hp 174 := ay_same hR x1 (g := 44) (ax_wc ax_WW1 ax_cg_174) (List.all_eq_true.mp hall (44, 999) (by simp))
    have e2 : ay_at hp' 176 1 = ay_at hp 176 1 := ay_same1 hR x2 (g := 46) (ax_wc ax_WW1 ax_cg_176) (List.all_eq_true.mp hall (46, 1) (by simp))
    have e3 : ay_at hp' 200 = ay_at hp 200 := ay_same hR x3 (g := 70) (ax_wc ax_WW1 ax_cg_200) (List.all_eq_true.mp hall (70, 999) (by simp))
    refine ⟨ay_ex_same hR x0 (g := 58) (ax_wc ax_WW1 ax_cg_188), ay_ex_same hR x1 (g := 44) (ax_wc ax_WW1 ax_cg_174), ay_ex_same hR x2 (g := 46) (ax_wc ax_WW1 ax_cg_176), ay_ex_same hR x3 (g := 70) (ax_wc ax_WW1 ax_cg_200), ?_⟩
    show ay_M21 k l (ay_at hp' 188) (ay_at hp' 174) (ay_at hp' 200) (ay_at hp' 176 1)
    rw [e0, e1, e2, e3]
    exact hX
  | [], _ => trivial
  | [_], _ => trivial
  | _ :: _ :: _ :: _, _ => trivial
theorem ax_XMs1_22 : ax_XMd1 22 := by
  intro vs dl md hp hp' hdl hall hR hX
  match vs, hX with
  | [], hX =>
    have hdl : [(58, 999), (44, 999), (46, 1), (70, 999)] = dl := Option.some.inj hdl
    subst hdl
    obtain ⟨x0, x1, x2, x3, hX⟩ := hX
    have e0 : ay_at hp' 188 = ay_at hp 188 := ay_same hR x0 (g := 58) (ax_wc ax_WW1 ax_cg_188) (List.all_eq_true.mp hall (58, 999) (by simp))
    have e1 : ay_at hp' 174 = ay_at hp 174 := ay_same hR x1 (g := 44) (ax_wc ax_WW1 ax_cg_174) (List.all_eq_true.mp hall (44, 999) (by simp))
    have e2 : ay_at hp' 176 1 = ay_at hp 176 1 := ay_same1 hR x2 (g := 46) (ax_wc ax_WW1 ax_cg_176) (List.all_eq_true.mp hall (46, 1) (by simp))
    have e3 : ay_at hp' 200 = ay_at hp 200 := ay_same hR x3 (g := 70) (ax_wc ax_WW1 ax_cg_200) (List.all_eq_true.mp hall (70, 999) (by simp))
    refine ⟨ay_ex_same hR x0 (g := 58) (ax_wc ax_WW1 ax_cg_188), ay_ex_same hR x1 (g := 44) (ax_wc ax_WW1 ax_cg_174), ay_ex_same hR x2 (g := 46) (ax_wc ax_WW1 ax_cg_176), ay_ex_same hR x3 (g := 70) (ax_wc ax_WW1 ax_cg_200), ?_⟩
    show ay_M22 (ay_at hp' 188) (ay_at hp' 174) (ay_at hp' 200) (ay_at hp' 176 1)
    rw [e0, e1, e2, e3]
    exact hX
  | _ :: _, _ => trivial
theorem ax_XMs1_24 : ax_XMd1 24 := by
  intro vs dl md hp hp' hdl hall hR hX
  match vs, hX with
  | [], hX =>
    have hdl : [(64, 999), (61, 999), (51, 999), (44, 999), (45, 1), (46, 1)] = dl := Option.some.inj hdl
    subst hdl
    obtain ⟨x0, x1, x2, x3, x4, x5, hX⟩ := hX
    have e0 : ay_at hp' 194 = ay_at hp 194 := ay_same hR x0 (g := 64) (ax_wc ax_WW1 ax_cg_194) (List.all_eq_true.mp hall (64, 999) (by simp))
    have e1 : ay_at hp' 191 = ay_at hp 191 := ay_same hR x1 (g := 61) (ax_wc ax_WW1 ax_cg_191) (List.all_eq_true.mp hall (61, 999) (by simp))
    have e2 : ay_at hp' 181 = ay_at hp 181 := ay_same hR x2 (g := 51) (ax_wc ax_WW1 ax_cg_181) (List.all_eq_true.mp hall (51, 999) (by simp))
    have e3 : ay_at hp' 174 = ay_at hp 174 := ay_same hR x3 (g := 44) (ax_wc ax_WW1 ax_cg_174) (List.all_eq_true.mp hall (44, 999) (by simp))
    have e4 : ay_at hp' 175 1 = ay_at hp 175 1 := ay_same1 hR x4 (g := 45) (ax_wc ax_WW1 ax_cg_175) (List.all_eq_true.mp hall (45, 1) (by simp))
    have e5 : ay_at hp' 176 1 = ay_at hp 176 1 := ay_same1 hR x5 (g := 46) (ax_wc ax_WW1 ax_cg_176) (List.all_eq_true.mp hall (46, 1) (by simp))
    refine ⟨ay_ex_same hR x0 (g := 64) (ax_wc ax_WW1 ax_cg_194), ay_ex_same hR x1 (g := 61) (ax_wc ax_WW1 ax_cg_191), ay_ex_same hR x2 (g := 51) (ax_wc ax_WW1 ax_cg_181), ay_ex_same hR x3 (g := 44) (ax_wc ax_WW1 ax_cg_174), ay_ex_same hR x4 (g := 45) (ax_wc ax_WW1 ax_cg_175), ay_ex_same hR x5 (g := 46) (ax_wc ax_WW1 ax_cg_176), ?_⟩
    show ay_M24 1 (ay_at hp' 194) (ay_at hp' 191) (ay_at hp' 181) (ay_at hp' 174) (ay_at hp' 175 1) (ay_at hp' 176 1)
    rw [e0, e1, e2, e3, e4, e5]
    exact hX
  | _ :: _, _ => trivial
theorem ax_XMs1_25 : ax_XMd1 25 := by
  intro vs dl md hp hp' hdl hall hR hX
  match vs, hX with
  | [], hX =>
    have hdl : [(51, 999), (45, 1), (46, 1)] = dl := Option.some.inj hdl
    subst hdl
    obtain ⟨x0, x1, x2, hX⟩ := hX
    have e0 : ay_at hp' 181 = ay_at hp 181 := ay_same hR x0 (g := 51) (ax_wc ax_WW1 ax_cg_181) (List.all_eq_true.mp hall (51, 999) (by simp))
    have e1 : ay_at hp' 175 1 = ay_at hp 175 1 := ay_same1 hR x1 (g := 45) (ax_wc ax_WW1 ax_cg_175) (List.all_eq_true.mp hall (45, 1) (by simp))
    have e2 : ay_at hp' 176 1 = ay_at hp 176 1 := ay_same1 hR x2 (g := 46) (ax_wc ax_WW1 ax_cg_176) (List.all_eq_true.mp hall (46, 1) (by simp))
    refine ⟨ay_ex_same hR x0 (g := 51) (ax_wc ax_WW1 ax_cg_181), ay_ex_same hR x1 (g := 45) (ax_wc ax_WW1 ax_cg_175), ay_ex_same hR x2 (g := 46) (ax_wc ax_WW1 ax_cg_176), ?_⟩
    show ay_M25 1 (ay_at hp' 181) (ay_at hp' 175 1) (ay_at hp' 176 1)
    rw [e0, e1, e2]
    exact hX
  | _ :: _, _ => trivial
theorem ax_XMs1_26 : ax_XMd1 26 := by
  intro vs dl md hp hp' hdl hall hR hX
  match vs, hX with
  | [], hX =>
    have hdl : [(52, 999), (50, 1)] = dl := Option.some.inj hdl
    subst hdl
    obtain ⟨x0, x1, hX⟩ := hX
    have e0 : ay_at hp' 182 = ay_at hp 182 := ay_same hR x0 (g := 52) (ax_wc ax_WW1 ax_cg_182) (List.all_eq_true.mp hall (52, 999) (by simp))
    have e1 : ay_at hp' 180 1 = ay_at hp 180 1 := ay_same1 hR x1 (g := 50) (ax_wc ax_WW1 ax_cg_180) (List.all_eq_true.mp hall (50, 1) (by simp))
    refine ⟨ay_ex_same hR x0 (g := 52) (ax_wc ax_WW1 ax_cg_182), ay_ex_same hR x1 (g := 50) (ax_wc ax_WW1 ax_cg_180), ?_⟩
    show ay_M26 1 (ay_at hp' 182) (ay_at hp' 180 1)
    rw [e0, e1]
    exact hX
  | _ :: _, _ => trivial
theorem ax_XMs1_28 : ax_XMd1 28 := by
  intro vs dl md hp hp' hdl hall hR hX
  match vs, hX with
  | [g, v, s, c], hX =>
    have hdl : [(61, 999), (51, 999), (44, 999), (46, 1)] = dl := Option.some.inj hdl
    subst hdl
    obtain ⟨x0, x1, x2, x3, hX⟩ := hX
    have e0 : ay_at hp' 191 = ay_at hp 191 := ay_same hR x0 (g := 61) (ax_wc ax_WW1 ax_cg_191) (List.all_eq_true.mp hall (61, 999) (by simp))
    have e1 : ay_at hp' 181 = ay_at hp 181 := ay_same hR x1 (g := 51) (ax_wc ax_WW1 ax_cg_181) (List.all_eq_true.mp hall (51, 999) (by simp))
    have e2 : ay_at hp' 174 = ay_at hp 174 := ay_same hR x2 (g := 44) (ax_wc ax_WW1 ax_cg_174) (List.all_eq_true.mp hall (44, 999) (by simp))
    have e3 : ay_at hp' 176 1 = ay_at hp 176 1 := ay_same1 hR x3 (g := 46) (ax_wc ax_WW1 ax_cg_176) (List.all_eq_true.mp hall (46, 1) (by simp))
    refine ⟨ay_ex_same hR x0 (g := 61) (ax_wc ax_WW1 ax_cg_191), ay_ex_same hR x1 (g := 51) (ax_wc ax_WW1 ax_cg_181), ay_ex_same hR x2 (g := 44) (ax_wc ax_WW1 ax_cg_174), ay_ex_same hR x3 (g := 46) (ax_wc ax_WW1 ax_cg_176), ?_⟩
    show ay_M28 1 g v s c (ay_at hp' 191) (ay_at hp' 181) (ay_at hp' 174) (ay_at hp' 176 1)
    rw [e0, e1, e2, e3]
    exact hX
  | [], _ => trivial
  | [_], _ => trivial
  | [_, _], _ => trivial
  | [_, _, _], _ => trivial
  | _ :: _ :: _ :: _ :: _ :: _, _ => trivial
theorem ax_XMs1_29 : ax_XMd1 29 := by
  intro vs dl md hp hp' hdl hall hR hX
  match vs, hX with
  | [g, v, s], hX =>
    have hdl : [(64, 999), (61, 999), (51, 999), (44, 999), (45, 1), (46, 1)] = dl := Option.some.inj hdl
    subst hdl
    obtain ⟨x0, x1, x2, x3, x4, x5, hX⟩ := hX
    have e0 : ay_at hp' 194 = ay_at hp 194 := ay_same hR x0 (g := 64) (ax_wc ax_WW1 ax_cg_194) (List.all_eq_true.mp hall (64, 999) (by simp))
    have e1 : ay_at hp' 191 = ay_at hp 191 := ay_same hR x1 (g := 61) (ax_wc ax_WW1 ax_cg_191) (List.all_eq_true.mp hall (61, 999) (by simp))
    have e2 : ay_at hp' 181 = ay_at hp 181 := ay_same hR x2 (g := 51) (ax_wc ax_WW1 ax_cg_181) (List.all_eq_true.mp hall (51, 999) (by simp))
    have e3 : ay_at hp' 174 = ay_at hp 174 := ay_same hR x3 (g := 44) (ax_wc ax_WW1 ax_cg_174) (List.all_eq_true.mp hall (44, 999) (by simp))
    have e4 : ay_at hp' 175 1 = ay_at hp 175 1 := ay_same1 hR x4 (g := 45) (ax_wc ax_WW1 ax_cg_175) (List.all_eq_true.mp hall (45, 1) (by simp))
    have e5 : ay_at hp' 176 1 = ay_at hp 176 1 := ay_same1 hR x5 (g := 46) (ax_wc ax_WW1 ax_cg_176) (List.all_eq_true.mp hall (46, 1) (by simp))
    refine ⟨ay_ex_same hR x0 (g := 64) (ax_wc ax_WW1 ax_cg_194), ay_ex_same hR x1 (g := 61) (ax_wc ax_WW1 ax_cg_191), ay_ex_same hR x2 (g := 51) (ax_wc ax_WW1 ax_cg_181), ay_ex_same hR x3 (g := 44) (ax_wc ax_WW1 ax_cg_174), ay_ex_same hR x4 (g := 45) (ax_wc ax_WW1 ax_cg_175), ay_ex_same hR x5 (g := 46) (ax_wc ax_WW1 ax_cg_176), ?_⟩
    show ay_M29 1 g v s (ay_at hp' 194) (ay_at hp' 191) (ay_at hp' 181) (ay_at hp' 174) (ay_at hp' 175 1) (ay_at hp' 176 1)
    rw [e0, e1, e2, e3, e4, e5]
    exact hX
  | [], _ => trivial
  | [_], _ => trivial
  | [_, _], _ => trivial
  | _ :: _ :: _ :: _ :: _, _ => trivial
theorem ax_XMs1_30 : ax_XMd1 30 := by
  intro vs dl md hp hp' hdl hall hR hX
  match vs, hX with
  | [g, v, s], hX =>
    have hdl : [(64, 999), (61, 999), (51, 999), (44, 999), (45, 1), (46, 1)] = dl := Option.some.inj hdl
    subst hdl
    obtain ⟨x0, x1, x2, x3, x4, x5, hX⟩ := hX
    have e0 : ay_at hp' 194 = ay_at hp 194 := ay_same hR x0 (g := 64) (ax_wc ax_WW1 ax_cg_194) (List.all_eq_true.mp hall (64, 999) (by simp))
    have e1 : ay_at hp' 191 = ay_at hp 191 := ay_same hR x1 (g := 61) (ax_wc ax_WW1 ax_cg_191) (List.all_eq_true.mp hall (61, 999) (by simp))
    have e2 : ay_at hp' 181 = ay_at hp 181 := ay_same hR x2 (g := 51) (ax_wc ax_WW1 ax_cg_181) (List.all_eq_true.mp hall (51, 999) (by simp))
    have e3 : ay_at hp' 174 = ay_at hp 174 := ay_same hR x3 (g := 44) (ax_wc ax_WW1 ax_cg_174) (List.all_eq_true.mp hall (44, 999) (by simp))
    have e4 : ay_at hp' 175 1 = ay_at hp 175 1 := ay_same1 hR x4 (g := 45) (ax_wc ax_WW1 ax_cg_175) (List.all_eq_true.mp hall (45, 1) (by simp))
    have e5 : ay_at hp' 176 1 = ay_at hp 176 1 := ay_same1 hR x5 (g := 46) (ax_wc ax_WW1 ax_cg_176) (List.all_eq_true.mp hall (46, 1) (by simp))
    refine ⟨ay_ex_same hR x0 (g := 64) (ax_wc ax_WW1 ax_cg_194), ay_ex_same hR x1 (g := 61) (ax_wc ax_WW1 ax_cg_191), ay_ex_same hR x2 (g := 51) (ax_wc ax_WW1 ax_cg_181), ay_ex_same hR x3 (g := 44) (ax_wc ax_WW1 ax_cg_174), ay_ex_same hR x4 (g := 45) (ax_wc ax_WW1 ax_cg_175), ay_ex_same hR x5 (g := 46) (ax_wc ax_WW1 ax_cg_176), ?_⟩
    show ay_M30 1 g v s (ay_at hp' 194) (ay_at hp' 191) (ay_at hp' 181) (ay_at hp' 174) (ay_at hp' 175 1) (ay_at hp' 176 1)
    rw [e0, e1, e2, e3, e4, e5]
    exact hX
  | [], _ => trivial
  | [_], _ => trivial
  | [_, _], _ => trivial
  | _ :: _ :: _ :: _ :: _, _ => trivial
theorem ax_XMs1_31 : ax_XMd1 31 := by
  intro vs dl md hp hp' hdl hall hR hX
  match vs, hX with
  | [f, t, i, n, v, s, c], hX =>
    have hdl : [(64, 999), (51, 999), (44, 999)] = dl := Option.some.inj hdl
    subst hdl
    obtain ⟨x0, x1, x2, hX⟩ := hX
    have e0 : ay_at hp' 194 = ay_at hp 194 := ay_same hR x0 (g := 64) (ax_wc ax_WW1 ax_cg_194) (List.all_eq_true.mp hall (64, 999) (by simp))
    have e1 : ay_at hp' 181 = ay_at hp 181 := ay_same hR x1 (g := 51) (ax_wc ax_WW1 ax_cg_181) (List.all_eq_true.mp hall (51, 999) (by simp))
    have e2 : ay_at hp' 174 = ay_at hp 174 := ay_same hR x2 (g := 44) (ax_wc ax_WW1 ax_cg_174) (List.all_eq_true.mp hall (44, 999) (by simp))
    refine ⟨ay_ex_same hR x0 (g := 64) (ax_wc ax_WW1 ax_cg_194), ay_ex_same hR x1 (g := 51) (ax_wc ax_WW1 ax_cg_181), ay_ex_same hR x2 (g := 44) (ax_wc ax_WW1 ax_cg_174), ?_⟩
    show ay_M31 1 f t i n v s c (ay_at hp' 194) (ay_at hp' 181) (ay_at hp' 174)
    rw [e0, e1, e2]
    exact hX
  | [], _ => trivial
  | [_], _ => trivial
  | [_, _], _ => trivial
  | [_, _, _], _ => trivial
  | [_, _, _, _], _ => trivial
  | [_, _, _, _, _], _ => trivial
  | [_, _, _, _, _, _], _ => trivial
  | _ :: _ :: _ :: _ :: _ :: _ :: _ :: _ :: _, _ => trivial
theorem ax_XMs1_32 : ax_XMd1 32 := by
  intro vs dl md hp hp' hdl hall hR hX
  match vs, hX with
  | [f, t, i, c], hX =>
    have hdl : [(64, 999), (51, 999), (44, 999)] = dl := Option.some.inj hdl
    subst hdl
    obtain ⟨x0, x1, x2, hX⟩ := hX
    have e0 : ay_at hp' 194 = ay_at hp 194 := ay_same hR x0 (g := 64) (ax_wc ax_WW1 ax_cg_194) (List.all_eq_true.mp hall (64, 999) (by simp))
    have e1 : ay_at hp' 181 = ay_at hp 181 := ay_same hR x1 (g := 51) (ax_wc ax_WW1 ax_cg_181) (List.all_eq_true.mp hall (51, 999) (by simp))
    have e2 : ay_at hp' 174 = ay_at hp 174 := ay_same hR x2 (g := 44) (ax_wc ax_WW1 ax_cg_174) (List.all_eq_true.mp hall (44, 999) (by simp))
    refine ⟨ay_ex_same hR x0 (g := 64) (ax_wc ax_WW1 ax_cg_194), ay_ex_same hR x1 (g := 51) (ax_wc ax_WW1 ax_cg_181), ay_ex_same hR x2 (g := 44) (ax_wc ax_WW1 ax_cg_174), ?_⟩
    show ay_M32 1 f t i c (ay_at hp' 194) (ay_at hp' 181) (ay_at hp' 174)
    rw [e0, e1, e2]
    exact hX
  | [], _ => trivial
  | [_], _ => trivial
  | [_, _], _ => trivial
  | [_, _, _], _ => trivial
  | _ :: _ :: _ :: _ :: _ :: _, _ => trivial
theorem ax_XMs1_33 : ax_XMd1 33 := by
  intro vs dl md hp hp' hdl hall hR hX
  match vs, hX with
  | [f, t, i, n, v, s], hX =>
    have hdl : [(64, 999), (51, 999), (44, 999)] = dl := Option.some.inj hdl
    subst hdl
    obtain ⟨x0, x1, x2, hX⟩ := hX
    have e0 : ay_at hp' 194 = ay_at hp 194 := ay_same hR x0 (g := 64) (ax_wc ax_WW1 ax_cg_194) (List.all_eq_true.mp hall (64, 999) (by simp))
    have e1 : ay_at hp' 181 = ay_at hp 181 := ay_same hR x1 (g := 51) (ax_wc ax_WW1 ax_cg_181) (List.all_eq_true.mp hall (51, 999) (by simp))
    have e2 : ay_at hp' 174 = ay_at hp 174 := ay_same hR x2 (g := 44) (ax_wc ax_WW1 ax_cg_174) (List.all_eq_true.mp hall (44, 999) (by simp))
    refine ⟨ay_ex_same hR x0 (g := 64) (ax_wc ax_WW1 ax_cg_194), ay_ex_same hR x1 (g := 51) (ax_wc ax_WW1 ax_cg_181), ay_ex_same hR x2 (g := 44) (ax_wc ax_WW1 ax_cg_174), ?_⟩
    show ay_M33 1 f t i n v s (ay_at hp' 194) (ay_at hp' 181) (ay_at hp' 174)
    rw [e0, e1, e2]
    exact hX
  | [], _ => trivial
  | [_], _ => trivial
  | [_, _], _ => trivial
  | [_, _, _], _ => trivial
  | [_, _, _, _], _ => trivial
  | [_, _, _, _, _], _ => trivial
  | _ :: _ :: _ :: _ :: _ :: _ :: _ :: _, _ => trivial
theorem ax_XMs1_34 : ax_XMd1 34 := by
  intro vs dl md hp hp' hdl hall hR hX
  match vs, hX with
  | [f, t, i], hX =>
    have hdl : [(64, 999), (51, 999), (44, 999)] = dl := Option.some.inj hdl
    subst hdl
    obtain ⟨x0, x1, x2, hX⟩ := hX
    have e0 : ay_at hp' 194 = ay_at hp 194 := ay_same hR x0 (g := 64) (ax_wc ax_WW1 ax_cg_194) (List.all_eq_true.mp hall (64, 999) (by simp))
    have e1 : ay_at hp' 181 = ay_at hp 181 := ay_same hR x1 (g := 51) (ax_wc ax_WW1 ax_cg_181) (List.all_eq_true.mp hall (51, 999) (by simp))
    have e2 : ay_at hp' 174 = ay_at hp 174 := ay_same hR x2 (g := 44) (ax_wc ax_WW1 ax_cg_174) (List.all_eq_true.mp hall (44, 999) (by simp))
    refine ⟨ay_ex_same hR x0 (g := 64) (ax_wc ax_WW1 ax_cg_194), ay_ex_same hR x1 (g := 51) (ax_wc ax_WW1 ax_cg_181), ay_ex_same hR x2 (g := 44) (ax_wc ax_WW1 ax_cg_174), ?_⟩
    show ay_M34 1 f t i (ay_at hp' 194) (ay_at hp' 181) (ay_at hp' 174)
    rw [e0, e1, e2]
    exact hX
  | [], _ => trivial
  | [_], _ => trivial
  | [_, _], _ => trivial
  | _ :: _ :: _ :: _ :: _, _ => trivial
theorem ax_XMs1_36 : ax_XMd1 36 := by
  intro vs dl md hp hp' hdl hall hR hX
  match vs, hX with
  | [n, k], hX =>
    have hdl : [(52, 999), (50, 1)] = dl := Option.some.inj hdl
    subst hdl
    obtain ⟨x0, x1, hX⟩ := hX
    have e0 : ay_at hp' 182 = ay_at hp 182 := ay_same hR x0 (g := 52) (ax_wc ax_WW1 ax_cg_182) (List.all_eq_true.mp hall (52, 999) (by simp))
    have e1 : ay_at hp' 180 1 = ay_at hp 180 1 := ay_same1 hR x1 (g := 50) (ax_wc ax_WW1 ax_cg_180) (List.all_eq_true.mp hall (50, 1) (by simp))
    refine ⟨ay_ex_same hR x0 (g := 52) (ax_wc ax_WW1 ax_cg_182), ay_ex_same hR x1 (g := 50) (ax_wc ax_WW1 ax_cg_180), ?_⟩
    show ay_M36 1 n k (ay_at hp' 182)
    rw [e0]
    exact hX
  | [], _ => trivial
  | [_], _ => trivial
  | _ :: _ :: _ :: _, _ => trivial
theorem ax_XMs1_40 : ax_XMd1 40 := by
  intro vs dl md hp hp' hdl hall hR hX
  match vs, hX with
  | [u, x, d, e, m], hX =>
    have hdl : [(55, 999), (11, 27), (52, 999), (50, 0), (49, 0), (11, 28)] = dl := Option.some.inj hdl
    subst hdl
    obtain ⟨x0, x1, x2, x3, x4, x5, hX⟩ := hX
    have e0 : ay_at hp' 185 = ay_at hp 185 := ay_same hR x0 (g := 55) (ax_wc ax_WW1 ax_cg_185) (List.all_eq_true.mp hall (55, 999) (by simp))
    have e1 : ay_at hp' 173 27 = ay_at hp 173 27 := ay_same1 hR x1 (g := 11) (ax_wc ax_WW1 ax_cg_173) (List.all_eq_true.mp hall (11, 27) (by simp))
    have e2 : ay_at hp' 182 = ay_at hp 182 := ay_same hR x2 (g := 52) (ax_wc ax_WW1 ax_cg_182) (List.all_eq_true.mp hall (52, 999) (by simp))
    have e3 : ay_at hp' 180 0 = ay_at hp 180 0 := ay_same1 hR x3 (g := 50) (ax_wc ax_WW1 ax_cg_180) (List.all_eq_true.mp hall (50, 0) (by simp))
    have e4 : ay_at hp' 179 0 = ay_at hp 179 0 := ay_same1 hR x4 (g := 49) (ax_wc ax_WW1 ax_cg_179) (List.all_eq_true.mp hall (49, 0) (by simp))
    have e5 : ay_at hp' 173 28 = ay_at hp 173 28 := ay_same1 hR x5 (g := 11) (ax_wc ax_WW1 ax_cg_173) (List.all_eq_true.mp hall (11, 28) (by simp))
    refine ⟨ay_ex_same hR x0 (g := 55) (ax_wc ax_WW1 ax_cg_185), ay_ex_same hR x1 (g := 11) (ax_wc ax_WW1 ax_cg_173), ay_ex_same hR x2 (g := 52) (ax_wc ax_WW1 ax_cg_182), ay_ex_same hR x3 (g := 50) (ax_wc ax_WW1 ax_cg_180), ay_ex_same hR x4 (g := 49) (ax_wc ax_WW1 ax_cg_179), ay_ex_same hR x5 (g := 11) (ax_wc ax_WW1 ax_cg_173), ?_⟩
    show ay_M40 0 u x d e m (ay_at hp' 185) (ay_at hp' 173 27) (ay_at hp' 182) (ay_at hp' 180 0) (ay_at hp' 179 0) (ay_at hp' 173 28)
    rw [e0, e1, e2, e3, e4, e5]
    exact hX
  | [], _ => trivial
  | [_], _ => trivial
  | [_, _], _ => trivial
  | [_, _, _], _ => trivial
  | [_, _, _, _], _ => trivial
  | _ :: _ :: _ :: _ :: _ :: _ :: _, _ => trivial
theorem ax_XMs1_42 : ax_XMd1 42 := by
  intro vs dl md hp hp' hdl hall hR hX
  match vs, hX with
  | [], hX =>
    have hdl : [(50, 0), (49, 0)] = dl := Option.some.inj hdl
    subst hdl
    obtain ⟨x0, x1, hX⟩ := hX
    have e0 : ay_at hp' 180 0 = ay_at hp 180 0 := ay_same1 hR x0 (g := 50) (ax_wc ax_WW1 ax_cg_180) (List.all_eq_true.mp hall (50, 0) (by simp))
    have e1 : ay_at hp' 179 0 = ay_at hp 179 0 := ay_same1 hR x1 (g := 49) (ax_wc ax_WW1 ax_cg_179) (List.all_eq_true.mp hall (49, 0) (by simp))
    refine ⟨ay_ex_same hR x0 (g := 50) (ax_wc ax_WW1 ax_cg_180), ay_ex_same hR x1 (g := 49) (ax_wc ax_WW1 ax_cg_179), ?_⟩
    show ay_M42 (ay_at hp' 180 0) (ay_at hp' 179 0)
    rw [e0, e1]
    exact hX
  | _ :: _, _ => trivial
theorem ax_XMs1_50 : ax_XMd1 50 := by
  intro vs dl md hp hp' hdl hall hR hX
  match vs, hX with
  | [], hX =>
    have hdl : [(45, 0), (47, 0), (46, 0), (51, 999), (11, 18)] = dl := Option.some.inj hdl
    subst hdl
    obtain ⟨x0, x1, x2, x3, x4, hX⟩ := hX
    have e0 : ay_at hp' 175 0 = ay_at hp 175 0 := ay_same1 hR x0 (g := 45) (ax_wc ax_WW1 ax_cg_175) (List.all_eq_true.mp hall (45, 0) (by simp))
    have e1 : ay_at hp' 177 0 = ay_at hp 177 0 := ay_same1 hR x1 (g := 47) (ax_wc ax_WW1 ax_cg_177) (List.all_eq_true.mp hall (47, 0) (by simp))
    have e2 : ay_at hp' 176 0 = ay_at hp 176 0 := ay_same1 hR x2 (g := 46) (ax_wc ax_WW1 ax_cg_176) (List.all_eq_true.mp hall (46, 0) (by simp))
    have e3 : ay_at hp' 181 = ay_at hp 181 := ay_same hR x3 (g := 51) (ax_wc ax_WW1 ax_cg_181) (List.all_eq_true.mp hall (51, 999) (by simp))
    have e4 : ay_at hp' 173 18 = ay_at hp 173 18 := ay_same1 hR x4 (g := 11) (ax_wc ax_WW1 ax_cg_173) (List.all_eq_true.mp hall (11, 18) (by simp))
    refine ⟨ay_ex_same hR x0 (g := 45) (ax_wc ax_WW1 ax_cg_175), ay_ex_same hR x1 (g := 47) (ax_wc ax_WW1 ax_cg_177), ay_ex_same hR x2 (g := 46) (ax_wc ax_WW1 ax_cg_176), ay_ex_same hR x3 (g := 51) (ax_wc ax_WW1 ax_cg_181), ay_ex_same hR x4 (g := 11) (ax_wc ax_WW1 ax_cg_173), ?_⟩
    show ay_M50 0 (ay_at hp' 175 0) (ay_at hp' 177 0) (ay_at hp' 176 0) (ay_at hp' 181) (ay_at hp' 173 18)
    rw [e0, e1, e2, e3, e4]
    exact hX
  | _ :: _, _ => trivial
theorem ax_XMs1_52 : ax_XMd1 52 := by
  intro vs dl md hp hp' hdl hall hR hX
  match vs, hX with
  | [], hX =>
    have hdl : [(52, 999), (50, 0), (49, 0), (11, 18), (11, 24)] = dl := Option.some.inj hdl
    subst hdl
    obtain ⟨x0, x1, x2, x3, x4, hX⟩ := hX
    have e0 : ay_at hp' 182 = ay_at hp 182 := ay_same hR x0 (g := 52) (ax_wc ax_WW1 ax_cg_182) (List.all_eq_true.mp hall (52, 999) (by simp))
    have e1 : ay_at hp' 180 0 = ay_at hp 180 0 := ay_same1 hR x1 (g := 50) (ax_wc ax_WW1 ax_cg_180) (List.all_eq_true.mp hall (50, 0) (by simp))
    have e2 : ay_at hp' 179 0 = ay_at hp 179 0 := ay_same1 hR x2 (g := 49) (ax_wc ax_WW1 ax_cg_179) (List.all_eq_true.mp hall (49, 0) (by simp))
    have e3 : ay_at hp' 173 18 = ay_at hp 173 18 := ay_same1 hR x3 (g := 11) (ax_wc ax_WW1 ax_cg_173) (List.all_eq_true.mp hall (11, 18) (by simp))
    have e4 : ay_at hp' 173 24 = ay_at hp 173 24 := ay_same1 hR x4 (g := 11) (ax_wc ax_WW1 ax_cg_173) (List.all_eq_true.mp hall (11, 24) (by simp))
    refine ⟨ay_ex_same hR x0 (g := 52) (ax_wc ax_WW1 ax_cg_182), ay_ex_same hR x1 (g := 50) (ax_wc ax_WW1 ax_cg_180), ay_ex_same hR x2 (g := 49) (ax_wc ax_WW1 ax_cg_179), ay_ex_same hR x3 (g := 11) (ax_wc ax_WW1 ax_cg_173), ay_ex_same hR x4 (g := 11) (ax_wc ax_WW1 ax_cg_173), ?_⟩
    show ay_M52 0 (ay_at hp' 182) (ay_at hp' 180 0) (ay_at hp' 179 0) (ay_at hp' 173 18) (ay_at hp' 173 24)
    rw [e0, e1, e2, e3, e4]
    exact hX
  | _ :: _, _ => trivial
theorem ax_XMs1_53 : ax_XMd1 53 := by
  intro vs dl md hp hp' hdl hall hR hX
  match vs, hX with
  | [k, u], hX =>
    have hdl : [(49, 0), (11, 28)] = dl := Option.some.inj hdl
    subst hdl
    obtain ⟨x0, x1, hX⟩ := hX
    have e0 : ay_at hp' 179 0 = ay_at hp 179 0 := ay_same1 hR x0 (g := 49) (ax_wc ax_WW1 ax_cg_179) (List.all_eq_true.mp hall (49, 0) (by simp))
    have e1 : ay_at hp' 173 28 = ay_at hp 173 28 := ay_same1 hR x1 (g := 11) (ax_wc ax_WW1 ax_cg_173) (List.all_eq_true.mp hall (11, 28) (by simp))
    refine ⟨ay_ex_same hR x0 (g := 49) (ax_wc ax_WW1 ax_cg_179), ay_ex_same hR x1 (g := 11) (ax_wc ax_WW1 ax_cg_173), ?_⟩
    show ay_M53 k u (ay_at hp' 179 0) (ay_at hp' 173 28)
    rw [e0, e1]
    exact hX
  | [], _ => trivial
  | [_], _ => trivial
  | _ :: _ :: _ :: _, _ => trivial
theorem ax_XMs1_54 : ax_XMd1 54 := by
  intro vs dl md hp hp' hdl hall hR hX
  match vs, hX with
  | [k], hX =>
    have hdl : [(46, 0), (11, 23), (11, 24), (11, 25)] = dl := Option.some.inj hdl
    subst hdl
    obtain ⟨x0, x1, x2, x3, hX⟩ := hX
    have e0 : ay_at hp' 176 0 = ay_at hp 176 0 := ay_same1 hR x0 (g := 46) (ax_wc ax_WW1 ax_cg_176) (List.all_eq_true.mp hall (46, 0) (by simp))
    have e1 : ay_at hp' 173 23 = ay_at hp 173 23 := ay_same1 hR x1 (g := 11) (ax_wc ax_WW1 ax_cg_173) (List.all_eq_true.mp hall (11, 23) (by simp))
    have e2 : ay_at hp' 173 24 = ay_at hp 173 24 := ay_same1 hR x2 (g := 11) (ax_wc ax_WW1 ax_cg_173) (List.all_eq_true.mp hall (11, 24) (by simp))
    have e3 : ay_at hp' 173 25 = ay_at hp 173 25 := ay_same1 hR x3 (g := 11) (ax_wc ax_WW1 ax_cg_173) (List.all_eq_true.mp hall (11, 25) (by simp))
    refine ⟨ay_ex_same hR x0 (g := 46) (ax_wc ax_WW1 ax_cg_176), ay_ex_same hR x1 (g := 11) (ax_wc ax_WW1 ax_cg_173), ay_ex_same hR x2 (g := 11) (ax_wc ax_WW1 ax_cg_173), ay_ex_same hR x3 (g := 11) (ax_wc ax_WW1 ax_cg_173), ?_⟩
    show ay_M54 k (ay_at hp' 176 0) (ay_at hp' 173 23) (ay_at hp' 173 24) (ay_at hp' 173 25)
    rw [e0, e1, e2, e3]
    exact hX
  | [], _ => trivial
  | _ :: _ :: _, _ => trivial
theorem ax_XMs1_55 : ax_XMd1 55 := by
  intro vs dl md hp hp' hdl hall hR hX
  match vs, hX with
  | [k], hX =>
    have hdl : [(49, 0)] = dl := Option.some.inj hdl
    subst hdl
    obtain ⟨x0, hX⟩ := hX
    have e0 : ay_at hp' 179 0 = ay_at hp 179 0 := ay_same1 hR x0 (g := 49) (ax_wc ax_WW1 ax_cg_179) (List.all_eq_true.mp hall (49, 0) (by simp))
    refine ⟨ay_ex_same hR x0 (g := 49) (ax_wc ax_WW1 ax_cg_179), ?_⟩
    show ay_M55 k (ay_at hp' 179 0)
    rw [e0]
    exact hX
  | [], _ => trivial
  | _ :: _ :: _, _ => trivial
theorem ax_XMs1_64 : ax_XMd1 64 := by
  intro vs dl md hp hp' hdl hall hR hX
  match vs, hX with
  | [], hX =>
    have hdl : [(51, 999), (46, 0), (45, 0)] = dl := Option.some.inj hdl
    subst hdl
    obtain ⟨x0, x1, x2, hX⟩ := hX
    have e0 : ay_at hp' 181 = ay_at hp 181 := ay_same hR x0 (g := 51) (ax_wc ax_WW1 ax_cg_181) (List.all_eq_true.mp hall (51, 999) (by simp))
    have e1 : ay_at hp' 176 0 = ay_at hp 176 0 := ay_same1 hR x1 (g := 46) (ax_wc ax_WW1 ax_cg_176) (List.all_eq_true.mp hall (46, 0) (by simp))
    have e2 : ay_at hp' 175 0 = ay_at hp 175 0 := ay_same1 hR x2 (g := 45) (ax_wc ax_WW1 ax_cg_175) (List.all_eq_true.mp hall (45, 0) (by simp))
    refine ⟨ay_ex_same hR x0 (g := 51) (ax_wc ax_WW1 ax_cg_181), ay_ex_same hR x1 (g := 46) (ax_wc ax_WW1 ax_cg_176), ay_ex_same hR x2 (g := 45) (ax_wc ax_WW1 ax_cg_175), ?_⟩
    show ay_M64 0 (ay_at hp' 181) (ay_at hp' 176 0) (ay_at hp' 175 0)
    rw [e0, e1, e2]
    exact hX
  | _ :: _, _ => trivial
theorem ax_XMs1_65 : ax_XMd1 65 := by
  intro vs dl md hp hp' hdl hall hR hX
  match vs, hX with
  | [], hX =>
    have hdl : [(51, 999), (46, 0), (45, 0)] = dl := Option.some.inj hdl
    subst hdl
    obtain ⟨x0, x1, x2, hX⟩ := hX
    have e0 : ay_at hp' 181 = ay_at hp 181 := ay_same hR x0 (g := 51) (ax_wc ax_WW1 ax_cg_181) (List.all_eq_true.mp hall (51, 999) (by simp))
    have e1 : ay_at hp' 176 0 = ay_at hp 176 0 := ay_same1 hR x1 (g := 46) (ax_wc ax_WW1 ax_cg_176) (List.all_eq_true.mp hall (46, 0) (by simp))
    have e2 : ay_at hp' 175 0 = ay_at hp 175 0 := ay_same1 hR x2 (g := 45) (ax_wc ax_WW1 ax_cg_175) (List.all_eq_true.mp hall (45, 0) (by simp))
    refine ⟨ay_ex_same hR x0 (g := 51) (ax_wc ax_WW1 ax_cg_181), ay_ex_same hR x1 (g := 46) (ax_wc ax_WW1 ax_cg_176), ay_ex_same hR x2 (g := 45) (ax_wc ax_WW1 ax_cg_175), ?_⟩
    show ay_M65 0 (ay_at hp' 181) (ay_at hp' 176 0) (ay_at hp' 175 0)
    rw [e0, e1, e2]
    exact hX
  | _ :: _, _ => trivial
theorem ax_XMs1_152 : ax_XMd1 152 := by
  intro vs dl md hp hp' hdl hall hR hX
  match vs, hX with
  | [g, n], hX =>
    have hdl : [(45, 0), (46, 0), (47, 0), (48, 0), (49, 0), (11, 23), (11, 25), (11, 24), (11, 18), (11, 19), (51, 999)] = dl := Option.some.inj hdl
    subst hdl
    obtain ⟨x0, x1, x2, x3, x4, x5, x6, x7, x8, x9, x10, hX⟩ := hX
    have e0 : ay_at hp' 175 0 = ay_at hp 175 0 := ay_same1 hR x0 (g := 45) (ax_wc ax_WW1 ax_cg_175) (List.all_eq_true.mp hall (45, 0) (by simp))
    have e1 : ay_at hp' 176 0 = ay_at hp 176 0 := ay_same1 hR x1 (g := 46) (ax_wc ax_WW1 ax_cg_176) (List.all_eq_true.mp hall (46, 0) (by simp))
    have e2 : ay_at hp' 177 0 = ay_at hp 177 0 := ay_same1 hR x2 (g := 47) (ax_wc ax_WW1 ax_cg_177) (List.all_eq_true.mp hall (47, 0) (by simp))
    have e3 : ay_at hp' 178 0 = ay_at hp 178 0 := ay_same1 hR x3 (g := 48) (ax_wc ax_WW1 ax_cg_178) (List.all_eq_true.mp hall (48, 0) (by simp))
    have e4 : ay_at hp' 179 0 = ay_at hp 179 0 := ay_same1 hR x4 (g := 49) (ax_wc ax_WW1 ax_cg_179) (List.all_eq_true.mp hall (49, 0) (by simp))
    have e5 : ay_at hp' 173 23 = ay_at hp 173 23 := ay_same1 hR x5 (g := 11) (ax_wc ax_WW1 ax_cg_173) (List.all_eq_true.mp hall (11, 23) (by simp))
    have e6 : ay_at hp' 173 25 = ay_at hp 173 25 := ay_same1 hR x6 (g := 11) (ax_wc ax_WW1 ax_cg_173) (List.all_eq_true.mp hall (11, 25) (by simp))
    have e7 : ay_at hp' 173 24 = ay_at hp 173 24 := ay_same1 hR x7 (g := 11) (ax_wc ax_WW1 ax_cg_173) (List.all_eq_true.mp hall (11, 24) (by simp))
    have e8 : ay_at hp' 173 18 = ay_at hp 173 18 := ay_same1 hR x8 (g := 11) (ax_wc ax_WW1 ax_cg_173) (List.all_eq_true.mp hall (11, 18) (by simp))
    have e9 : ay_at hp' 173 19 = ay_at hp 173 19 := ay_same1 hR x9 (g := 11) (ax_wc ax_WW1 ax_cg_173) (List.all_eq_true.mp hall (11, 19) (by simp))
    have e10 : ay_at hp' 181 = ay_at hp 181 := ay_same hR x10 (g := 51) (ax_wc ax_WW1 ax_cg_181) (List.all_eq_true.mp hall (51, 999) (by simp))
    refine ⟨ay_ex_same hR x0 (g := 45) (ax_wc ax_WW1 ax_cg_175), ay_ex_same hR x1 (g := 46) (ax_wc ax_WW1 ax_cg_176), ay_ex_same hR x2 (g := 47) (ax_wc ax_WW1 ax_cg_177), ay_ex_same hR x3 (g := 48) (ax_wc ax_WW1 ax_cg_178), ay_ex_same hR x4 (g := 49) (ax_wc ax_WW1 ax_cg_179), ay_ex_same hR x5 (g := 11) (ax_wc ax_WW1 ax_cg_173), ay_ex_same hR x6 (g := 11) (ax_wc ax_WW1 ax_cg_173), ay_ex_same hR x7 (g := 11) (ax_wc ax_WW1 ax_cg_173), ay_ex_same hR x8 (g := 11) (ax_wc ax_WW1 ax_cg_173), ay_ex_same hR x9 (g := 11) (ax_wc ax_WW1 ax_cg_173), ay_ex_same hR x10 (g := 51) (ax_wc ax_WW1 ax_cg_181), ?_⟩
    show pz_y152 0 g n (ay_at hp' 175 0) (ay_at hp' 176 0) (ay_at hp' 177 0) (ay_at hp' 178 0) (ay_at hp' 179 0) (ay_at hp' 173 23) (ay_at hp' 173 25) (ay_at hp' 173 24) (ay_at hp' 173 18) (ay_at hp' 173 19) (ay_at hp' 181)
    rw [e0, e1, e2, e3, e4, e5, e6, e7, e8, e9, e10]
    exact hX
  | [], _ => trivial
  | [_], _ => trivial
  | _ :: _ :: _ :: _, _ => trivial
theorem ax_XMs1_210 : ax_XMd1 210 := by
  intro vs dl md hp hp' hdl hall hR hX
  match vs, hX with
  | [g], hX =>
    have hdl : [(45, 0), (46, 0), (47, 0), (48, 0), (49, 0), (11, 23), (11, 25), (11, 24), (11, 18), (11, 19), (51, 999)] = dl := Option.some.inj hdl
    subst hdl
    obtain ⟨x0, x1, x2, x3, x4, x5, x6, x7, x8, x9, x10, hX⟩ := hX
    have e0 : ay_at hp' 175 0 = ay_at hp 175 0 := ay_same1 hR x0 (g := 45) (ax_wc ax_WW1 ax_cg_175) (List.all_eq_true.mp hall (45, 0) (by simp))
    have e1 : ay_at hp' 176 0 = ay_at hp 176 0 := ay_same1 hR x1 (g := 46) (ax_wc ax_WW1 ax_cg_176) (List.all_eq_true.mp hall (46, 0) (by simp))
    have e2 : ay_at hp' 177 0 = ay_at hp 177 0 := ay_same1 hR x2 (g := 47) (ax_wc ax_WW1 ax_cg_177) (List.all_eq_true.mp hall (47, 0) (by simp))
    have e3 : ay_at hp' 178 0 = ay_at hp 178 0 := ay_same1 hR x3 (g := 48) (ax_wc ax_WW1 ax_cg_178) (List.all_eq_true.mp hall (48, 0) (by simp))
    have e4 : ay_at hp' 179 0 = ay_at hp 179 0 := ay_same1 hR x4 (g := 49) (ax_wc ax_WW1 ax_cg_179) (List.all_eq_true.mp hall (49, 0) (by simp))
    have e5 : ay_at hp' 173 23 = ay_at hp 173 23 := ay_same1 hR x5 (g := 11) (ax_wc ax_WW1 ax_cg_173) (List.all_eq_true.mp hall (11, 23) (by simp))
    have e6 : ay_at hp' 173 25 = ay_at hp 173 25 := ay_same1 hR x6 (g := 11) (ax_wc ax_WW1 ax_cg_173) (List.all_eq_true.mp hall (11, 25) (by simp))
    have e7 : ay_at hp' 173 24 = ay_at hp 173 24 := ay_same1 hR x7 (g := 11) (ax_wc ax_WW1 ax_cg_173) (List.all_eq_true.mp hall (11, 24) (by simp))
    have e8 : ay_at hp' 173 18 = ay_at hp 173 18 := ay_same1 hR x8 (g := 11) (ax_wc ax_WW1 ax_cg_173) (List.all_eq_true.mp hall (11, 18) (by simp))
    have e9 : ay_at hp' 173 19 = ay_at hp 173 19 := ay_same1 hR x9 (g := 11) (ax_wc ax_WW1 ax_cg_173) (List.all_eq_true.mp hall (11, 19) (by simp))
    have e10 : ay_at hp' 181 = ay_at hp 181 := ay_same hR x10 (g := 51) (ax_wc ax_WW1 ax_cg_181) (List.all_eq_true.mp hall (51, 999) (by simp))
    refine ⟨ay_ex_same hR x0 (g := 45) (ax_wc ax_WW1 ax_cg_175), ay_ex_same hR x1 (g := 46) (ax_wc ax_WW1 ax_cg_176), ay_ex_same hR x2 (g := 47) (ax_wc ax_WW1 ax_cg_177), ay_ex_same hR x3 (g := 48) (ax_wc ax_WW1 ax_cg_178), ay_ex_same hR x4 (g := 49) (ax_wc ax_WW1 ax_cg_179), ay_ex_same hR x5 (g := 11) (ax_wc ax_WW1 ax_cg_173), ay_ex_same hR x6 (g := 11) (ax_wc ax_WW1 ax_cg_173), ay_ex_same hR x7 (g := 11) (ax_wc ax_WW1 ax_cg_173), ay_ex_same hR x8 (g := 11) (ax_wc ax_WW1 ax_cg_173), ay_ex_same hR x9 (g := 11) (ax_wc ax_WW1 ax_cg_173), ay_ex_same hR x10 (g := 51) (ax_wc ax_WW1 ax_cg_181), ?_⟩
    show pz110 (pz_gt g) (pz_gN g) (ay_ln (ay_at hp' 175 0)) (ay_ln (ay_at hp' 176 0)) (ay_ln (ay_at hp' 177 0)) (ay_ln (ay_at hp' 178 0)) (ay_ln (ay_at hp' 179 0)) (ay_ln (ay_at hp' 173 23)) (ay_ln (ay_at hp' 173 25)) (ay_ln (ay_at hp' 173 24)) (ay_ln (ay_at hp' 173 18)) (ay_ln (ay_at hp' 173 19)) (pz_be 0 (ay_at hp' 181)) (pz_fi 0 (ay_at hp' 181))
    rw [e0, e1, e2, e3, e4, e5, e6, e7, e8, e9, e10]
    exact hX
  | [], _ => trivial
  | _ :: _ :: _, _ => trivial
theorem ax_XMs1_216 : ax_XMd1 216 := by
  intro vs dl md hp hp' hdl hall hR hX
  match vs, hX with
  | [g, n, a, e, l], hX =>
    have hdl : [(45, 0), (46, 0), (47, 0), (48, 0), (49, 0), (11, 23), (11, 25), (11, 24), (11, 18), (11, 19), (51, 999)] = dl := Option.some.inj hdl
    subst hdl
    obtain ⟨x0, x1, x2, x3, x4, x5, x6, x7, x8, x9, x10, hX⟩ := hX
    have e0 : ay_at hp' 175 0 = ay_at hp 175 0 := ay_same1 hR x0 (g := 45) (ax_wc ax_WW1 ax_cg_175) (List.all_eq_true.mp hall (45, 0) (by simp))
    have e1 : ay_at hp' 176 0 = ay_at hp 176 0 := ay_same1 hR x1 (g := 46) (ax_wc ax_WW1 ax_cg_176) (List.all_eq_true.mp hall (46, 0) (by simp))
    have e2 : ay_at hp' 177 0 = ay_at hp 177 0 := ay_same1 hR x2 (g := 47) (ax_wc ax_WW1 ax_cg_177) (List.all_eq_true.mp hall (47, 0) (by simp))
    have e3 : ay_at hp' 178 0 = ay_at hp 178 0 := ay_same1 hR x3 (g := 48) (ax_wc ax_WW1 ax_cg_178) (List.all_eq_true.mp hall (48, 0) (by simp))
    have e4 : ay_at hp' 179 0 = ay_at hp 179 0 := ay_same1 hR x4 (g := 49) (ax_wc ax_WW1 ax_cg_179) (List.all_eq_true.mp hall (49, 0) (by simp))
    have e5 : ay_at hp' 173 23 = ay_at hp 173 23 := ay_same1 hR x5 (g := 11) (ax_wc ax_WW1 ax_cg_173) (List.all_eq_true.mp hall (11, 23) (by simp))
    have e6 : ay_at hp' 173 25 = ay_at hp 173 25 := ay_same1 hR x6 (g := 11) (ax_wc ax_WW1 ax_cg_173) (List.all_eq_true.mp hall (11, 25) (by simp))
    have e7 : ay_at hp' 173 24 = ay_at hp 173 24 := ay_same1 hR x7 (g := 11) (ax_wc ax_WW1 ax_cg_173) (List.all_eq_true.mp hall (11, 24) (by simp))
    have e8 : ay_at hp' 173 18 = ay_at hp 173 18 := ay_same1 hR x8 (g := 11) (ax_wc ax_WW1 ax_cg_173) (List.all_eq_true.mp hall (11, 18) (by simp))
    have e9 : ay_at hp' 173 19 = ay_at hp 173 19 := ay_same1 hR x9 (g := 11) (ax_wc ax_WW1 ax_cg_173) (List.all_eq_true.mp hall (11, 19) (by simp))
    have e10 : ay_at hp' 181 = ay_at hp 181 := ay_same hR x10 (g := 51) (ax_wc ax_WW1 ax_cg_181) (List.all_eq_true.mp hall (51, 999) (by simp))
    refine ⟨ay_ex_same hR x0 (g := 45) (ax_wc ax_WW1 ax_cg_175), ay_ex_same hR x1 (g := 46) (ax_wc ax_WW1 ax_cg_176), ay_ex_same hR x2 (g := 47) (ax_wc ax_WW1 ax_cg_177), ay_ex_same hR x3 (g := 48) (ax_wc ax_WW1 ax_cg_178), ay_ex_same hR x4 (g := 49) (ax_wc ax_WW1 ax_cg_179), ay_ex_same hR x5 (g := 11) (ax_wc ax_WW1 ax_cg_173), ay_ex_same hR x6 (g := 11) (ax_wc ax_WW1 ax_cg_173), ay_ex_same hR x7 (g := 11) (ax_wc ax_WW1 ax_cg_173), ay_ex_same hR x8 (g := 11) (ax_wc ax_WW1 ax_cg_173), ay_ex_same hR x9 (g := 11) (ax_wc ax_WW1 ax_cg_173), ay_ex_same hR x10 (g := 51) (ax_wc ax_WW1 ax_cg_181), ?_⟩
    show pz_yal 1 0 g n a e l (ay_at hp' 175 0) (ay_at hp' 176 0) (ay_at hp' 177 0) (ay_at hp' 178 0) (ay_at hp' 179 0) (ay_at hp' 173 23) (ay_at hp' 173 25) (ay_at hp' 173 24) (ay_at hp' 173 18) (ay_at hp' 173 19) (ay_at hp' 181)
    rw [e0, e1, e2, e3, e4, e5, e6, e7, e8, e9, e10]
    exact hX
  | [], _ => trivial
  | [_], _ => trivial
  | [_, _], _ => trivial
  | [_, _, _], _ => trivial
  | [_, _, _, _], _ => trivial
  | _ :: _ :: _ :: _ :: _ :: _ :: _, _ => trivial
theorem ax_XMs1_217 : ax_XMd1 217 := by
  intro vs dl md hp hp' hdl hall hR hX
  match vs, hX with
  | [g, n, a, e, l], hX =>
    have hdl : [(45, 0), (46, 0), (47, 0), (48, 0), (49, 0), (11, 23), (11, 25), (11, 24), (11, 18), (11, 19), (51, 999)] = dl := Option.some.inj hdl
    subst hdl
    obtain ⟨x0, x1, x2, x3, x4, x5, x6, x7, x8, x9, x10, hX⟩ := hX
    have e0 : ay_at hp' 175 0 = ay_at hp 175 0 := ay_same1 hR x0 (g := 45) (ax_wc ax_WW1 ax_cg_175) (List.all_eq_true.mp hall (45, 0) (by simp))
    have e1 : ay_at hp' 176 0 = ay_at hp 176 0 := ay_same1 hR x1 (g := 46) (ax_wc ax_WW1 ax_cg_176) (List.all_eq_true.mp hall (46, 0) (by simp))
    have e2 : ay_at hp' 177 0 = ay_at hp 177 0 := ay_same1 hR x2 (g := 47) (ax_wc ax_WW1 ax_cg_177) (List.all_eq_true.mp hall (47, 0) (by simp))
    have e3 : ay_at hp' 178 0 = ay_at hp 178 0 := ay_same1 hR x3 (g := 48) (ax_wc ax_WW1 ax_cg_178) (List.all_eq_true.mp hall (48, 0) (by simp))
    have e4 : ay_at hp' 179 0 = ay_at hp 179 0 := ay_same1 hR x4 (g := 49) (ax_wc ax_WW1 ax_cg_179) (List.all_eq_true.mp hall (49, 0) (by simp))
    have e5 : ay_at hp' 173 23 = ay_at hp 173 23 := ay_same1 hR x5 (g := 11) (ax_wc ax_WW1 ax_cg_173) (List.all_eq_true.mp hall (11, 23) (by simp))
    have e6 : ay_at hp' 173 25 = ay_at hp 173 25 := ay_same1 hR x6 (g := 11) (ax_wc ax_WW1 ax_cg_173) (List.all_eq_true.mp hall (11, 25) (by simp))
    have e7 : ay_at hp' 173 24 = ay_at hp 173 24 := ay_same1 hR x7 (g := 11) (ax_wc ax_WW1 ax_cg_173) (List.all_eq_true.mp hall (11, 24) (by simp))
    have e8 : ay_at hp' 173 18 = ay_at hp 173 18 := ay_same1 hR x8 (g := 11) (ax_wc ax_WW1 ax_cg_173) (List.all_eq_true.mp hall (11, 18) (by simp))
    have e9 : ay_at hp' 173 19 = ay_at hp 173 19 := ay_same1 hR x9 (g := 11) (ax_wc ax_WW1 ax_cg_173) (List.all_eq_true.mp hall (11, 19) (by simp))
    have e10 : ay_at hp' 181 = ay_at hp 181 := ay_same hR x10 (g := 51) (ax_wc ax_WW1 ax_cg_181) (List.all_eq_true.mp hall (51, 999) (by simp))
    refine ⟨ay_ex_same hR x0 (g := 45) (ax_wc ax_WW1 ax_cg_175), ay_ex_same hR x1 (g := 46) (ax_wc ax_WW1 ax_cg_176), ay_ex_same hR x2 (g := 47) (ax_wc ax_WW1 ax_cg_177), ay_ex_same hR x3 (g := 48) (ax_wc ax_WW1 ax_cg_178), ay_ex_same hR x4 (g := 49) (ax_wc ax_WW1 ax_cg_179), ay_ex_same hR x5 (g := 11) (ax_wc ax_WW1 ax_cg_173), ay_ex_same hR x6 (g := 11) (ax_wc ax_WW1 ax_cg_173), ay_ex_same hR x7 (g := 11) (ax_wc ax_WW1 ax_cg_173), ay_ex_same hR x8 (g := 11) (ax_wc ax_WW1 ax_cg_173), ay_ex_same hR x9 (g := 11) (ax_wc ax_WW1 ax_cg_173), ay_ex_same hR x10 (g := 51) (ax_wc ax_WW1 ax_cg_181), ?_⟩
    show pz_yal 2 0 g n a e l (ay_at hp' 175 0) (ay_at hp' 176 0) (ay_at hp' 177 0) (ay_at hp' 178 0) (ay_at hp' 179 0) (ay_at hp' 173 23) (ay_at hp' 173 25) (ay_at hp' 173 24) (ay_at hp' 173 18) (ay_at hp' 173 19) (ay_at hp' 181)
    rw [e0, e1, e2, e3, e4, e5, e6, e7, e8, e9, e10]
    exact hX
  | [], _ => trivial
  | [_], _ => trivial
  | [_, _], _ => trivial
  | [_, _, _], _ => trivial
  | [_, _, _, _], _ => trivial
  | _ :: _ :: _ :: _ :: _ :: _ :: _, _ => trivial
theorem ax_XMs1_241 : ax_XMd1 241 := by
  intro vs dl md hp hp' hdl hall hR hX
  match vs, hX with
  | [l], hX =>
    have hdl : [(50, 0), (52, 999)] = dl := Option.some.inj hdl
    subst hdl
    obtain ⟨x0, x1, hX⟩ := hX
    have e0 : ay_at hp' 180 0 = ay_at hp 180 0 := ay_same1 hR x0 (g := 50) (ax_wc ax_WW1 ax_cg_180) (List.all_eq_true.mp hall (50, 0) (by simp))
    have e1 : ay_at hp' 182 = ay_at hp 182 := ay_same hR x1 (g := 52) (ax_wc ax_WW1 ax_cg_182) (List.all_eq_true.mp hall (52, 999) (by simp))
    refine ⟨ay_ex_same hR x0 (g := 50) (ax_wc ax_WW1 ax_cg_180), ay_ex_same hR x1 (g := 52) (ax_wc ax_WW1 ax_cg_182), ?_⟩
    show py_y241 0 l (ay_at hp' 180 0) (ay_at hp' 182)
    rw [e0, e1]
    exact hX
  | [], _ => trivial
  | _ :: _ :: _, _ => trivial
theorem ax_XMs1_243 : ax_XMd1 243 := by
  intro vs dl md hp hp' hdl hall hR hX
  match vs, hX with
  | [l, c], hX =>
    have hdl : [(50, 0), (52, 999)] = dl := Option.some.inj hdl
    subst hdl
    obtain ⟨x0, x1, hX⟩ := hX
    have e0 : ay_at hp' 180 0 = ay_at hp 180 0 := ay_same1 hR x0 (g := 50) (ax_wc ax_WW1 ax_cg_180) (List.all_eq_true.mp hall (50, 0) (by simp))
    have e1 : ay_at hp' 182 = ay_at hp 182 := ay_same hR x1 (g := 52) (ax_wc ax_WW1 ax_cg_182) (List.all_eq_true.mp hall (52, 999) (by simp))
    refine ⟨ay_ex_same hR x0 (g := 50) (ax_wc ax_WW1 ax_cg_180), ay_ex_same hR x1 (g := 52) (ax_wc ax_WW1 ax_cg_182), ?_⟩
    show py_y243 0 l c (ay_at hp' 180 0) (ay_at hp' 182)
    rw [e0, e1]
    exact hX
  | [], _ => trivial
  | [_], _ => trivial
  | _ :: _ :: _ :: _, _ => trivial
theorem ax_XMs1 : ∀ y ∈ ax_spl, ax_XMd1 y := List.forall_mem_cons.mpr ⟨ax_XMs1_11, List.forall_mem_cons.mpr ⟨ax_XMs1_12, List.forall_mem_cons.mpr ⟨ax_XMs1_13, List.forall_mem_cons.mpr ⟨ax_XMs1_14, List.forall_mem_cons.mpr ⟨ax_XMs1_15, List.forall_mem_cons.mpr ⟨ax_XMs1_16, List.forall_mem_cons.mpr ⟨ax_XMs1_17, List.forall_mem_cons.mpr ⟨ax_XMs1_18, List.forall_mem_cons.mpr ⟨ax_XMs1_19, List.forall_mem_cons.mpr ⟨ax_XMs1_20, List.forall_mem_cons.mpr ⟨ax_XMs1_21, List.forall_mem_cons.mpr ⟨ax_XMs1_22, List.forall_mem_cons.mpr ⟨ax_XMs1_24, List.forall_mem_cons.mpr ⟨ax_XMs1_25, List.forall_mem_cons.mpr ⟨ax_XMs1_26, List.forall_mem_cons.mpr ⟨ax_XMs1_28, List.forall_mem_cons.mpr ⟨ax_XMs1_29, List.forall_mem_cons.mpr ⟨ax_XMs1_30, List.forall_mem_cons.mpr ⟨ax_XMs1_31, List.forall_mem_cons.mpr ⟨ax_XMs1_32, List.forall_mem_cons.mpr ⟨ax_XMs1_33, List.forall_mem_cons.mpr ⟨ax_XMs1_34, List.forall_mem_cons.mpr ⟨ax_XMs1_36, List.forall_mem_cons.mpr ⟨ax_XMs1_40, List.forall_mem_cons.mpr ⟨ax_XMs1_42, List.forall_mem_cons.mpr ⟨ax_XMs1_50, List.forall_mem_cons.mpr ⟨ax_XMs1_52, List.forall_mem_cons.mpr ⟨ax_XMs1_53, List.forall_mem_cons.mpr ⟨ax_XMs1_54, List.forall_mem_cons.mpr ⟨ax_XMs1_55, List.forall_mem_cons.mpr ⟨ax_XMs1_64, List.forall_mem_cons.mpr ⟨ax_XMs1_65, List.forall_mem_cons.mpr ⟨ax_XMs1_152, List.forall_mem_cons.mpr ⟨ax_XMs1_210, List.forall_mem_cons.mpr ⟨ax_XMs1_216, List.forall_mem_cons.mpr ⟨ax_XMs1_217, List.forall_mem_cons.mpr ⟨ax_XMs1_241, List.forall_mem_cons.mpr ⟨ax_XMs1_243, fun _ h => absurd h List.not_mem_nil⟩⟩⟩⟩⟩⟩⟩⟩⟩⟩⟩⟩⟩⟩⟩⟩⟩⟩⟩⟩⟩⟩⟩⟩⟩⟩⟩⟩⟩⟩⟩⟩⟩⟩⟩⟩⟩⟩
theorem ax_XMs1_27 : ax_XMd1 27 := fun vs dl md hp hp' _ _ _ _ => trivial
theorem ax_XMr1 : ∀ y ∈ [27], ax_XMd1 y := List.forall_mem_cons.mpr ⟨ax_XMs1_27, fun _ h => absurd h List.not_mem_nil⟩
theorem ax_XM1_ok : ax_XD ax_wM1 (ax_XM 1) := by
  intro x vs dl md hp hp' hdl hall hR hX
  cases hs : ax_sp x with
  | false =>
    cases hq : ax_sqb x with
    | false => exact ax_XMg_ok ax_WW1 x vs dl md hp hp' hs ((ax_we1 hs hq).symm.trans hdl) hall hR hX
    | true =>
      obtain ⟨y, hy, e⟩ := List.any_eq_true.mp hq
      rw [Nat.eq_of_beq_eq_true e] at hdl hX ⊢
      exact ax_XMr1 y hy vs dl md hp hp' hdl hall hR hX
  | true => exact ax_sp_all (P := ax_XMd1) ax_XMs1 hs vs dl md hp hp' hdl hall hR hX
theorem axq1_huA : ax_RO ax_wM1 (ax_XM 1) axu1_huA := axqg_huA ax_WW1
theorem axq1_hrU : ax_RO ax_wM1 (ax_XM 1) axu1_hrU := axqg_hrU ax_WW1
theorem axq1_huU : ax_RO ax_wM1 (ax_XM 1) axu1_huU := axqg_huU ax_WW1
theorem axq1_hrA : ax_RO ax_wM1 (ax_XM 1) axu1_hrA := axqg_hrA ax_WW1
theorem axq1_hk : ax_RO ax_wM1 (ax_XM 1) axu1_hk := axqg_hk ax_WW1
theorem axq1_hzstartAnew : ax_RO ax_wM1 (ax_XM 1) axu1_hzstartAnew := axqg_hzstartAnew ax_WW1
theorem axq1_hzback : ax_RO ax_wM1 (ax_XM 1) axu1_hzback := axqg_hzback ax_WW1
theorem axq1_kgen : ax_RO ax_wM1 (ax_XM 1) axu1_kgen := by
  intro ρ hp hE hT
  obtain ⟨k, m, l, f1, f2⟩ := ax_gF hE 702 224 3 173 56 (ρ 0) (by decide) (by rw [ax_vl_c (by decide)]) (by rw [ax_vl_c (by decide)]) rfl
  have ht : ax_ok ax_wM1 (0, 2147483648, 2147483667) (ρ 0) := hE.2.1 0 _ (by decide) rfl
  obtain ⟨ρ', h1, h2⟩ := ax_pf (q := 173) (j := 56) hE (a := 702) (i := 224) (by decide) (by decide) (ax_vl_c (by decide)) (ax_vl_c (by decide)) f1 f2 ht
  exact ⟨(fun x hx => by cases hx), _, List.mem_cons_self, ρ', h1, h2⟩
theorem axq1_wSk0 : ax_RO ax_wM1 (ax_XM 1) axu1_wSk0 := axqg_wSk0 ax_WW1
theorem axq1_wSs0 : ax_RO ax_wM1 (ax_XM 1) axu1_wSs0 := axqg_wSs0 ax_WW1
theorem axq1_bS0 : ax_RO ax_wM1 (ax_XM 1) axu1_bS0 := axqg_bS0 ax_WW1
theorem axq1_wSk1 : ax_RO ax_wM1 (ax_XM 1) axu1_wSk1 := axqg_wSk1 ax_WW1
theorem axq1_wSs1 : ax_RO ax_wM1 (ax_XM 1) axu1_wSs1 := axqg_wSs1 ax_WW1
theorem axq1_bS1 : ax_RO ax_wM1 (ax_XM 1) axu1_bS1 := axqg_bS1 ax_WW1
theorem axq1_wR1 : ax_RO ax_wM1 (ax_XM 1) axu1_wR1 := by
  intro ρ hp hE hT
  obtain ⟨kk, m, f, e1, e2⟩ : ax_M1 202 hp := (ax_XF_lt (by decide)).mp (ax_gx hE (1, []) (by decide))
  obtain ⟨k, hk, k1, k2, k3⟩ := ax_gi hE 1 2147483689 2147483700 (by decide) rfl
  obtain ⟨k4, k5⟩ := ax_bi_pos k1 (by omega)
  obtain ⟨a, ha, a1, a2, a3⟩ := ax_gi hE 2 2147483648 2147483668 (by decide) rfl
  obtain ⟨a4, a5⟩ := ax_bi_pos a1 (by omega)
  have hi : ρ 0 = 4 * (103 * a + k) := ax_gi3 hE 11 15 7 3 (by decide) (by decide) ha (by omega) hk (by omega)
  have hl := ax_len hT (q := 202) (ax_wc ax_WW1 ax_cg_202) (n := 2163) (ax_wn ax_WW1 ax_cn_72) e1
  obtain ⟨v, hv⟩ := ax_get_some (f := f) (i := 103 * a + k) (by omega)
  have h3 := e2 _ _ hv
  rw [show (103 * a + k) % 103 = k by omega] at h3
  obtain ⟨v1, v2, -, -⟩ := ax_cellI hT (q := 202) (g := 72) (n := 2163) (ax_wc ax_WW1 ax_cg_202) rfl e1 hv
  obtain ⟨h4, h5⟩ := h3.1 (by omega) (by omega)
  obtain ⟨ρ', h1, h2⟩ := ax_pf (q := 202) (j := 103 * a + k) (t := (0, 2147483648, 2147483649)) hE (a := 818) (i := 3) (by decide) (by decide) (ax_vl_c (by decide)) hi e1 hv (Or.inl ⟨rfl, v1, v2, h4, h5⟩)
  exact ⟨(fun x hx => by cases hx), _, List.mem_cons_self, ρ', h1, h2⟩
theorem axq1_bR1 : ax_RO ax_wM1 (ax_XM 1) axu1_bR1 := by
  intro ρ hp hE hT
  obtain ⟨kk, m, f, e1, e2⟩ : ax_M1 203 hp := (ax_XF_lt (by decide)).mp (ax_gx hE (2, []) (by decide))
  obtain ⟨k, hk, k1, k2, k3⟩ := ax_gi hE 1 2147483689 2147483700 (by decide) rfl
  obtain ⟨k4, k5⟩ := ax_bi_pos k1 (by omega)
  obtain ⟨a, ha, a1, a2, a3⟩ := ax_gi hE 2 2147483648 2147483649 (by decide) rfl
  obtain ⟨a4, a5⟩ := ax_bi_pos a1 (by omega)
  have hi : ρ 0 = 4 * (103 * a + k) := ax_gi3 hE 11 15 7 3 (by decide) (by decide) ha (by omega) hk (by omega)
  have hl := ax_len hT (q := 203) (ax_wc ax_WW1 ax_cg_203) (n := 206) (ax_wn ax_WW1 ax_cn_73) e1
  obtain ⟨v, hv⟩ := ax_get_some (f := f) (i := 103 * a + k) (by omega)
  have h3 := e2 _ _ hv
  rw [show (103 * a + k) % 103 = k by omega] at h3
  obtain ⟨v1, v2, -, -⟩ := ax_cellI hT (q := 203) (g := 73) (n := 206) (ax_wc ax_WW1 ax_cg_203) rfl e1 hv
  obtain ⟨h4, h5⟩ := h3.1 (by omega) (by omega)
  obtain ⟨ρ', h1, h2⟩ := ax_pf (q := 203) (j := 103 * a + k) (t := (0, 2147483648, 2147483649)) hE (a := 822) (i := 3) (by decide) (by decide) (ax_vl_c (by decide)) hi e1 hv (Or.inl ⟨rfl, v1, v2, h4, h5⟩)
  exact ⟨(fun x hx => by cases hx), _, List.mem_cons_self, ρ', h1, h2⟩
theorem axq1_wSk2 : ax_RO ax_wM1 (ax_XM 1) axu1_wSk2 := axqg_wSk2 ax_WW1
theorem axq1_wSs2 : ax_RO ax_wM1 (ax_XM 1) axu1_wSs2 := axqg_wSs2 ax_WW1
theorem axq1_bS2 : ax_RO ax_wM1 (ax_XM 1) axu1_bS2 := axqg_bS2 ax_WW1
theorem axq1_wR2 : ax_RO ax_wM1 (ax_XM 1) axu1_wR2 := by
  intro ρ hp hE hT
  obtain ⟨kk, m, f, e1, e2⟩ : ax_M1 202 hp := (ax_XF_lt (by decide)).mp (ax_gx hE (1, []) (by decide))
  obtain ⟨k, hk, k1, k2, k3⟩ := ax_gi hE 1 2147483701 2147483724 (by decide) rfl
  obtain ⟨k4, k5⟩ := ax_bi_pos k1 (by omega)
  obtain ⟨a, ha, a1, a2, a3⟩ := ax_gi hE 2 2147483648 2147483668 (by decide) rfl
  obtain ⟨a4, a5⟩ := ax_bi_pos a1 (by omega)
  have hi : ρ 0 = 4 * (103 * a + k) := ax_gi3 hE 11 15 7 3 (by decide) (by decide) ha (by omega) hk (by omega)
  have hl := ax_len hT (q := 202) (ax_wc ax_WW1 ax_cg_202) (n := 2163) (ax_wn ax_WW1 ax_cn_72) e1
  obtain ⟨v, hv⟩ := ax_get_some (f := f) (i := 103 * a + k) (by omega)
  have h3 := e2 _ _ hv
  rw [show (103 * a + k) % 103 = k by omega] at h3
  obtain ⟨v1, v2, -, -⟩ := ax_cellI hT (q := 202) (g := 72) (n := 2163) (ax_wc ax_WW1 ax_cg_202) rfl e1 hv
  obtain ⟨h4, h5⟩ := h3.2.1 (by omega) (by omega)
  obtain ⟨ρ', h1, h2⟩ := ax_pf (q := 202) (j := 103 * a + k) (t := (0, 2147483648, 2147483657)) hE (a := 818) (i := 3) (by decide) (by decide) (ax_vl_c (by decide)) hi e1 hv (Or.inl ⟨rfl, v1, v2, h4, h5⟩)
  exact ⟨(fun x hx => by cases hx), _, List.mem_cons_self, ρ', h1, h2⟩
theorem axq1_bR2 : ax_RO ax_wM1 (ax_XM 1) axu1_bR2 := by
  intro ρ hp hE hT
  obtain ⟨kk, m, f, e1, e2⟩ : ax_M1 203 hp := (ax_XF_lt (by decide)).mp (ax_gx hE (2, []) (by decide))
  obtain ⟨k, hk, k1, k2, k3⟩ := ax_gi hE 1 2147483701 2147483724 (by decide) rfl
  obtain ⟨k4, k5⟩ := ax_bi_pos k1 (by omega)
  obtain ⟨a, ha, a1, a2, a3⟩ := ax_gi hE 2 2147483648 2147483649 (by decide) rfl
  obtain ⟨a4, a5⟩ := ax_bi_pos a1 (by omega)
  have hi : ρ 0 = 4 * (103 * a + k) := ax_gi3 hE 11 15 7 3 (by decide) (by decide) ha (by omega) hk (by omega)
  have hl := ax_len hT (q := 203) (ax_wc ax_WW1 ax_cg_203) (n := 206) (ax_wn ax_WW1 ax_cn_73) e1
  obtain ⟨v, hv⟩ := ax_get_some (f := f) (i := 103 * a + k) (by omega)
  have h3 := e2 _ _ hv
  rw [show (103 * a + k) % 103 = k by omega] at h3
  obtain ⟨v1, v2, -, -⟩ := ax_cellI hT (q := 203) (g := 73) (n := 206) (ax_wc ax_WW1 ax_cg_203) rfl e1 hv
  obtain ⟨h4, h5⟩ := h3.2.1 (by omega) (by omega)
  obtain ⟨ρ', h1, h2⟩ := ax_pf (q := 203) (j := 103 * a + k) (t := (0, 2147483648, 2147483657)) hE (a := 822) (i := 3) (by decide) (by decide) (ax_vl_c (by decide)) hi e1 hv (Or.inl ⟨rfl, v1, v2, h4, h5⟩)
  exact ⟨(fun x hx => by cases hx), _, List.mem_cons_self, ρ', h1, h2⟩
theorem axq1_wSk3 : ax_RO ax_wM1 (ax_XM 1) axu1_wSk3 := axqg_wSk3 ax_WW1
theorem axq1_wSs3 : ax_RO ax_wM1 (ax_XM 1) axu1_wSs3 := axqg_wSs3 ax_WW1
theorem axq1_bS3 : ax_RO ax_wM1 (ax_XM 1) axu1_bS3 := axqg_bS3 ax_WW1
theorem axq1_wR3 : ax_RO ax_wM1 (ax_XM 1) axu1_wR3 := by
  intro ρ hp hE hT
  obtain ⟨kk, m, f, e1, e2⟩ : ax_M1 202 hp := (ax_XF_lt (by decide)).mp (ax_gx hE (1, []) (by decide))
  obtain ⟨k, hk, k1, k2, k3⟩ := ax_gi hE 1 2147483725 2147483736 (by decide) rfl
  obtain ⟨k4, k5⟩ := ax_bi_pos k1 (by omega)
  obtain ⟨a, ha, a1, a2, a3⟩ := ax_gi hE 2 2147483648 2147483668 (by decide) rfl
  obtain ⟨a4, a5⟩ := ax_bi_pos a1 (by omega)
  have hi : ρ 0 = 4 * (103 * a + k) := ax_gi3 hE 11 15 7 3 (by decide) (by decide) ha (by omega) hk (by omega)
  have hl := ax_len hT (q := 202) (ax_wc ax_WW1 ax_cg_202) (n := 2163) (ax_wn ax_WW1 ax_cn_72) e1
  obtain ⟨v, hv⟩ := ax_get_some (f := f) (i := 103 * a + k) (by omega)
  have h3 := e2 _ _ hv
  rw [show (103 * a + k) % 103 = k by omega] at h3
  obtain ⟨v1, v2, -, -⟩ := ax_cellI hT (q := 202) (g := 72) (n := 2163) (ax_wc ax_WW1 ax_cg_202) rfl e1 hv
  obtain ⟨h4, h5⟩ := h3.2.2 (by omega) (by omega)
  obtain ⟨ρ', h1, h2⟩ := ax_pf (q := 202) (j := 103 * a + k) (t := (0, 2147483647, 2147483687)) hE (a := 818) (i := 3) (by decide) (by decide) (ax_vl_c (by decide)) hi e1 hv (Or.inl ⟨rfl, v1, v2, h4, h5⟩)
  exact ⟨(fun x hx => by cases hx), _, List.mem_cons_self, ρ', h1, h2⟩
theorem axq1_bR3 : ax_RO ax_wM1 (ax_XM 1) axu1_bR3 := by
  intro ρ hp hE hT
  obtain ⟨kk, m, f, e1, e2⟩ : ax_M1 203 hp := (ax_XF_lt (by decide)).mp (ax_gx hE (2, []) (by decide))
  obtain ⟨k, hk, k1, k2, k3⟩ := ax_gi hE 1 2147483725 2147483736 (by decide) rfl
  obtain ⟨k4, k5⟩ := ax_bi_pos k1 (by omega)
  obtain ⟨a, ha, a1, a2, a3⟩ := ax_gi hE 2 2147483648 2147483649 (by decide) rfl
  obtain ⟨a4, a5⟩ := ax_bi_pos a1 (by omega)
  have hi : ρ 0 = 4 * (103 * a + k) := ax_gi3 hE 11 15 7 3 (by decide) (by decide) ha (by omega) hk (by omega)
  have hl := ax_len hT (q := 203) (ax_wc ax_WW1 ax_cg_203) (n := 206) (ax_wn ax_WW1 ax_cn_73) e1
  obtain ⟨v, hv⟩ := ax_get_some (f := f) (i := 103 * a + k) (by omega)
  have h3 := e2 _ _ hv
  rw [show (103 * a + k) % 103 = k by omega] at h3
  obtain ⟨v1, v2, -, -⟩ := ax_cellI hT (q := 203) (g := 73) (n := 206) (ax_wc ax_WW1 ax_cg_203) rfl e1 hv
  obtain ⟨h4, h5⟩ := h3.2.2 (by omega) (by omega)
  obtain ⟨ρ', h1, h2⟩ := ax_pf (q := 203) (j := 103 * a + k) (t := (0, 2147483647, 2147483687)) hE (a := 822) (i := 3) (by decide) (by decide) (ax_vl_c (by decide)) hi e1 hv (Or.inl ⟨rfl, v1, v2, h4, h5⟩)
  exact ⟨(fun x hx => by cases hx), _, List.mem_cons_self, ρ', h1, h2⟩
theorem axq1_wSk4 : ax_RO ax_wM1 (ax_XM 1) axu1_wSk4 := axqg_wSk4 ax_WW1
theorem axq1_wSs4 : ax_RO ax_wM1 (ax_XM 1) axu1_wSs4 := axqg_wSs4 ax_WW1
theorem axq1_bS4 : ax_RO ax_wM1 (ax_XM 1) axu1_bS4 := axqg_bS4 ax_WW1
theorem axq1_wM : ax_RO ax_wM1 (ax_XM 1) axu1_wM := axqg_wM ax_WW1
theorem axq1_fp0 : ax_RO ax_wM1 (ax_XM 1) axu1_fp0 := axqg_fp0 ax_WW1
theorem axq1_fpN : ax_RO ax_wM1 (ax_XM 1) axu1_fpN := axqg_fpN ax_WW1
theorem axq1_fpF : ax_RO ax_wM1 (ax_XM 1) axu1_fpF := axqg_fpF ax_WW1
theorem axq1_fpX : ax_RO ax_wM1 (ax_XM 1) axu1_fpX := axqg_fpX ax_WW1
theorem axq1_lg0 : ax_RO ax_wM1 (ax_XM 1) axu1_lg0 := axqg_lg0 ax_WW1
theorem axq1_lgN : ax_RO ax_wM1 (ax_XM 1) axu1_lgN := axqg_lgN ax_WW1
theorem axq1_lgS : ax_RO ax_wM1 (ax_XM 1) axu1_lgS := axqg_lgS ax_WW1
theorem axq1_ro0 : ax_RO ax_wM1 (ax_XM 1) axu1_ro0 := axqg_ro0 ax_WW1
theorem axq1_roS0 : ax_RO ax_wM1 (ax_XM 1) axu1_roS0 := axqg_roS0 ax_WW1
theorem axq1_roS2 : ax_RO ax_wM1 (ax_XM 1) axu1_roS2 := axqg_roS2 ax_WW1
theorem axq1_roN : ax_RO ax_wM1 (ax_XM 1) axu1_roN := axqg_roN ax_WW1
