section
/-! String.length, String.charAt of the class's words: their contracts, by the kit's rows -/
noncomputable def rx_rm (f lo : Nat) : Room := { frames := f, cells := 0, slots := 0, locals := lo }
noncomputable def rx_Zp (b : Nat → Nat) (asA : List Value) (sz : Nat) : Array Value → State → Prop := va_Pc asA (fun U => U.heap.size = sz ∧ rx_Zt b (fun q => sz ≤ q) U)
theorem rx_Zp_blind {b : Nat → Nat} {asA : List Value} {sz : Nat} : FrameBlind (rx_Zp b asA sz) := by
  intro a U g mk q
  obtain ⟨q0, q1, q2⟩ := q
  exact ⟨q0, q1, q2.blind⟩
noncomputable def rx_Zi (x : Int32) (sz : Nat) : Array Value → State → Outcome → State → Prop := va_Qi (S := Unit) (fun r _ => r = x) (fun _ _ => True) (fun q => sz ≤ q)
noncomputable def rx_Zv (sz : Nat) : Array Value → State → Outcome → State → Prop := va_Qv (S := Unit) (fun _ => True) (fun _ _ => True) (fun q => sz ≤ q)
section RXZ
variable {p : Program} {l : Launch} {e : Env} {R : Room} {s : State} {m : MethodId} {args : Array Value} {below : List Frame} {meth : Method} {c : Code} {Q : State → Prop}
variable {b : Nat → Nat} {A : Nat → Prop} {H : Heap} {locs : List Loc} {cells slots : Nat} {cc bytes : ByteArray} {nL index maxL f lo a pc : Nat} {own : String} {y : MethodName} {ret : Option FieldType} {x : Int32} {As rest : List Value} {ls : Array Slot}
theorem rx_zV (fix : CallFix p m c cc nL s args lw_G own) (hM : ∀ sz, Met l y (Jvm.Cond.code y bytes maxL ret :: lw_G) (rx_rm f lo) (rx_Zp b (.ref a :: As) sz) (rx_Zi x sz) 0 0 (fun q => sz ≤ q))
    (w1 : Jvm.Cond.methodLink own index y ∈ lw_G) (w2 : Jvm.Cond.instanceMethod y ∈ lw_G) (w3 : Jvm.Cond.selects y.cls y y ∈ lw_G) (w4 : Jvm.Cond.initialized y.cls ∈ lw_G) (w5 : Jvm.Cond.code y bytes maxL ret ∈ lw_G)
    (hd : y.cls ≠ "java/lang/invoke/MethodHandle" ∧ y.cls ≠ "java/lang/invoke/VarHandle" ∧ (parseMethodDescriptor y.desc).map (fun d => d.parameters.length) = some As.length) (hRm : f + 1 ≤ R.frames ∧ 8 + (maxL + 11) + lo ≤ R.locals)
    (hZ : rx_Zt b A s) (hS : va_S A s.heap H locs) (hA : ∀ z, s.heap.size ≤ z → A z) (hrec : ∃ cell : Cell, H[a]? = some cell ∧ cell.vm.isStatics = false ∧ s.vm.findClass y.cls = some cell.cls)
    (hsize : ls.size = nL) (hcat : (rest.map fun v => v.category).sum ≤ 8) (hf : cells ≤ R.cells ∧ slots ≤ R.slots) (hdg : decode cc pc = .ok (.invokevirtual index, 3))
    (kk : ∀ (H1 : Heap) (locs1 : List Loc), H.size ≤ H1.size → (∀ q : Nat, q < H.size → H1[q]? = H[q]?) → va_S A s.heap H1 locs1 → W p l e R s m args below meth c H1 locs1 cells slots Q (F0 m (pc + 3) ls (.int x :: rest))) : W p l e R s m args below meth c H locs cells slots Q (F0 m pc ls (As.reverse ++ .ref a :: rest)) := by
  have hG : GoodIn lw_G (wsV own index y.cls y (Jvm.Cond.code y bytes maxL ret :: lw_G)) := lw_G_good (fun w hw => by
    rcases List.mem_append.mp hw with hw | hw
    · simp only [List.mem_cons, List.not_mem_nil, or_false] at hw
      rcases hw with rfl | rfl | rfl | rfl
      · exact w1
      · exact w2
      · exact w3
      · exact w4
    · rcases List.mem_cons.mp hw with rfl | hw
      · exact w5
      · exact hw)
  have hroom : 2 * (F0 m pc ls (As.reverse ++ .ref a :: rest)).monitorRoom + (rest.map fun v => v.category).sum ≤ 8 := by
    show 2 * 0 + _ ≤ 8
    omega
  have hrun := va_runV (p := p) (l := l) (e := e) (R := R) (below := below) (meth := meth) (locs := locs) (cells := cells) (slots := slots) (g := F0 m pc ls (As.reverse ++ .ref a :: rest)) (As := As) (rest := rest) (b := a) (C := y.cls) fix (hM H.size) (cwV As.length fix.2.2.2.2 hG rfl rfl rfl ⟨rfl, hd⟩ hRm) ⟨rx_Zp_blind, hrec, fun U hU hW => ⟨rfl, by rw [hU], hZ.call hW hU hS (fun q hq => hA q (Nat.le_trans hS.1 hq))⟩⟩ rfl rfl hsize rfl hroom hdg hf
  refine va_calli hrun hS (fun q h1 h2 => absurd h1 (Nat.not_lt.mpr h2)) (fun q hq => hA q (Nat.le_trans hS.1 hq)) (fun r u t H1 locs1 e1 e2 hp _ hsz hk hS1 => ?_)
  have hp : r = x := hp
  subst hp
  exact kk H1 locs1 hsz (fun q hq => hk q hq (Nat.not_le.mpr hq)) hS1
theorem rx_zS (fix : CallFix p m c cc nL s args lw_G own) (hM : ∀ sz, Met l y (Jvm.Cond.code y bytes maxL ret :: lw_G) (rx_rm f lo) (rx_Zp b As sz) (rx_Zi x sz) 0 0 (fun q => sz ≤ q))
    (w1 : Jvm.Cond.methodLink own index y ∈ lw_G) (w2 : Jvm.Cond.static y ∈ lw_G) (w4 : Jvm.Cond.initialized y.cls ∈ lw_G) (w5 : Jvm.Cond.code y bytes maxL ret ∈ lw_G)
    (hd : y.cls ≠ "java/lang/invoke/MethodHandle" ∧ y.cls ≠ "java/lang/invoke/VarHandle" ∧ (parseMethodDescriptor y.desc).map (fun d => d.parameters.length) = some As.length) (hRm : f + 1 ≤ R.frames ∧ 8 + (maxL + 11) + lo ≤ R.locals)
    (hZ : rx_Zt b A s) (hS : va_S A s.heap H locs) (hA : ∀ z, s.heap.size ≤ z → A z)
    (hsize : ls.size = nL) (hcat : (rest.map fun v => v.category).sum ≤ 8) (hf : cells ≤ R.cells ∧ slots ≤ R.slots) (hdg : decode cc pc = .ok (.invokestatic index, 3))
    (kk : ∀ (H1 : Heap) (locs1 : List Loc), H.size ≤ H1.size → (∀ q : Nat, q < H.size → H1[q]? = H[q]?) → va_S A s.heap H1 locs1 → W p l e R s m args below meth c H1 locs1 cells slots Q (F0 m (pc + 3) ls (.int x :: rest))) : W p l e R s m args below meth c H locs cells slots Q (F0 m pc ls (As.reverse ++ rest)) := by
  have hG : GoodIn lw_G (va_wsS own index y (Jvm.Cond.code y bytes maxL ret :: lw_G)) := lw_G_good (fun w hw => by
    rcases List.mem_append.mp hw with hw | hw
    · simp only [List.mem_cons, List.not_mem_nil, or_false] at hw
      rcases hw with rfl | rfl | rfl
      · exact w1
      · exact w2
      · exact w4
    · rcases List.mem_cons.mp hw with rfl | hw
      · exact w5
      · exact hw)
  have hroom : 2 * (F0 m pc ls (As.reverse ++ rest)).monitorRoom + (rest.map fun v => v.category).sum ≤ 8 := by
    show 2 * 0 + _ ≤ 8
    omega
  have hrun := va_runS (p := p) (l := l) (e := e) (R := R) (below := below) (meth := meth) (locs := locs) (cells := cells) (slots := slots) (g := F0 m pc ls (As.reverse ++ rest)) (As := As) (rest := rest) fix (hM H.size) (va_cwS As.length fix.2.2.2.2 hG rfl rfl rfl hd hRm) ⟨rx_Zp_blind, fun U hU hW => ⟨rfl, by rw [hU], hZ.call hW hU hS (fun q hq => hA q (Nat.le_trans hS.1 hq))⟩⟩ rfl rfl hsize rfl hroom hdg hf
  refine va_calli hrun hS (fun q h1 h2 => absurd h1 (Nat.not_lt.mpr h2)) (fun q hq => hA q (Nat.le_trans hS.1 hq)) (fun r u t H1 locs1 e1 e2 hp _ hsz hk hS1 => ?_)
  have hp : r = x := hp
  subst hp
  exact kk H1 locs1 hsz (fun q hq => hk q hq (Nat.not_le.mpr hq)) hS1
theorem rx_zN (fix : CallFix p m c cc nL s args lw_G own) (hM : ∀ sz, Met l y (Jvm.Cond.code y bytes maxL ret :: lw_G) (rx_rm f lo) (rx_Zp b As sz) (rx_Zv sz) 0 0 (fun q => sz ≤ q))
    (w1 : Jvm.Cond.methodLink own index y ∈ lw_G) (w2 : Jvm.Cond.static y ∈ lw_G) (w4 : Jvm.Cond.initialized y.cls ∈ lw_G) (w5 : Jvm.Cond.code y bytes maxL ret ∈ lw_G)
    (hd : y.cls ≠ "java/lang/invoke/MethodHandle" ∧ y.cls ≠ "java/lang/invoke/VarHandle" ∧ (parseMethodDescriptor y.desc).map (fun d => d.parameters.length) = some As.length) (hRm : f + 1 ≤ R.frames ∧ 8 + (maxL + 11) + lo ≤ R.locals)
    (hZ : rx_Zt b A s) (hS : va_S A s.heap H locs) (hA : ∀ z, s.heap.size ≤ z → A z)
    (hsize : ls.size = nL) (hcat : (rest.map fun v => v.category).sum ≤ 8) (hf : cells ≤ R.cells ∧ slots ≤ R.slots) (hdg : decode cc pc = .ok (.invokestatic index, 3))
    (kk : ∀ (H1 : Heap) (locs1 : List Loc), H.size ≤ H1.size → (∀ q : Nat, q < H.size → H1[q]? = H[q]?) → va_S A s.heap H1 locs1 → W p l e R s m args below meth c H1 locs1 cells slots Q (F0 m (pc + 3) ls rest)) : W p l e R s m args below meth c H locs cells slots Q (F0 m pc ls (As.reverse ++ rest)) := by
  have hG : GoodIn lw_G (va_wsS own index y (Jvm.Cond.code y bytes maxL ret :: lw_G)) := lw_G_good (fun w hw => by
    rcases List.mem_append.mp hw with hw | hw
    · simp only [List.mem_cons, List.not_mem_nil, or_false] at hw
      rcases hw with rfl | rfl | rfl
      · exact w1
      · exact w2
      · exact w4
    · rcases List.mem_cons.mp hw with rfl | hw
      · exact w5
      · exact hw)
  have hroom : 2 * (F0 m pc ls (As.reverse ++ rest)).monitorRoom + (rest.map fun v => v.category).sum ≤ 8 := by
    show 2 * 0 + _ ≤ 8
    omega
  have hrun := va_runS (p := p) (l := l) (e := e) (R := R) (below := below) (meth := meth) (locs := locs) (cells := cells) (slots := slots) (g := F0 m pc ls (As.reverse ++ rest)) (As := As) (rest := rest) fix (hM H.size) (va_cwS As.length fix.2.2.2.2 hG rfl rfl rfl hd hRm) ⟨rx_Zp_blind, fun U hU hW => ⟨rfl, by rw [hU], hZ.call hW hU hS (fun q hq => hA q (Nat.le_trans hS.1 hq))⟩⟩ rfl rfl hsize rfl hroom hdg hf
  refine va_callv hrun hS (fun q h1 h2 => absurd h1 (Nat.not_lt.mpr h2)) (fun q hq => hA q (Nat.le_trans hS.1 hq)) (fun u t H1 locs1 e1 e2 hp _ hsz hk hS1 => ?_)
  exact kk H1 locs1 hsz (fun q hq => hk q hq (Nat.not_le.mpr hq)) hS1
end RXZ
theorem rx_z_num : ∀ n, n < 9 → ∀ k, k < n → (¬ (Int32.ofNat k < 0)) ∧ Int32.ofNat k < Int32.ofNat n ∧ (Int32.ofNat k).toNatClampNeg = k := by decide +kernel
theorem rx_z_lt9 : ∀ i, i < 8 → rx_sln.getD i 0 < 9 := by decide +kernel
theorem rx_z_byte : ∀ i, i < 8 → ∀ k, k < rx_sln.getD i 0 → (((rx_sb32.getD i []).getD k 0 &&& 255).toUInt32 % 65536).toInt32 = (rx_sb32.getD i []).getD k 0 ∧ ((rx_sb32.getD i []).getD k 0).toUInt32.toUInt16.toUInt32.toInt32 = (rx_sb32.getD i []).getD k 0 := by decide +kernel
theorem rx_z_coder {l : Launch} {b : Nat → Nat} {i : Nat} (hi : i < 8) : ∀ sz, Met l yJ0_coder_7d493 (Jvm.Cond.code yJ0_coder_7d493 cJ0_coder_7d493 1 (some .byte) :: lw_G) (rx_rm 0 0) (rx_Zp b [Value.ref (b (i + 1))] sz) (rx_Zi 0 sz) 0 0 (fun q => sz ≤ q) := by
  intro sz
  refine Met.ofW (cc := cJ0_coder_7d493) (maxL := 1) (ret := (some .byte)) (by decide) rfl ?_
  intro p e s m args below meth c s₁ B hml hv
  obtain ⟨rfl, hsz, hZ⟩ := hv
  have hx := B.exec
  have hb := B.bytes
  have hr := B.returns
  have hts : ∀ w ∈ lw_G, w.before _ s = true := fun w hw => atoms_spec (ws := Jvm.Cond.code yJ0_coder_7d493 cJ0_coder_7d493 1 (some .byte) :: lw_G) B.pre w (List.mem_cons_of_mem _ hw)
  have hown : s.vm.findClass RJ0 = some m.cls := findClass_of_methodNamed B.named
  have hlocks := B.notSynchronized
  subst hsz
  have hl := lv_entry [Value.ref (b (i + 1))] (n := 1) (by simp [lg_sl, Value.category])
  rw [lg_entry_eq]
  generalize (lg_sl [Value.ref (b (i + 1))] ++ List.replicate (1 - (lg_sl [Value.ref (b (i + 1))]).length) Slot.unset).toArray = ls at hl ⊢
  have hA : ∀ z, s.heap.size ≤ z → s.heap.size ≤ z := fun _ h => h
  have S0 : va_S (fun q => s.heap.size ≤ q) s.heap s.heap [] := va_S.rf
  have l0 : ls[0]? = some (.val (Value.ref (b (i + 1)))) := hl.2.2 (0, Value.ref (b (i + 1))) (by simp [lv_args, Value.category])
  refine va_gets hx hb hZ.2.2.1 S0 hown (hts _ rx_w_f_cs) (fun _ h => h) rx_d_coder_0 ?_
  refine lv_if_eq hx hb (tgt := 13) rx_d_coder_3 (by decide) (fun z => absurd z (by decide)) (fun _ => ?_)
  refine lv_aload_n hx hb rx_d_coder_6 rfl l0 ?_
  refine vk_getf hx hb (hZ.1.1 i hi).2.1 S0 hown (hts _ rx_w_f_coder) (fun _ h => h) rx_d_coder_7 ?_
  refine lv_goto hx hb (tgt := 14) rx_d_coder_10 (by decide) ?_
  exact W.zret hx hb hr rfl (fun t ht hW => ⟨⟨_, (), rfl, rfl, trivial⟩, S0.F ht⟩) S0.2.2 rx_d_coder_14
theorem rx_z_lat {l : Launch} {b : Nat → Nat} {i : Nat} (hi : i < 8) : ∀ sz, Met l yJ0_isLatin1_aae02 (Jvm.Cond.code yJ0_isLatin1_aae02 cJ0_isLatin1_aae02 1 (some .boolean) :: lw_G) (rx_rm 0 0) (rx_Zp b [Value.ref (b (i + 1))] sz) (rx_Zi 1 sz) 0 0 (fun q => sz ≤ q) := by
  intro sz
  refine Met.ofW (cc := cJ0_isLatin1_aae02) (maxL := 1) (ret := (some .boolean)) (by decide) rfl ?_
  intro p e s m args below meth c s₁ B hml hv
  obtain ⟨rfl, hsz, hZ⟩ := hv
  have hx := B.exec
  have hb := B.bytes
  have hr := B.returns
  have hts : ∀ w ∈ lw_G, w.before _ s = true := fun w hw => atoms_spec (ws := Jvm.Cond.code yJ0_isLatin1_aae02 cJ0_isLatin1_aae02 1 (some .boolean) :: lw_G) B.pre w (List.mem_cons_of_mem _ hw)
  have hown : s.vm.findClass RJ0 = some m.cls := findClass_of_methodNamed B.named
  have hlocks := B.notSynchronized
  subst hsz
  have hl := lv_entry [Value.ref (b (i + 1))] (n := 1) (by simp [lg_sl, Value.category])
  rw [lg_entry_eq]
  generalize (lg_sl [Value.ref (b (i + 1))] ++ List.replicate (1 - (lg_sl [Value.ref (b (i + 1))]).length) Slot.unset).toArray = ls at hl ⊢
  have hA : ∀ z, s.heap.size ≤ z → s.heap.size ≤ z := fun _ h => h
  have S0 : va_S (fun q => s.heap.size ≤ q) s.heap s.heap [] := va_S.rf
  have l0 : ls[0]? = some (.val (Value.ref (b (i + 1)))) := hl.2.2 (0, Value.ref (b (i + 1))) (by simp [lv_args, Value.category])
  refine va_gets hx hb hZ.2.2.1 S0 hown (hts _ rx_w_f_cs) (fun _ h => h) rx_d_lat_0 ?_
  refine lv_if_eq hx hb (tgt := 17) rx_d_lat_3 (by decide) (fun z => absurd z (by decide)) (fun _ => ?_)
  refine lv_aload_n hx hb rx_d_lat_6 rfl l0 ?_
  refine vk_getf hx hb (hZ.1.1 i hi).2.1 S0 hown (hts _ rx_w_f_coder) (fun _ h => h) rx_d_lat_7 ?_
  refine lv_if_ne hx hb (tgt := 17) rx_d_lat_10 (by decide) (fun z => absurd rfl z) (fun _ => ?_)
  refine lv_iconst hx hb (v := 1) rx_d_lat_13 (by decide) ?_
  refine lv_goto hx hb (tgt := 18) rx_d_lat_14 (by decide) ?_
  exact W.zret hx hb hr rfl (fun t ht hW => ⟨⟨_, (), rfl, rfl, trivial⟩, S0.F ht⟩) S0.2.2 rx_d_lat_18
theorem rx_z_pci {l : Launch} {b : Nat → Nat} {x y : Int32} {v : Value} (hv1 : v.category = 1) (hx0 : ¬ x < 0) (hxy : x < y) : ∀ sz, Met l yJ3_checkIndex_8e157 (Jvm.Cond.code yJ3_checkIndex_8e157 cJ3_checkIndex_8e157 3 (some .int) :: lw_G) (rx_rm 0 0) (rx_Zp b [Value.int x, Value.int y, v] sz) (rx_Zi x sz) 0 0 (fun q => sz ≤ q) := by
  intro sz
  refine Met.ofW (cc := cJ3_checkIndex_8e157) (maxL := 3) (ret := (some .int)) (by decide) rfl ?_
  intro p e s m args below meth c s₁ B hml hv
  obtain ⟨rfl, hsz, hZ⟩ := hv
  have hx := B.exec
  have hb := B.bytes
  have hr := B.returns
  have hts : ∀ w ∈ lw_G, w.before _ s = true := fun w hw => atoms_spec (ws := Jvm.Cond.code yJ3_checkIndex_8e157 cJ3_checkIndex_8e157 3 (some .int) :: lw_G) B.pre w (List.mem_cons_of_mem _ hw)
  have hown : s.vm.findClass RJ3 = some m.cls := findClass_of_methodNamed B.named
  have hlocks := B.notSynchronized
  subst hsz
  have hl := lv_entry [Value.int x, Value.int y, v] (n := 3) (by have h1 : (Value.int x).category = 1 := rfl; have h2 : (Value.int y).category = 1 := rfl; simp [lg_sl, h1, h2, hv1])
  rw [lg_entry_eq]
  generalize (lg_sl [Value.int x, Value.int y, v] ++ List.replicate (3 - (lg_sl [Value.int x, Value.int y, v]).length) Slot.unset).toArray = ls at hl ⊢
  have hA : ∀ z, s.heap.size ≤ z → s.heap.size ≤ z := fun _ h => h
  have S0 : va_S (fun q => s.heap.size ≤ q) s.heap s.heap [] := va_S.rf
  have l0 : ls[0]? = some (.val (Value.int x)) := hl.2.2 (0, Value.int x) (by simp [lv_args, Value.category])
  have l1 : ls[1]? = some (.val (Value.int y)) := hl.2.2 (1, Value.int y) (by simp [lv_args, Value.category])
  refine lv_iload_n hx hb rx_d_pci_0 rfl l0 ?_
  refine lv_if_lt hx hb (tgt := 9) rx_d_pci_1 (by decide) (fun z => absurd z hx0) (fun _ => ?_)
  refine lv_iload_n hx hb rx_d_pci_4 rfl l0 ?_
  refine lv_iload_n hx hb rx_d_pci_5 rfl l1 ?_
  refine lv_icmp_lt hx hb (tgt := 16) rx_d_pci_6 (by decide) (fun _ => ?_) (fun z => absurd hxy z)
  refine lv_iload_n hx hb rx_d_pci_16 rfl l0 ?_
  exact W.iret hx hb hr (fun t ht hW => ⟨⟨_, (), rfl, rfl, trivial⟩, S0.F ht⟩) S0.2.2 rx_d_pci_17
theorem rx_z_shr (x : Int32) : x >>> ((0 : Int32) &&& 31) = x := by simp
theorem rx_z_len {l : Launch} {b : Nat → Nat} {i : Nat} (hi : i < 8) : ∀ sz, Met l yJ0_length_8abf5 (Jvm.Cond.code yJ0_length_8abf5 cJ0_length_8abf5 1 (some .int) :: lw_G) (rx_rm 1 40) (rx_Zp b [Value.ref (b (i + 1))] sz) (rx_Zi (Int32.ofNat (rx_sln.getD i 0)) sz) 0 0 (fun q => sz ≤ q) := by
  intro sz
  refine Met.ofW (cc := cJ0_length_8abf5) (maxL := 1) (ret := (some .int)) (by decide) rfl ?_
  intro p e s m args below meth c s₁ B hml hv
  obtain ⟨rfl, hsz, hZ⟩ := hv
  have hx := B.exec
  have hb := B.bytes
  have hr := B.returns
  have hts : ∀ w ∈ lw_G, w.before _ s = true := fun w hw => atoms_spec (ws := Jvm.Cond.code yJ0_length_8abf5 cJ0_length_8abf5 1 (some .int) :: lw_G) B.pre w (List.mem_cons_of_mem _ hw)
  have hown : s.vm.findClass RJ0 = some m.cls := findClass_of_methodNamed B.named
  have hlocks := B.notSynchronized
  subst hsz
  have hl := lv_entry [Value.ref (b (i + 1))] (n := 1) (by simp [lg_sl, Value.category])
  rw [lg_entry_eq]
  generalize (lg_sl [Value.ref (b (i + 1))] ++ List.replicate (1 - (lg_sl [Value.ref (b (i + 1))]).length) Slot.unset).toArray = ls at hl ⊢
  have hA : ∀ z, s.heap.size ≤ z → s.heap.size ≤ z := fun _ h => h
  have S0 : va_S (fun q => s.heap.size ≤ q) s.heap s.heap [] := va_S.rf
  have l0 : ls[0]? = some (.val (Value.ref (b (i + 1)))) := hl.2.2 (0, Value.ref (b (i + 1))) (by simp [lv_args, Value.category])
  have rc := vk_recv (i := i) hZ.1 hi S0
  refine lv_aload_n hx hb rx_d_len_0 rfl l0 ?_
  refine vk_getf hx hb (hZ.1.1 i hi).2.2.1 S0 hown (hts _ rx_w_f_val) (fun _ h => h) rx_d_len_1 ?_
  refine va_tlen hx hb (hZ.1.1 i hi).2.2.2 S0 rfl rx_d_len_4 ?_
  refine lv_aload_n hx hb rx_d_len_5 rfl l0 ?_
  refine rx_zV (As := []) (rest := [.int (Int32.ofNat (rx_sln.getD i 0))]) ⟨hx, hb, hml, hown, hts⟩ (rx_z_coder hi) rx_w_l_coder rx_w_i_coder rx_w_s_coder rx_w_n_0 rx_w_c_coder ⟨by decide, by decide, by show _ = some 0; decide +kernel⟩ ⟨by decide, by decide⟩ hZ S0 hA rc hl.1 (by simp [Value.category]) ⟨Nat.le_refl _, Nat.le_refl _⟩ rx_d_len_6 (fun H1 locs1 _ _ hS1 => ?_)
  refine lv_ishr hx hb rx_d_len_9 ?_
  exact W.iret hx hb hr (fun t ht hW => ⟨⟨_, (), rfl, rx_z_shr _, trivial⟩, hS1.F ht⟩) hS1.2.2 rx_d_len_10
theorem rx_z_ci {l : Launch} {b : Nat → Nat} {x y : Int32} (hx0 : ¬ x < 0) (hxy : x < y) : ∀ sz, Met l yJ0_checkIndex_df160 (Jvm.Cond.code yJ0_checkIndex_df160 cJ0_checkIndex_df160 2 none :: lw_G) (rx_rm 1 40) (rx_Zp b [Value.int x, Value.int y] sz) (rx_Zv sz) 0 0 (fun q => sz ≤ q) := by
  intro sz
  refine Met.ofW (cc := cJ0_checkIndex_df160) (maxL := 2) (ret := none) (by decide) rfl ?_
  intro p e s m args below meth c s₁ B hml hv
  obtain ⟨rfl, hsz, hZ⟩ := hv
  have hx := B.exec
  have hb := B.bytes
  have hr := B.returns
  have hts : ∀ w ∈ lw_G, w.before _ s = true := fun w hw => atoms_spec (ws := Jvm.Cond.code yJ0_checkIndex_df160 cJ0_checkIndex_df160 2 none :: lw_G) B.pre w (List.mem_cons_of_mem _ hw)
  have hown : s.vm.findClass RJ0 = some m.cls := findClass_of_methodNamed B.named
  have hlocks := B.notSynchronized
  subst hsz
  have hl := lv_entry [Value.int x, Value.int y] (n := 2) (by simp [lg_sl, Value.category])
  rw [lg_entry_eq]
  generalize (lg_sl [Value.int x, Value.int y] ++ List.replicate (2 - (lg_sl [Value.int x, Value.int y]).length) Slot.unset).toArray = ls at hl ⊢
  have hA : ∀ z, s.heap.size ≤ z → s.heap.size ≤ z := fun _ h => h
  have S0 : va_S (fun q => s.heap.size ≤ q) s.heap s.heap [] := va_S.rf
  have l0 : ls[0]? = some (.val (Value.int x)) := hl.2.2 (0, Value.int x) (by simp [lv_args, Value.category])
  have l1 : ls[1]? = some (.val (Value.int y)) := hl.2.2 (1, Value.int y) (by simp [lv_args, Value.category])
  refine lv_iload_n hx hb rx_d_ci_0 rfl l0 ?_
  refine lv_iload_n hx hb rx_d_ci_1 rfl l1 ?_
  have fin : ∀ v : Value, v.category = 1 → va_Z "jdk/internal/util/Preconditions" "SIOOBE_FORMATTER" "Ljava/util/function/BiFunction;" v (fun q => s.heap.size ≤ q) s s.heap → W p l e (headSpec (Jvm.Cond.code yJ0_checkIndex_df160 cJ0_checkIndex_df160 2 none :: lw_G) (rx_rm 1 40)).room s m [Value.int x, Value.int y].toArray below meth c s.heap [] 0 0 (MQ below (rx_Zv s.heap.size) [Value.int x, Value.int y].toArray s 0 0 (fun q => s.heap.size ≤ q)) (F0 m 2 ls [.int y, .int x]) := by
    intro v hv1 hv
    refine va_gets hx hb hv S0 hown (hts _ rx_w_f_fmt) (fun _ h => h) rx_d_ci_2 ?_
    refine rx_zS (As := [.int x, .int y, v]) (rest := []) ⟨hx, hb, hml, hown, hts⟩ (rx_z_pci hv1 hx0 hxy) rx_w_l_pci rx_w_t_pci rx_w_n_3 rx_w_c_pci ⟨by decide, by decide, by show _ = some 3; decide +kernel⟩ ⟨by decide, by decide⟩ hZ S0 hA hl.1 (by simp [Value.category]) ⟨Nat.le_refl _, Nat.le_refl _⟩ rx_d_ci_5 (fun H1 locs1 _ _ hS1 => ?_)
    refine lv_pop hx hb rx_d_ci_8 rfl ?_
    exact W.vret hx hb hr (fun t ht hW => ⟨⟨(), rfl, trivial, trivial⟩, hS1.F ht⟩) hS1.2.2 rx_d_ci_9
  rcases hZ.2.2.2 with hv | ⟨t, hv⟩
  · exact fin _ rfl hv
  · exact fin _ rfl hv
theorem rx_z_lca {l : Launch} {b : Nat → Nat} {i k : Nat} (hi : i < 8) (hk : k < rx_sln.getD i 0) : ∀ sz, Met l yJ1_charAt_3b067 (Jvm.Cond.code yJ1_charAt_3b067 cJ1_charAt_3b067 2 (some .char) :: lw_G) (rx_rm 2 80) (rx_Zp b [Value.ref (b (i + 9)), Value.int (Int32.ofNat k)] sz) (rx_Zi ((rx_sb32.getD i []).getD k 0) sz) 0 0 (fun q => sz ≤ q) := by
  intro sz
  refine Met.ofW (cc := cJ1_charAt_3b067) (maxL := 2) (ret := (some .char)) (by decide) rfl ?_
  intro p e s m args below meth c s₁ B hml hv
  obtain ⟨rfl, hsz, hZ⟩ := hv
  have hx := B.exec
  have hb := B.bytes
  have hr := B.returns
  have hts : ∀ w ∈ lw_G, w.before _ s = true := fun w hw => atoms_spec (ws := Jvm.Cond.code yJ1_charAt_3b067 cJ1_charAt_3b067 2 (some .char) :: lw_G) B.pre w (List.mem_cons_of_mem _ hw)
  have hown : s.vm.findClass RJ1 = some m.cls := findClass_of_methodNamed B.named
  have hlocks := B.notSynchronized
  subst hsz
  have hl := lv_entry [Value.ref (b (i + 9)), Value.int (Int32.ofNat k)] (n := 2) (by simp [lg_sl, Value.category])
  rw [lg_entry_eq]
  generalize (lg_sl [Value.ref (b (i + 9)), Value.int (Int32.ofNat k)] ++ List.replicate (2 - (lg_sl [Value.ref (b (i + 9)), Value.int (Int32.ofNat k)]).length) Slot.unset).toArray = ls at hl ⊢
  have hA : ∀ z, s.heap.size ≤ z → s.heap.size ≤ z := fun _ h => h
  have S0 : va_S (fun q => s.heap.size ≤ q) s.heap s.heap [] := va_S.rf
  have l0 : ls[0]? = some (.val (Value.ref (b (i + 9)))) := hl.2.2 (0, Value.ref (b (i + 9))) (by simp [lv_args, Value.category])
  have l1 : ls[1]? = some (.val (Value.int (Int32.ofNat k))) := hl.2.2 (1, Value.int (Int32.ofNat k)) (by simp [lv_args, Value.category])
  obtain ⟨n1, n2, n3⟩ := rx_z_num _ (rx_z_lt9 i hi) k hk
  refine lv_iload_n hx hb rx_d_lca_0 rfl l1 ?_
  refine lv_aload_n hx hb rx_d_lca_1 rfl l0 ?_
  refine va_tlen hx hb (hZ.1.1 i hi).2.2.2 S0 rfl rx_d_lca_2 ?_
  refine rx_zN (As := [.int (Int32.ofNat k), .int (Int32.ofNat (rx_sln.getD i 0))]) (rest := []) ⟨hx, hb, hml, hown, hts⟩ (rx_z_ci n1 n2) rx_w_l_ci rx_w_t_ci rx_w_n_0 rx_w_c_ci ⟨by decide, by decide, by show _ = some 2; decide +kernel⟩ ⟨by decide, by decide⟩ hZ S0 hA hl.1 (by simp [Value.category]) ⟨Nat.le_refl _, Nat.le_refl _⟩ rx_d_lca_3 (fun H1 locs1 _ _ hS1 => ?_)
  refine lv_aload_n hx hb rx_d_lca_6 rfl l0 ?_
  refine lv_iload_n hx hb rx_d_lca_7 rfl l1 ?_
  refine va_tb hx hb (hZ.1.1 i hi).2.2.2 hS1 (v := .int ((rx_sb32.getD i []).getD k 0)) (fun z => by rcases z with z | z; exact n1 z; omega) (by rw [n3]) rx_d_lca_8 ?_
  refine lv_sipush hx hb (v := 255) rx_d_lca_9 (by decide) ?_
  refine lv_iand hx hb rx_d_lca_12 ?_
  refine lv_i2c hx hb rx_d_lca_13 (rx_z_byte i hi k hk).1 ?_
  exact W.zret hx hb hr (congrArg Value.int (rx_z_byte i hi k hk).2) (fun t ht hW => ⟨⟨_, (), rfl, rfl, trivial⟩, hS1.F ht⟩) hS1.2.2 rx_d_lca_14
theorem rx_z_ca {l : Launch} {b : Nat → Nat} {i k : Nat} (hi : i < 8) (hk : k < rx_sln.getD i 0) : ∀ sz, Met l yJ0_charAt_5068e (Jvm.Cond.code yJ0_charAt_5068e cJ0_charAt_5068e 2 (some .char) :: lw_G) (rx_rm 3 120) (rx_Zp b [Value.ref (b (i + 1)), Value.int (Int32.ofNat k)] sz) (rx_Zi ((rx_sb32.getD i []).getD k 0) sz) 0 0 (fun q => sz ≤ q) := by
  intro sz
  refine Met.ofW (cc := cJ0_charAt_5068e) (maxL := 2) (ret := (some .char)) (by decide) rfl ?_
  intro p e s m args below meth c s₁ B hml hv
  obtain ⟨rfl, hsz, hZ⟩ := hv
  have hx := B.exec
  have hb := B.bytes
  have hr := B.returns
  have hts : ∀ w ∈ lw_G, w.before _ s = true := fun w hw => atoms_spec (ws := Jvm.Cond.code yJ0_charAt_5068e cJ0_charAt_5068e 2 (some .char) :: lw_G) B.pre w (List.mem_cons_of_mem _ hw)
  have hown : s.vm.findClass RJ0 = some m.cls := findClass_of_methodNamed B.named
  have hlocks := B.notSynchronized
  subst hsz
  have hl := lv_entry [Value.ref (b (i + 1)), Value.int (Int32.ofNat k)] (n := 2) (by simp [lg_sl, Value.category])
  rw [lg_entry_eq]
  generalize (lg_sl [Value.ref (b (i + 1)), Value.int (Int32.ofNat k)] ++ List.replicate (2 - (lg_sl [Value.ref (b (i + 1)), Value.int (Int32.ofNat k)]).length) Slot.unset).toArray = ls at hl ⊢
  have hA : ∀ z, s.heap.size ≤ z → s.heap.size ≤ z := fun _ h => h
  have S0 : va_S (fun q => s.heap.size ≤ q) s.heap s.heap [] := va_S.rf
  have l0 : ls[0]? = some (.val (Value.ref (b (i + 1)))) := hl.2.2 (0, Value.ref (b (i + 1))) (by simp [lv_args, Value.category])
  have l1 : ls[1]? = some (.val (Value.int (Int32.ofNat k))) := hl.2.2 (1, Value.int (Int32.ofNat k)) (by simp [lv_args, Value.category])
  have rc := vk_recv (i := i) hZ.1 hi S0
  refine lv_aload_n hx hb rx_d_ca_0 rfl l0 ?_
  refine rx_zV (As := []) (rest := []) ⟨hx, hb, hml, hown, hts⟩ (rx_z_lat hi) rx_w_l_lat rx_w_i_lat rx_w_s_lat rx_w_n_0 rx_w_c_lat ⟨by decide, by decide, by show _ = some 0; decide +kernel⟩ ⟨by decide, by decide⟩ hZ S0 hA rc hl.1 (by simp [Value.category]) ⟨Nat.le_refl _, Nat.le_refl _⟩ rx_d_ca_1 (fun H1 locs1 _ _ hS1 => ?_)
  refine lv_if_eq hx hb (tgt := 16) rx_d_ca_4 (by decide) (fun z => absurd z (by decide)) (fun _ => ?_)
  refine lv_aload_n hx hb rx_d_ca_7 rfl l0 ?_
  refine vk_getf hx hb (hZ.1.1 i hi).2.2.1 hS1 hown (hts _ rx_w_f_val) (fun _ h => h) rx_d_ca_8 ?_
  refine lv_iload_n hx hb rx_d_ca_11 rfl l1 ?_
  refine rx_zS (As := [.ref (b (i + 9)), .int (Int32.ofNat k)]) (rest := []) ⟨hx, hb, hml, hown, hts⟩ (rx_z_lca hi hk) rx_w_l_lca rx_w_t_lca rx_w_n_1 rx_w_c_lca ⟨by decide, by decide, by show _ = some 2; decide +kernel⟩ ⟨by decide, by decide⟩ hZ hS1 hA hl.1 (by simp [Value.category]) ⟨Nat.le_refl _, Nat.le_refl _⟩ rx_d_ca_12 (fun H2 locs2 _ _ hS2 => ?_)
  exact W.zret hx hb hr (congrArg Value.int (rx_z_byte i hi k hk).2) (fun t ht hW => ⟨⟨_, (), rfl, rfl, trivial⟩, hS2.F ht⟩) hS2.2.2 rx_d_ca_15
end
section
noncomputable def rx_rkt (rk : Nat) (rt : Option FieldType) : Prop := (rk = 0 ∧ rt = none) ∨ (rk = 1 ∧ rt = some .int) ∨ (rk = 2 ∧ rt = some .boolean) ∨ (rk = 3 ∧ rt = some .long) ∨ (rk = 4 ∧ ∃ n, rt = some (.object n))
/-- what must hold of a method that is called -/
noncomputable def rx_QW (q : rx_M) : Prop := plainName (rx_y q).cls = true ∧ Jvm.Cond.code (rx_y q) (rx_b q) (rx_mL (rx_n q)) (rx_rt q) ∈ lw_G ∧ Jvm.Cond.initialized (rx_y q).cls ∈ lw_G ∧ (rx_y q).cls ≠ "java/lang/invoke/MethodHandle" ∧ (rx_y q).cls ≠ "java/lang/invoke/VarHandle" ∧ (parseMethodDescriptor (rx_y q).desc).map (fun d => d.parameters.length) = some (rx_np (rx_n q)) ∧ rx_sl (rx_n q) = 0 ∧ rx_rkt (rx_rk (rx_n q)) (rx_rt q)
/-- and of a place where one is called -/
noncomputable def rx_site (P : List rx_M) (own : String) (na nb : Nat) (ins : Instr) : Prop := match ins with
  | .invokevirtual i => (nb = 13 ∧ Jvm.Cond.methodLink own i yJ0_length_8abf5 ∈ lw_G) ∨ (nb = 17 ∧ Jvm.Cond.methodLink own i yJ0_charAt_5068e ∈ lw_G) ∨ (nb ≠ 1 ∧ nb ≠ 2 ∧ nb % 4 ≠ 1 ∧ ∃ q, rx_nth P na = some q ∧ Jvm.Cond.methodLink own i (rx_y q) ∈ lw_G ∧ Jvm.Cond.instanceMethod (rx_y q) ∈ lw_G ∧ Jvm.Cond.selects (rx_y q).cls (rx_y q) (rx_y q) ∈ lw_G ∧ (∃ T N, vwCl[nb / 4]? = some ((rx_y q).cls, T, N)) ∧ nb / 4 < 12)
  | .invokespecial i => (nb = 1 ∧ Jvm.Cond.methodLink own i objectInit ∈ lw_G ∧ Jvm.Cond.instanceMethod objectInit ∈ lw_G ∧ Jvm.Cond.code objectInit ⟨#[0xb1]⟩ 1 none ∈ lw_G) ∨ (nb ≠ 1 ∧ nb ≠ 2 ∧ nb % 4 ≠ 1 ∧ ∃ q, rx_nth P na = some q ∧ (rx_y q).name = "<init>" ∧ rx_rt q = none ∧ Jvm.Cond.instanceMethod (rx_y q) ∈ lw_G ∧ (Jvm.Cond.methodLink own i (rx_y q) ∈ lw_G ∨ ∃ host, Jvm.Cond.methodLinkNest own i (rx_y q) host ∈ lw_nest))
  | .invokestatic i => (nb = 2 ∧ Jvm.Cond.methodLink own i arraycopyName ∈ lw_G ∧ Jvm.Cond.native arraycopyName ∈ lw_G ∧ Jvm.Cond.static arraycopyName ∈ lw_G ∧ Jvm.Cond.initialized "java/lang/System" ∈ lw_G) ∨ (nb ≠ 1 ∧ nb ≠ 2 ∧ nb % 4 ≠ 1 ∧ ∃ q, rx_nth P na = some q ∧ Jvm.Cond.methodLink own i (rx_y q) ∈ lw_G ∧ Jvm.Cond.static (rx_y q) ∈ lw_G) ∨
    (nb = 5 ∧ Jvm.Cond.methodLink own i Lib.Math.max.name ∈ lw_G ∧ Jvm.Cond.static Lib.Math.max.name ∈ lw_G ∧ Jvm.Cond.initialized "java/lang/Math" ∈ lw_G ∧ Jvm.Cond.code Lib.Math.max.name Lib.Math.max.code 2 (some .int) ∈ lw_G) ∨
    (nb = 9 ∧ Jvm.Cond.methodLink own i Lib.Math.min.name ∈ lw_G ∧ Jvm.Cond.static Lib.Math.min.name ∈ lw_G ∧ Jvm.Cond.initialized "java/lang/Math" ∈ lw_G ∧ Jvm.Cond.code Lib.Math.min.name Lib.Math.min.code 2 (some .int) ∈ lw_G)
  | _ => True
noncomputable def rx_OK (P : List rx_M) (K : rx_K) (r : rx_M) (x : rx_E) : Prop := rx_dec (rx_b r) x.1 x.2.2.2.1 ∧ x.2.1 = rx_kd x.2.2.2.1 ∧ (x.2.1 = 0 → x.2.2.1 = rx_sem x.2.2.2.1) ∧ rx_wd K (rx_y r).cls (rx_y r).name x.1 x.2.2.2.2.2.1 x.2.2.2.2.2.2.1 x.2.2.2.1 ∧ rx_site P (rx_y r).cls x.2.2.2.2.2.1 x.2.2.2.2.2.2.1 x.2.2.2.1
noncomputable def rx_ST (P : List rx_M) (K : rx_K) (r : rx_M) : Prop := ∀ ch ∈ rx_cd r, ∀ x ∈ ch, rx_OK P K r x
theorem rx_find_ok {pc : Nat} : ∀ {ch : List rx_E} {x : rx_E}, rx_find pc ch = some x → x ∈ ch ∧ x.1 = pc
  | [], x, h => by cases h
  | y :: ch, x, h => by
    replace h : (bif Nat.beq y.1 pc then some y else rx_find pc ch) = some x := h
    cases hb : Nat.beq y.1 pc with
    | true =>
      rw [hb, cond_true] at h
      cases h
      exact ⟨List.mem_cons_self, rx_beq.mp hb⟩
    | false =>
      rw [hb, cond_false] at h
      obtain ⟨h1, h2⟩ := rx_find_ok h
      exact ⟨List.mem_cons_of_mem _ h1, h2⟩
theorem rx_look_ok {cd : List (List rx_E)} {pc : Nat} {x : rx_E} (h : rx_look cd pc = some x) : (∃ ch ∈ cd, x ∈ ch) ∧ x.1 = pc := by
  unfold rx_look at h
  rw [rx_nth_eq] at h
  cases e : cd[Nat.div pc 16]? with
  | none => rw [e] at h; cases h
  | some ch =>
    rw [e] at h
    obtain ⟨h1, h2⟩ := rx_find_ok h
    exact ⟨⟨ch, List.mem_of_getElem? e, h1⟩, h2⟩
theorem rx_all_ok {α β : Type} {f : α → Option (List β)} {l : List α} {outs : List β} (h : rx_all f l = some outs) : ∀ x ∈ l, ∃ o, f x = some o ∧ ∀ y ∈ o, y ∈ outs := by
  have gen : ∀ (l : List α) (outs : List β), l.foldr (fun x acc => match f x with
    | some a => (match acc with
      | some b => some (a ++ b)
      | none => none)
    | none => none) (some []) = some outs → ∀ x ∈ l, ∃ o, f x = some o ∧ ∀ y ∈ o, y ∈ outs := by
    intro l
    induction l with
    | nil => intro outs _ x hx; cases hx
    | cons z l ih =>
      intro outs h x hx
      rw [List.foldr_cons] at h
      cases hz : f z with
      | none => rw [hz] at h; cases h
      | some a =>
        rw [hz] at h
        dsimp only at h
        cases hb : l.foldr (fun x acc => match f x with
          | some a => (match acc with
            | some b => some (a ++ b)
            | none => none)
          | none => none) (some []) with
        | none => rw [hb] at h; cases h
        | some b =>
          rw [hb] at h
          cases h
          rcases List.mem_cons.mp hx with rfl | hx
          · exact ⟨a, hz, fun y hy => List.mem_append_left _ hy⟩
          · obtain ⟨o, h1, h2⟩ := ih b hb x hx
            exact ⟨o, h1, fun y hy => List.mem_append_right _ (h2 y hy)⟩
  match l, h with
  | [], h => intro x hx; cases hx
  | [z], h =>
    intro x hx
    rcases List.mem_cons.mp hx with rfl | hx
    · exact ⟨outs, h, fun _ hy => hy⟩
    · cases hx
  | z :: w :: l, h => exact gen (z :: w :: l) outs h
/-- the locals of a method that begins -/
theorem rx_args_ok {b : Nat → Nat} {ad : List Nat} {en : List Int32} : ∀ {as : List Nat} {asA : List Value} {n off : Nat}, as.map (rx_cv b ad en) = asA.map some → rx_cat as ≤ n → (rx_args as n).length = n ∧ ∀ i v : Nat, (rx_args as n)[i]? = some v → v ≠ 2 → ∃ x, rx_cv b ad en v = some x ∧ (off + i, x) ∈ lv_args off asA
  | [], asA, n, off, h, hc => by
    refine ⟨by show (List.replicate n 2).length = n; simp, fun i v hv h2 => ?_⟩
    replace hv : (List.replicate n 2)[i]? = some v := hv
    rw [List.getElem?_replicate] at hv
    by_cases hi : i < n
    · rw [if_pos hi] at hv; cases hv; exact absurd rfl h2
    · rw [if_neg hi] at hv; cases hv
  | w :: as, asA, n, off, h, hc => by
    obtain ⟨y, asB, rfl, hy, hB⟩ := rx_st_cons h
    have hcat := rx_cat_cv hy
    replace hc : (bif rx_isJ w then Nat.add (rx_cat as) 2 else Nat.succ (rx_cat as)) ≤ n := hc
    cases hj : rx_isJ w with
    | true =>
      rw [hj, cond_true] at hc
      replace hc : rx_cat as + 2 ≤ n := hc
      rw [hj] at hcat
      have ih := rx_args_ok (as := as) (n := n - 2) (off := off + 2) hB (by omega)
      have e : rx_args (w :: as) n = w :: 2 :: rx_args as (n - 2) := by show (bif rx_isJ w then w :: 2 :: rx_args as (n - 2) else w :: rx_args as (n - 1)) = _; rw [hj]; rfl
      rw [e]
      refine ⟨by simp only [List.length_cons, ih.1]; omega, fun i v hv h2 => ?_⟩
      have eA : lv_args off (y :: asB) = (off, y) :: lv_args (off + 2) asB := by simp [lv_args, hcat]
      rw [eA]
      match i, hv with
      | 0, hv => cases hv; exact ⟨y, hy, List.mem_cons_self⟩
      | 1, hv => cases hv; exact absurd rfl h2
      | i + 2, hv =>
        obtain ⟨x, h3, h4⟩ := ih.2 i v (by simpa using hv) h2
        exact ⟨x, h3, List.mem_cons_of_mem _ (by rw [show off + (i + 2) = off + 2 + i by omega]; exact h4)⟩
    | false =>
      rw [hj, cond_false] at hc
      replace hc : rx_cat as + 1 ≤ n := hc
      rw [hj] at hcat
      have ih := rx_args_ok (as := as) (n := n - 1) (off := off + 1) hB (by omega)
      have e : rx_args (w :: as) n = w :: rx_args as (n - 1) := by show (bif rx_isJ w then w :: 2 :: rx_args as (n - 2) else w :: rx_args as (n - 1)) = _; rw [hj]; rfl
      rw [e]
      refine ⟨by simp only [List.length_cons, ih.1]; omega, fun i v hv h2 => ?_⟩
      have eA : lv_args off (y :: asB) = (off, y) :: lv_args (off + 1) asB := by simp [lv_args, hcat]
      rw [eA]
      match i, hv with
      | 0, hv => cases hv; exact ⟨y, hy, List.mem_cons_self⟩
      | i + 1, hv =>
        obtain ⟨x, h3, h4⟩ := ih.2 i v (by simpa using hv) h2
        exact ⟨x, h3, List.mem_cons_of_mem _ (by rw [show off + (i + 1) = off + 1 + i by omega]; exact h4)⟩
theorem rx_lg_sl {b : Nat → Nat} {ad : List Nat} {en : List Int32} : ∀ {as : List Nat} {asA : List Value}, as.map (rx_cv b ad en) = asA.map some → (lg_sl asA).length = rx_cat as
  | [], [], _ => rfl
  | [], _ :: _, h => by cases h
  | _ :: _, [], h => by cases h
  | v :: as, x :: asA, h => by
    obtain ⟨x', r', e, hx, h⟩ := rx_st_cons h
    cases e
    have ih := rx_lg_sl h
    have hc := rx_cat_cv hx
    show (lg_sl (x :: asA)).length = (bif rx_isJ v then Nat.add (rx_cat as) 2 else Nat.succ (rx_cat as))
    have e2 : (lg_sl (x :: asA)).length = (if x.category = 2 then 2 else 1) + (lg_sl asA).length := by
      unfold lg_sl
      rw [List.flatMap_cons, List.length_append]
      by_cases h2 : x.category = 2 <;> simp [h2]
    rw [e2, ih]
    cases hj : rx_isJ v with
    | true => rw [hj] at hc; rw [if_pos (by rw [hc]; rfl)]; show 2 + rx_cat as = rx_cat as + 2; omega
    | false => rw [hj] at hc; rw [if_neg (by rw [hc]; decide)]; show 1 + rx_cat as = rx_cat as + 1; omega
end
section
/-- a return of the interpreter, and what the machine does there -/
noncomputable def rx_Ret (p : Program) (l : Launch) (e : Env) (R : Room) (s : State) (m : MethodId) (args : Array Value) (below : List Frame) (meth : Method) (c : Code) (Q : State → Prop) (cy : Nat → ClassId) (D : va_G) (b : Nat → Nat) (A : Nat → Prop) (H0 : Heap) (ad0 : List Nat) (en0 : List Int32) (r : rx_M) (o : rx_O) : Prop :=
  ∀ (ad : List Nat) (en : List Int32) (ls : Array Slot) (stA : List Value) (H : Heap) (locs : List Loc) (ws : va_W) (cn sn pc : Nat),
    ((rx_rk (rx_n r) = 0 ∧ decode (rx_b r) pc = .ok (.return_, 1) ∧ stA = []) ∨ ((rx_rk (rx_n r) = 1 ∨ rx_rk (rx_n r) = 2) ∧ decode (rx_b r) pc = .ok (.ireturn, 1) ∧ ∃ x : Int32, stA = [.int x] ∧ rx_cv b ad en o.1 = some (.int x) ∧ (rx_rk (rx_n r) = 2 → x = 0 ∨ x = 1)) ∨ (rx_rk (rx_n r) = 3 ∧ decode (rx_b r) pc = .ok (.lreturn, 1) ∧ ∃ x : Int64, stA = [.long x] ∧ rx_cv b ad en o.1 = some (.long x)) ∨ (rx_rk (rx_n r) = 4 ∧ decode (rx_b r) pc = .ok (.areturn, 1) ∧ ∃ x : Value, stA = [x] ∧ (x = .null ∨ ∃ a, x = .ref a) ∧ rx_cv b ad en o.1 = some x)) →
    ad0 <+: ad → en0 <+: en → rx_RW cy b ad en o.2.1 ws → va_P D vwCl ws H → va_D A ws → va_S A H0 H locs → rx_RI o.2.2 en → cn ≤ rx_rc (rx_n r) → sn ≤ rx_rs (rx_n r) → W p l e R s m args below meth c H locs cn sn Q (F0 m pc ls stA)
/-- from a state of a method on: the machine comes to one of these ends -/
noncomputable def rx_At (l : Launch) (cy : Nat → ClassId) (D : va_G) (r : rx_M) (σ : rx_S) (outs : List rx_O) : Prop :=
  ∀ (p : Program) (e : Env) (R : Room) (s : State) (m : MethodId) (args : Array Value) (below : List Frame) (meth : Method) (c : Code) (Q : State → Prop) (b : Nat → Nat) (A : Nat → Prop) (H0 : Heap) (ad0 : List Nat) (en0 : List Int32),
    rx_Cx cy D r p R s m args meth c → rx_Sc (rx_n r) b A H0 en0 s → (∀ q, H0.size ≤ q → A q) → (∀ o ∈ outs, rx_Ret p l e R s m args below meth c Q cy D b A H0 ad0 en0 r o) → rx_G p l e R s m args below meth c Q cy D b A H0 ad0 en0 (rx_mL (rx_n r)) σ
/-- what a way of running methods must keep -/
noncomputable def rx_SndG (P : List rx_M) (K : rx_K) (l : Launch) (cy : Nat → ClassId) (D : va_G) (g : rx_M → rx_S → Option (List rx_O)) : Prop :=
  ∀ (r : rx_M), rx_ST P K r → rx_rkt (rx_rk (rx_n r)) (rx_rt r) → ∀ (σ : rx_S) (outs : List rx_O), g r σ = some outs → rx_At l cy D r σ outs
/-- the interpreter's run of n steps says what the machine does -/
noncomputable def rx_Snd (P : List rx_M) (K : rx_K) (l : Launch) (cy : Nat → ClassId) (D : va_G) (n : Nat) : Prop := rx_SndG P K l cy D (rx_run P K n)
set_option maxHeartbeats 1000000 in
/-- a method's contract -/
theorem rx_met {l : Launch} {cy : Nat → ClassId} {D : va_G} {q : rx_M} (hQ : rx_QW q) {as : List Nat} {hp : rx_H} {iv : rx_I} {outs : List rx_O} (hat : rx_At l cy D q (0, rx_args as (rx_mL (rx_n q)), [], hp, iv, 0, 0) outs)
    {b : Nat → Nat} {ad : List Nat} {en : List Int32} {asA : List Value} {ws : va_W} (sz : Nat) (has : as.map (rx_cv b ad en) = asA.map some) (hcat : rx_cat as ≤ rx_mL (rx_n q)) (hRW : rx_RW cy b ad en hp ws) (hRI : rx_RI iv en) :
    Met l (rx_y q) (rx_ws q) (rx_room q) (rx_Pc cy D b asA ws sz) (rx_Qc cy D b ad en (va_A ws sz) (rx_rk (rx_n q)) outs) (rx_rc (rx_n q)) (rx_rs (rx_n q)) (va_A ws sz) := by
  obtain ⟨w1, w2, w3, w4, w5, w6, w7, w8⟩ := hQ
  refine Met.ofW (cc := rx_b q) (maxL := rx_mL (rx_n q)) (ret := rx_rt q) w1 rfl ?_
  intro p e s m args below meth c s₁ B hml hv
  obtain ⟨rfl, hsz, hPw, hK, hD0, hN, hAO, hZt⟩ := hv
  have hx := B.exec
  have hb := B.bytes
  have hr := B.returns
  have hts := atoms_spec (ws := rx_ws q) B.pre
  have hown : s.vm.findClass (rx_y q).cls = some m.cls := findClass_of_methodNamed B.named
  have hlocks := B.notSynchronized
  have hin : meth.name = (rx_y q).name := (name_of_methodNamed B.named B.method).1
  subst hsz
  have hD := hD0.self (sz := s.heap.size)
  have hA : ∀ z : Nat, s.heap.size ≤ z → va_A ws s.heap.size z := fun z h => Or.inr h
  have C : rx_Cx cy D q p (headSpec (rx_ws q) (rx_room q)).room s m asA.toArray meth c := ⟨hx, hb, hr, hml, hown, fun w hw => hts w (List.mem_cons_of_mem _ hw), hlocks, (fun z => hin.trans z), hK, hN, hAO, Nat.le_refl _, Nat.le_refl _, Nat.le_refl _, Nat.le_refl _⟩
  have hSc : rx_Sc (rx_n q) b (va_A ws s.heap.size) s.heap en s := ⟨fun L hL => (by rw [w7] at hL; cases hL), rfl, hZt⟩
  have hl := lv_entry asA (n := rx_mL (rx_n q)) (by rw [rx_lg_sl has]; exact hcat)
  rw [lg_entry_eq]
  generalize (lg_sl asA ++ List.replicate (rx_mL (rx_n q) - (lg_sl asA).length) Slot.unset).toArray = ls at hl ⊢
  obtain ⟨ha1, ha2⟩ := rx_args_ok (n := rx_mL (rx_n q)) (off := 0) has hcat
  have hRL : rx_RL b ad en (rx_mL (rx_n q)) (rx_args as (rx_mL (rx_n q))) ls := ⟨ha1, hl.1, hl.2.1, fun i v hv h2 => by
    obtain ⟨x, h3, h4⟩ := ha2 i v hv h2
    exact ⟨x, h3, by have := hl.2.2 _ h4; rwa [Nat.zero_add] at this⟩⟩
  have G := hat p e (headSpec (rx_ws q) (rx_room q)).room s m asA.toArray below meth c (MQ below (rx_Qc cy D b ad en (va_A ws s.heap.size) (rx_rk (rx_n q)) outs) asA.toArray s (rx_rc (rx_n q)) (rx_rs (rx_n q)) (va_A ws s.heap.size)) b (va_A ws s.heap.size) s.heap ad en C hSc hA ?_
  · exact G ad en ls [] s.heap [] ws ⟨List.prefix_refl _, List.prefix_refl _, hRW, hPw, hD, va_S.rf, hRL, rfl, hRI⟩
  · intro o ho ad' en' ls' stA H locs ws' cn sn pc hk a1 a2 a3 a4 a5 a6 a7 a8 a9
    refine W.widen a8 a9 ?_
    rcases hk with ⟨k1, k2, rfl⟩ | ⟨k1, k2, x, rfl, hxo, kz⟩ | ⟨k1, k2, x, rfl, hxo⟩ | ⟨k1, k2, x, rfl, hxr, hxo⟩
    · have hr0 : meth.sig.returnType = none := by
        rcases w8 with ⟨-, z⟩ | ⟨z, -⟩ | ⟨z, -⟩ | ⟨z, -⟩ | ⟨z, -⟩
        · exact hr.trans z
        · omega
        · omega
        · omega
        · omega
      exact W.vret hx hb hr0 (fun t ht hW => ⟨⟨o, ho, none, rfl, ad', en', ws', a1, a2, Or.inl ⟨k1, rfl⟩, a3, by rw [ht]; exact a4, a5, a7⟩, a6.F ht⟩) a6.2.2 k2
    · rcases k1 with k1 | k1
      · have hr0 : meth.sig.returnType = some .int := by
          rcases w8 with ⟨z, -⟩ | ⟨-, z⟩ | ⟨z, -⟩ | ⟨z, -⟩ | ⟨z, -⟩
          · omega
          · exact hr.trans z
          · omega
          · omega
          · omega
        exact W.iret hx hb hr0 (fun t ht hW => ⟨⟨o, ho, some (.int x), rfl, ad', en', ws', a1, a2, Or.inr ⟨by omega, _, hxo, rfl⟩, a3, by rw [ht]; exact a4, a5, a7⟩, a6.F ht⟩) a6.2.2 k2
      · have hr0 : meth.sig.returnType = some .boolean := by
          rcases w8 with ⟨z, -⟩ | ⟨z, -⟩ | ⟨-, z⟩ | ⟨z, -⟩ | ⟨z, -⟩
          · omega
          · omega
          · exact hr.trans z
          · omega
          · omega
        have hnar : narrow .boolean (.int x) = .int x := by
          rcases kz k1 with rfl | rfl
          · rfl
          · rfl
        exact W.zret hx hb hr0 hnar (fun t ht hW => ⟨⟨o, ho, some (.int x), rfl, ad', en', ws', a1, a2, Or.inr ⟨by omega, _, hxo, rfl⟩, a3, by rw [ht]; exact a4, a5, a7⟩, a6.F ht⟩) a6.2.2 k2
    · have hr0 : meth.sig.returnType = some .long := by
        rcases w8 with ⟨z, -⟩ | ⟨z, -⟩ | ⟨z, -⟩ | ⟨-, z⟩ | ⟨z, -⟩
        · omega
        · omega
        · omega
        · exact hr.trans z
        · omega
      exact W.lret hx hb hr0 (fun t ht hW => ⟨⟨o, ho, some (.long x), rfl, ad', en', ws', a1, a2, Or.inr ⟨by omega, _, hxo, rfl⟩, a3, by rw [ht]; exact a4, a5, a7⟩, a6.F ht⟩) a6.2.2 k2
    · have hr0 : ∃ n, meth.sig.returnType = some (.object n) := by
        rcases w8 with ⟨z, -⟩ | ⟨z, -⟩ | ⟨z, -⟩ | ⟨z, -⟩ | ⟨-, n, z⟩
        · omega
        · omega
        · omega
        · omega
        · exact ⟨n, hr.trans z⟩
      obtain ⟨n, hr0⟩ := hr0
      exact W.aret hx hb hr0 (Or.inl ⟨n, rfl⟩) hxr (fun t ht hW => ⟨⟨o, ho, some x, rfl, ad', en', ws', a1, a2, Or.inr ⟨by omega, _, hxo, rfl⟩, a3, by rw [ht]; exact a4, a5, a7⟩, a6.F ht⟩) a6.2.2 k2
end
section
theorem rx_kd_or (ins : Instr) : rx_kd ins = 0 ∨ ins = .ireturn ∨ ins = .lreturn ∨ ins = .areturn ∨ ins = .return_ ∨ (∃ i, ins = .invokevirtual i) ∨ (∃ i, ins = .invokespecial i) ∨ ∃ i, ins = .invokestatic i := by
  cases ins <;> first | exact Or.inl rfl | exact Or.inr (Or.inl rfl) | exact Or.inr (Or.inr (Or.inl rfl)) | exact Or.inr (Or.inr (Or.inr (Or.inl rfl))) | exact Or.inr (Or.inr (Or.inr (Or.inr (Or.inl rfl)))) | exact Or.inr (Or.inr (Or.inr (Or.inr (Or.inr (Or.inl ⟨_, rfl⟩))))) | exact Or.inr (Or.inr (Or.inr (Or.inr (Or.inr (Or.inr (Or.inl ⟨_, rfl⟩)))))) | exact Or.inr (Or.inr (Or.inr (Or.inr (Or.inr (Or.inr (Or.inr ⟨_, rfl⟩))))))
theorem rx_spl_ok : ∀ (n : Nat) (st acc as rest : List Nat), rx_spl n st acc = some (as, rest) → ∃ pre, st = pre ++ rest ∧ pre.length = n ∧ as = pre.reverse ++ acc
  | 0, st, acc, as, rest, h => by
    replace h : some (acc, st) = some (as, rest) := h
    cases h
    exact ⟨[], rfl, rfl, rfl⟩
  | n + 1, [], acc, as, rest, h => by cases h
  | n + 1, v :: st, acc, as, rest, h => by
    replace h : rx_spl n st (v :: acc) = some (as, rest) := h
    obtain ⟨pre, h1, h2, h3⟩ := rx_spl_ok n st (v :: acc) as rest h
    exact ⟨v :: pre, by rw [h1]; rfl, by simp [h2], by rw [h3]; simp⟩
theorem rx_split {b : Nat → Nat} {ad : List Nat} {en : List Int32} {as rest : List Nat} {stA : List Value} (h : (as.reverse ++ rest).map (rx_cv b ad en) = stA.map some) : ∃ asA restA : List Value, stA = asA.reverse ++ restA ∧ as.map (rx_cv b ad en) = asA.map some ∧ rest.map (rx_cv b ad en) = restA.map some := by
  rw [List.map_append] at h
  obtain ⟨x, y, h1, h2, h3⟩ := List.map_eq_append_iff.mp h.symm
  refine ⟨x.reverse, y, by rw [List.reverse_reverse]; exact h1, ?_, h3.symm⟩
  have : (as.reverse.map (rx_cv b ad en)).reverse = (x.map some).reverse := by rw [h2]
  simpa [List.map_reverse] using this
section RXD
variable {p : Program} {l : Launch} {e : Env} {R : Room} {s : State} {m : MethodId} {args : Array Value} {below : List Frame} {meth : Method} {c : Code} {Q : State → Prop}
variable {cy : Nat → ClassId} {D : va_G} {b : Nat → Nat} {A : Nat → Prop} {H0 : Heap} {ad0 : List Nat} {en0 : List Int32} {nL : Nat}
variable {P : List rx_M} {K : rx_K} {pc na nb cn sn : Nat} {g : rx_M → rx_S → Option (List rx_O)} {lv : rx_L} {st : List Nat} {hp : rx_H} {iv : rx_I} {r q : rx_M} {β : Type} {f : rx_M → rx_S → Option (List β)} {outs : List β}
theorem rx_s_inv1 {i : Nat} (C : rx_Cx cy D r p R s m args meth c) (hN : nL = rx_mL (rx_n r)) (hd : decode (rx_b r) pc = .ok (.invokespecial i, 3)) (w1 : Jvm.Cond.methodLink (rx_y r).cls i objectInit ∈ lw_G) (w2 : Jvm.Cond.instanceMethod objectInit ∈ lw_G) (w3 : Jvm.Cond.code objectInit ⟨#[0xb1]⟩ 1 none ∈ lw_G)
    (h : rx_inv1 f r pc lv st hp iv cn sn = some outs) (hG : ∀ σ, f r σ = some outs → rx_G p l e R s m args below meth c Q cy D b A H0 ad0 en0 nL σ) : rx_G p l e R s m args below meth c Q cy D b A H0 ad0 en0 nL (pc, lv, st, hp, iv, cn, sn) := by
  obtain ⟨hx, hb, hr, hml, hown, hts, hlocks, hmn, hK, hNest, hAO, hR1, hR2, hR3, hR4⟩ := C
  match st, h with
  | [], h => cases h
  | v :: st', h =>
    obtain ⟨hc, h⟩ := rx_cond h
    obtain ⟨c1, hc⟩ := rx_and2.mp hc
    obtain ⟨c2, hc⟩ := rx_and2.mp hc
    obtain ⟨c3, c4⟩ := rx_and2.mp hc
    intro ad en ls stA H locs ws hRl
    obtain ⟨h1, h2, h3, h4, h5, h6, h7, h8, h9⟩ := hRl
    obtain ⟨x, rA, rfl, hxv, h8n⟩ := rx_st_cons h8
    have hx2 : rx_isR v = true := rx_and2.mpr ⟨c1, rx_blt.mpr (Nat.lt_of_lt_of_le (by decide) (rx_ble.mp c2))⟩
    obtain ⟨a, rfl⟩ := rx_isR_cv hx2 hxv
    refine W.objInit hx hb hown (hts _ w1) (hts _ w2) (hts _ w3) rfl (by show ls.size = _; rw [hml, ← hN]; exact h7.2.1) rfl hd (Nat.le_trans (rx_ble.mp c3) hR1) ?_ ?_
    · show 2 * 0 + (rA.map fun v => v.category).sum + 12 ≤ R.locals
      rw [rx_cat_eq h8n]
      have : rx_cat st' + 12 ≤ rx_rl (rx_n r) := rx_ble.mp c4
      omega
    · exact hG _ h ad en ls rA H locs ws ⟨h1, h2, h3, h4, h5, h6, h7, h8n, h9⟩
/-- Math.max, Math.min -/
theorem rx_s_prim {i k : Nat} (C : rx_Cx cy D r p R s m args meth c) (hN : nL = rx_mL (rx_n r)) (hd : decode (rx_b r) pc = .ok (.invokestatic i, 3))
    (hw : (k = 1 ∧ Jvm.Cond.methodLink (rx_y r).cls i Lib.Math.max.name ∈ lw_G ∧ Jvm.Cond.static Lib.Math.max.name ∈ lw_G ∧ Jvm.Cond.initialized "java/lang/Math" ∈ lw_G ∧ Jvm.Cond.code Lib.Math.max.name Lib.Math.max.code 2 (some .int) ∈ lw_G) ∨ (k = 2 ∧ Jvm.Cond.methodLink (rx_y r).cls i Lib.Math.min.name ∈ lw_G ∧ Jvm.Cond.static Lib.Math.min.name ∈ lw_G ∧ Jvm.Cond.initialized "java/lang/Math" ∈ lw_G ∧ Jvm.Cond.code Lib.Math.min.name Lib.Math.min.code 2 (some .int) ∈ lw_G))
    (h : rx_invP f r pc k lv st hp iv cn sn = some outs) (hG : ∀ σ, f r σ = some outs → rx_G p l e R s m args below meth c Q cy D b A H0 ad0 en0 nL σ) : rx_G p l e R s m args below meth c Q cy D b A H0 ad0 en0 nL (pc, lv, st, hp, iv, cn, sn) := by
  obtain ⟨hx, hb, hr, hml, hown, hts, hlocks, hmn, hK, hNest, hAO, hR1, hR2, hR3, hR4⟩ := C
  unfold rx_invP at h
  cases hpr : rx_prim k st with
  | none => rw [hpr] at h; cases h
  | some st2 =>
    rw [hpr] at h
    dsimp only at h
    obtain ⟨hc, h⟩ := rx_cond h
    obtain ⟨c1, hc⟩ := rx_and2.mp hc
    obtain ⟨c2, hc⟩ := rx_and2.mp hc
    obtain ⟨c3, c4⟩ := rx_and2.mp hc
    obtain ⟨c4, c5⟩ := rx_and2.mp c4
    have c2 : 40 ≤ rx_rl (rx_n r) := rx_ble.mp c2
    have c3 : rx_cat st2 ≤ 9 := rx_ble.mp c3
    match st, hpr with
    | [], hpr => cases hpr
    | [_], hpr => cases hpr
    | y :: x :: st', hpr =>
      obtain ⟨hk, hpr⟩ := rx_cond hpr
      obtain ⟨kx, ky⟩ := rx_and2.mp hk
      intro ad en ls stA H locs ws hRl
      obtain ⟨h1, h2, h3, h4, h5, h6, h7, h8, h9⟩ := hRl
      obtain ⟨yv, r1, rfl, hyv, h8a⟩ := rx_st_cons h8
      obtain ⟨xv, rA, rfl, hxv, h8b⟩ := rx_st_cons h8a
      have ex := (rx_cv0 (b := b) (ad := ad) (en := en) (rx_beq.mp kx)).symm.trans hxv
      have ey := (rx_cv0 (b := b) (ad := ad) (en := en) (rx_beq.mp ky)).symm.trans hyv
      have ex := Option.some.inj ex
      have ey := Option.some.inj ey
      have bx : rx_bias (Int32.ofNat (x / 4)) = rx_bi (x / 4) := rx_bias_ofNat _
      have bY : rx_bias (Int32.ofNat (y / 4)) = rx_bi (y / 4) := rx_bias_ofNat _
      have hlen : ∀ z : Nat, z = y ∨ z = x → rx_cat st' + 1 ≤ rx_cat (z :: st') := by
        intro z _
        show rx_cat st' + 1 ≤ (bif rx_isJ z then Nat.add (rx_cat st') 2 else Nat.succ (rx_cat st'))
        cases rx_isJ z with
        | true => show rx_cat st' + 1 ≤ rx_cat st' + 2; omega
        | false => exact Nat.le_refl _
      have hsum : (rA.map fun v => v.category).sum + 13 ≤ R.locals := by
        rw [rx_cat_eq h8b]
        rcases hw with ⟨rfl, -⟩ | ⟨rfl, -⟩
        · have e : (bif Nat.blt (rx_bi (rx_pl x)) (rx_bi (rx_pl y)) then y else x) :: st' = st2 := Option.some.inj hpr
          rw [← e] at c3
          have := hlen (bif Nat.blt (rx_bi (rx_pl x)) (rx_bi (rx_pl y)) then y else x) (by cases Nat.blt (rx_bi (rx_pl x)) (rx_bi (rx_pl y)) <;> simp)
          omega
        · have e : (bif Nat.blt (rx_bi (rx_pl y)) (rx_bi (rx_pl x)) then y else x) :: st' = st2 := Option.some.inj hpr
          rw [← e] at c3
          have := hlen (bif Nat.blt (rx_bi (rx_pl y)) (rx_bi (rx_pl x)) then y else x) (by cases Nat.blt (rx_bi (rx_pl y)) (rx_bi (rx_pl x)) <;> simp)
          omega
      have hml2 : c.maxLocals = ls.size := by rw [hml, ← hN]; exact h7.2.1.symm
      subst ex
      subst ey
      rcases hw with ⟨rfl, w1, w2, w3, w4⟩ | ⟨rfl, w1, w2, w3, w4⟩
      · have e : (bif Nat.blt (rx_bi (rx_pl x)) (rx_bi (rx_pl y)) then y else x) :: st' = st2 := Option.some.inj hpr
        refine va_mmax hx hb hml2 hown (hts _ w1) (hts _ w2) (hts _ w3) (hts _ w4) (Nat.le_trans (rx_ble.mp c1) hR1) hsum (Nat.le_trans (rx_ble.mp c4) hR3) (Nat.le_trans (rx_ble.mp c5) hR4) hd ?_
        refine hG _ h ad en ls _ H locs ws ⟨h1, h2, h3, h4, h5, h6, h7, ?_, h9⟩
        show st2.map _ = _
        rw [← e]
        by_cases hlt : Int32.ofNat (x / 4) < Int32.ofNat (y / 4)
        · rw [if_pos hlt]
          rw [show Nat.blt (rx_bi (rx_pl x)) (rx_bi (rx_pl y)) = true from rx_blt.mpr (by have := rx_bias_lt.mp hlt; rw [bx, bY] at this; exact this)]
          exact rx_st_push hyv h8b
        · rw [if_neg hlt]
          rw [show Nat.blt (rx_bi (rx_pl x)) (rx_bi (rx_pl y)) = false from Bool.eq_false_iff.mpr (fun z => hlt (rx_bias_lt.mpr (by rw [bx, bY]; exact rx_blt.mp z)))]
          exact rx_st_push hxv h8b
      · have e : (bif Nat.blt (rx_bi (rx_pl y)) (rx_bi (rx_pl x)) then y else x) :: st' = st2 := Option.some.inj hpr
        refine va_mmin hx hb hml2 hown (hts _ w1) (hts _ w2) (hts _ w3) (hts _ w4) (Nat.le_trans (rx_ble.mp c1) hR1) hsum (Nat.le_trans (rx_ble.mp c4) hR3) (Nat.le_trans (rx_ble.mp c5) hR4) hd ?_
        refine hG _ h ad en ls _ H locs ws ⟨h1, h2, h3, h4, h5, h6, h7, ?_, h9⟩
        show st2.map _ = _
        rw [← e]
        by_cases hlt : Int32.ofNat (y / 4) < Int32.ofNat (x / 4)
        · rw [if_pos hlt]
          rw [show Nat.blt (rx_bi (rx_pl y)) (rx_bi (rx_pl x)) = true from rx_blt.mpr (by have := rx_bias_lt.mp hlt; rw [bx, bY] at this; exact this)]
          exact rx_st_push hyv h8b
        · rw [if_neg hlt]
          rw [show Nat.blt (rx_bi (rx_pl y)) (rx_bi (rx_pl x)) = false from Bool.eq_false_iff.mpr (fun z => hlt (rx_bias_lt.mpr (by rw [bx, bY]; exact rx_blt.mp z)))]
          exact rx_st_push hxv h8b
theorem rx_wrd_ok {v : Nat} {l : List Nat} (h : rx_wrd v = some l) : ∃ j, j < 8 ∧ v = 4 * (1000 + j) + 2 ∧ rx_sbyt[j]? = some l := by
  unfold rx_wrd at h
  obtain ⟨hw, h⟩ := rx_cond h
  obtain ⟨e1, d1⟩ := rx_and2.mp hw
  obtain ⟨e2, e3⟩ := rx_and2.mp d1
  have e1 : v % 4 = 2 := rx_beq.mp e1
  have e2 : 1000 ≤ v / 4 := rx_ble.mp e2
  have e3 : v / 4 < 1008 := rx_blt.mp e3
  rw [rx_nth_eq] at h
  exact ⟨v / 4 - 1000, by omega, by omega, h⟩
theorem rx_wrd_len {j : Nat} {l : List Nat} (h : rx_sbyt[j]? = some l) : rx_sln.getD j 0 = l.length := by
  unfold rx_sln
  rw [List.getD_eq_getElem?_getD, List.getElem?_map, h]
  rfl
theorem rx_wrd_byt {j k c : Nat} {l : List Nat} (h : rx_sbyt[j]? = some l) (hk : l[k]? = some c) : (rx_sb32.getD j []).getD k 0 = Int32.ofNat c := by
  have e1 : rx_sb32.getD j [] = l.map Int32.ofNat := by
    unfold rx_sb32
    rw [List.getD_eq_getElem?_getD, List.getElem?_map, h]
    rfl
  rw [e1, List.getD_eq_getElem?_getD, List.getElem?_map, hk]
  rfl
/-- String.length, String.charAt -/
theorem rx_s_primS {i k : Nat} (C : rx_Cx cy D r p R s m args meth c) (hN : nL = rx_mL (rx_n r)) (hH0 : H0 = s.heap) (hZt : rx_Zt b A s) (hA : ∀ z, H0.size ≤ z → A z) (hd : decode (rx_b r) pc = .ok (.invokevirtual i, 3))
    (hw : (k = 3 ∧ Jvm.Cond.methodLink (rx_y r).cls i yJ0_length_8abf5 ∈ lw_G) ∨ (k = 4 ∧ Jvm.Cond.methodLink (rx_y r).cls i yJ0_charAt_5068e ∈ lw_G))
    (h : rx_invS f r pc k lv st hp iv cn sn = some outs) (hG : ∀ σ, f r σ = some outs → rx_G p l e R s m args below meth c Q cy D b A H0 ad0 en0 nL σ) : rx_G p l e R s m args below meth c Q cy D b A H0 ad0 en0 nL (pc, lv, st, hp, iv, cn, sn) := by
  obtain ⟨hx, hb, hr, hml, hown, hts, hlocks, hmn, hK, hNest, hAO, hR1, hR2, hR3, hR4⟩ := C
  unfold rx_invS at h
  cases hpr : rx_primS k st with
  | none => rw [hpr] at h; cases h
  | some st2 =>
    rw [hpr] at h
    dsimp only at h
    obtain ⟨hc, h⟩ := rx_cond h
    obtain ⟨c1, hc⟩ := rx_and2.mp hc
    obtain ⟨c2, hc⟩ := rx_and2.mp hc
    obtain ⟨c3, c4⟩ := rx_and2.mp hc
    obtain ⟨c4, c5⟩ := rx_and2.mp c4
    have c1 : 8 ≤ rx_rf (rx_n r) := rx_ble.mp c1
    have c2 : 400 ≤ rx_rl (rx_n r) := rx_ble.mp c2
    have c3 : rx_cat st2 ≤ 9 := rx_ble.mp c3
    have c4 : cn ≤ rx_rc (rx_n r) := rx_ble.mp c4
    have c5 : sn ≤ rx_rs (rx_n r) := rx_ble.mp c5
    have hA' : ∀ z, s.heap.size ≤ z → A z := by rw [← hH0]; exact hA
    have hcs : cn ≤ R.cells ∧ sn ≤ R.slots := ⟨Nat.le_trans c4 hR3, Nat.le_trans c5 hR4⟩
    have fix : CallFix p m c (rx_b r) (rx_mL (rx_n r)) s args lw_G (rx_y r).cls := ⟨hx, hb, hml, hown, hts⟩
    have hcatI : ∀ (n : Nat) (st' : List Nat), rx_cat (rx_int n :: st') = rx_cat st' + 1 := by
      intro n st'
      show (bif rx_isJ (rx_int n) then Nat.add (rx_cat st') 2 else Nat.succ (rx_cat st')) = _
      rw [show rx_isJ (rx_int n) = false from Bool.eq_false_iff.mpr (fun z => by have z : 4 * n % 4 = 1 := rx_beq.mp z; omega)]
      rfl
    have fin : ∀ (ad : List Nat) (en : List Int32) (ls : Array Slot) (H H1 : Heap) (locs1 : List Loc) (ws : va_W) (n : Nat) (st' : List Nat) (rA : List Value), rx_int n :: st' = st2 → ad0 <+: ad → en0 <+: en → rx_RW cy b ad en hp ws → va_P D vwCl ws H → va_D A ws → rx_RL b ad en nL lv ls → rx_RI iv en → st'.map (rx_cv b ad en) = rA.map some → (∀ q : Nat, q < H.size → H1[q]? = H[q]?) → va_S A s.heap H1 locs1 → W p l e R s m args below meth c H1 locs1 cn sn Q (F0 m (pc + 3) ls (.int (Int32.ofNat n) :: rA)) := by
      intro ad en ls H H1 locs1 ws n st' rA est h1 h2 h3 h4 h5 h7 h9 h8 hk hS1
      refine hG _ h ad en ls (.int (Int32.ofNat n) :: rA) H1 locs1 ws ⟨h1, h2, h3, h4.kept (fun k q hq => hk q.1 (h4 k q hq).lt), h5, ?_, h7, ?_, h9⟩
      · rw [hH0]; exact hS1
      · show st2.map _ = _
        rw [← est]
        exact rx_st_push (rx_int_cv b ad en n) h8
    have ref : ∀ (ad : List Nat) (en : List Int32) (v j : Nat) (xv : Value), v = 4 * (1000 + j) + 2 → rx_cv b ad en v = some xv → xv = .ref (b (j + 1)) := by
      intro ad en v j xv hv hxv
      rw [rx_cvS (by omega) (by omega), show v / 4 - 999 = j + 1 by omega] at hxv
      exact (Option.some.inj hxv).symm
    rcases hw with ⟨rfl, w1⟩ | ⟨rfl, w1⟩
    · match st, hpr with
      | [], hpr => cases hpr
      | v :: st', hpr =>
        replace hpr : rx_primL v st' = some st2 := hpr
        unfold rx_primL at hpr
        cases hwd : rx_wrd v with
        | none => rw [hwd] at hpr; cases hpr
        | some l' =>
          rw [hwd] at hpr
          have hpr : rx_int (rx_len l') :: st' = st2 := Option.some.inj hpr
          obtain ⟨j, hj, hv, hjl⟩ := rx_wrd_ok hwd
          intro ad en ls stA H locs ws hRl
          obtain ⟨h1, h2, h3, h4, h5, h6, h7, h8, h9⟩ := hRl
          obtain ⟨xv, rA, rfl, hxv, h8a⟩ := rx_st_cons h8
          have hxr := ref ad en v j xv hv hxv
          subst hxr
          have hS : va_S A s.heap H locs := by rw [← hH0]; exact h6
          have hcat : (rA.map fun v => v.category).sum ≤ 8 := by
            rw [rx_cat_eq h8a]
            rw [← hpr, hcatI] at c3
            omega
          have rc := vk_recv (i := j) hZt.1 hj hS
          refine rx_zV (As := []) (rest := rA) fix (rx_z_len hj) w1 rx_w_i_len rx_w_s_len rx_w_n_0 rx_w_c_len ⟨by decide, by decide, by show _ = some 0; decide +kernel⟩ ⟨by omega, by omega⟩ hZt hS hA' rc (by rw [← hN]; exact h7.2.1) hcat hcs hd (fun H1 locs1 _ q2 q3 => ?_)
          have fz := fin ad en ls H H1 locs1 ws _ st' rA hpr h1 h2 h3 h4 h5 h7 h9 h8a q2 q3
          rw [rx_len_eq] at fz
          rw [rx_wrd_len hjl]
          exact fz
    · match st, hpr with
      | [], hpr => cases hpr
      | [_], hpr => cases hpr
      | ix :: v :: st', hpr =>
        replace hpr : rx_primC ix (v :: st') = some st2 := hpr
        unfold rx_primC at hpr
        dsimp only at hpr
        cases hwd : rx_wrd v with
        | none => rw [hwd] at hpr; cases hpr
        | some l' =>
          rw [hwd] at hpr
          dsimp only at hpr
          obtain ⟨hi0, hpr⟩ := rx_cond hpr
          rw [rx_nth_eq] at hpr
          cases hch : l'[rx_pl ix]? with
          | none => rw [hch] at hpr; cases hpr
          | some ch =>
            rw [hch] at hpr
            have hpr : rx_int ch :: st' = st2 := Option.some.inj hpr
            obtain ⟨j, hj, hv, hjl⟩ := rx_wrd_ok hwd
            intro ad en ls stA H locs ws hRl
            obtain ⟨h1, h2, h3, h4, h5, h6, h7, h8, h9⟩ := hRl
            obtain ⟨iv0, r1, rfl, hiv, h8b⟩ := rx_st_cons h8
            obtain ⟨xv, rA, rfl, hxv, h8a⟩ := rx_st_cons h8b
            have hxr := ref ad en v j xv hv hxv
            subst hxr
            have hir := (rx_cv0 (b := b) (ad := ad) (en := en) (rx_beq.mp hi0)).symm.trans hiv
            have hir := Option.some.inj hir
            subst hir
            have hS : va_S A s.heap H locs := by rw [← hH0]; exact h6
            have hcat : (rA.map fun v => v.category).sum ≤ 8 := by
              rw [rx_cat_eq h8a]
              rw [← hpr, hcatI] at c3
              omega
            have hlt : ix / 4 < rx_sln.getD j 0 := by
              rw [rx_wrd_len hjl]
              exact (List.getElem?_eq_some_iff.mp hch).1
            have rc := vk_recv (i := j) hZt.1 hj hS
            refine rx_zV (As := [.int (Int32.ofNat (ix / 4))]) (rest := rA) fix (rx_z_ca hj hlt) w1 rx_w_i_ca rx_w_s_ca rx_w_n_0 rx_w_c_ca ⟨by decide, by decide, by show _ = some 1; decide +kernel⟩ ⟨by omega, by omega⟩ hZt hS hA' rc (by rw [← hN]; exact h7.2.1) hcat hcs hd (fun H1 locs1 _ q2 q3 => ?_)
            rw [show (rx_sb32.getD j []).getD (ix / 4) 0 = Int32.ofNat ch from rx_wrd_byt hjl hch]
            exact fin ad en ls H H1 locs1 ws _ st' rA hpr h1 h2 h3 h4 h5 h7 h9 h8a q2 q3
set_option maxHeartbeats 1000000 in
/-- a call of a method of the table, of any of the three kinds -/
theorem rx_s_inv {ins : Instr} {stat : Bool} (hP : ∀ q ∈ P, rx_QW q ∧ rx_ST P K q) (ih : rx_SndG P K l cy D g) (C : rx_Cx cy D r p R s m args meth c) (hN : nL = rx_mL (rx_n r)) (hH0 : H0 = s.heap) (hZt : rx_Zt b A s) (hA : ∀ z, H0.size ≤ z → A z) (hd : decode (rx_b r) pc = .ok (ins, 3)) (hS : rx_site P (rx_y r).cls na nb ins) (hn1 : nb ≠ 1) (hn2 : nb ≠ 2) (hn3 : nb % 4 ≠ 1)
    (hk : (∃ i, ins = .invokevirtual i ∧ stat = false) ∨ (∃ i, ins = .invokespecial i ∧ stat = false) ∨ (∃ i, ins = .invokestatic i ∧ stat = true))
    (h : rx_inv stat P g f r pc na (Nat.div nb 4) lv st hp iv cn sn = some outs)
    (hG : ∀ (σ : rx_S) (o : List β), f r σ = some o → (∀ y ∈ o, y ∈ outs) → rx_G p l e R s m args below meth c Q cy D b A H0 ad0 en0 nL σ) : rx_G p l e R s m args below meth c Q cy D b A H0 ad0 en0 nL (pc, lv, st, hp, iv, cn, sn) := by
  obtain ⟨hx, hb, hr, hml, hown, hts, hlocks, hmn, hK, hNest, hAO, hR1, hR2, hR3, hR4⟩ := C
  unfold rx_inv at h
  cases hq : rx_nth P na with
  | none => rw [hq] at h; cases h
  | some q =>
    rw [hq] at h
    dsimp only at h
    cases hs : rx_spl (bif stat then rx_np (rx_n q) else Nat.succ (rx_np (rx_n q))) st [] with
    | none => rw [hs] at h; cases h
    | some w =>
      obtain ⟨as, rest⟩ := w
      rw [hs] at h
      dsimp only at h
      obtain ⟨hc, h⟩ := rx_cond h
      obtain ⟨hcr, hck⟩ := rx_and2.mp hc
      unfold rx_cok at hck
      obtain ⟨k1, hck⟩ := rx_and2.mp hck
      obtain ⟨k2, hck⟩ := rx_and2.mp hck
      obtain ⟨k3, hck⟩ := rx_and2.mp hck
      obtain ⟨k4, hck⟩ := rx_and2.mp hck
      obtain ⟨k5, k6⟩ := rx_and2.mp hck
      have k1 : rx_cat rest ≤ 8 := rx_ble.mp k1
      have k2 : rx_rf (rx_n q) + 1 ≤ rx_rf (rx_n r) := rx_ble.mp k2
      have k3 : 19 + rx_mL (rx_n q) + rx_rl (rx_n q) ≤ rx_rl (rx_n r) := rx_ble.mp k3
      have k4 : cn + rx_rc (rx_n q) ≤ rx_rc (rx_n r) := rx_ble.mp k4
      have k5 : sn + rx_rs (rx_n q) ≤ rx_rs (rx_n r) := rx_ble.mp k5
      have k6 : rx_cat as ≤ rx_mL (rx_n q) := rx_ble.mp k6
      unfold rx_inv3 at h
      cases hrun : g q (0, rx_args as (rx_mL (rx_n q)), [], hp, iv, 0, 0) with
      | none => rw [hrun] at h; cases h
      | some os =>
        rw [hrun] at h
        dsimp only at h
        have hall := rx_all_ok h
        obtain ⟨pre, hp1, hp2, hp3⟩ := rx_spl_ok _ _ _ _ _ hs
        rw [List.append_nil] at hp3
        have hpre : pre = as.reverse := by rw [hp3, List.reverse_reverse]
        subst hpre
        have hqm : q ∈ P := by rw [rx_nth_eq] at hq; exact List.mem_of_getElem? hq
        obtain ⟨hQ, hSTq⟩ := hP q hqm
        have hQ' := hQ
        obtain ⟨v1, v2, v3, v4, v5, v6, v7, v8⟩ := hQ'
        intro ad en ls stA H locs ws hRl
        obtain ⟨h1, h2, h3, h4, h5, h6, h7, h8, h9⟩ := hRl
        replace h8 : st.map (rx_cv b ad en) = stA.map some := h8
        rw [hp1] at h8
        obtain ⟨asA, restA, rfl, has, hrest⟩ := rx_split h8
        have hM := rx_met hQ (ih q hSTq v8 _ _ hrun) H.size has k6 h3 h9
        have hGw : GoodIn lw_G (rx_ws q) := lw_G_good (fun w hw => by rcases List.mem_cons.mp hw with rfl | hw; exact v2; exact hw)
        have hRm : (rx_room q).frames + 1 ≤ R.frames ∧ 8 + (rx_mL (rx_n q) + 11) + (rx_room q).locals ≤ R.locals := ⟨Nat.le_trans k2 hR1, by show 8 + (rx_mL (rx_n q) + 11) + rx_rl (rx_n q) ≤ R.locals; omega⟩
        have hf : cn + rx_rc (rx_n q) ≤ R.cells ∧ sn + rx_rs (rx_n q) ≤ R.slots := ⟨Nat.le_trans k4 hR3, Nat.le_trans k5 hR4⟩
        have hroom : 2 * (F0 m pc ls (asA.reverse ++ restA)).monitorRoom + (restA.map fun v => v.category).sum ≤ 8 := by
          show 2 * 0 + _ ≤ 8
          rw [rx_cat_eq hrest]
          omega
        have hPc : ∀ U : State, U.heap = H → s.WarmedH U.vm → rx_Pc cy D b asA ws H.size asA.toArray U := fun U hU hW => ⟨rfl, by rw [hU], by rw [hU]; exact h4, va_K.moved hW.alike hK, h5.weaken (fun _ _ _ _ => trivial), lw_nest_warm hW hNest, va_AO.moved hW.alike hAO, hZt.call hW hU (by rw [← hH0]; exact h6) (rx_AA h5 h6 hA)⟩
        have hsize : (F0 m pc ls (asA.reverse ++ restA)).locals.size = rx_mL (rx_n r) := by rw [← hN]; exact h7.2.1
        have hlenA : asA.length = as.length := rx_map_len has
        have hlen : as.length = bif stat then rx_np (rx_n q) else Nat.succ (rx_np (rx_n q)) := by rw [← hp2, List.length_reverse]
        have fix : CallFix p m c (rx_b r) (rx_mL (rx_n r)) s args lw_G (rx_y r).cls := ⟨hx, hb, hml, hown, hts⟩
        have fin : ∀ {aa : Array Value}, va_Run p l e R s m args below meth c H locs cn sn (rx_rc (rx_n q)) (rx_rs (rx_n q)) (F0 m pc ls (asA.reverse ++ restA)) restA (rx_Qc cy D b ad en (va_A ws H.size) (rx_rk (rx_n q)) os aa) (va_A ws H.size) → W p l e R s m args below meth c H locs cn sn Q (F0 m pc ls (asA.reverse ++ restA)) := fun hR =>
          rx_back hR h1 h2 h5 h6 hA h7 hrest (fun o ho => by obtain ⟨o', ho', hsub⟩ := hall o ho; exact hG _ o' ho' hsub)
        rcases hk with ⟨i, rfl, rfl⟩ | ⟨i, rfl, rfl⟩ | ⟨i, rfl, rfl⟩
        · rcases hS with ⟨z, -⟩ | ⟨z, -⟩ | ⟨-, -, -, q', hq', u1, u2, u3, ⟨T, Nf, u4⟩, u5⟩
          · rw [z] at hn3; exact absurd rfl hn3
          · rw [z] at hn3; exact absurd rfl hn3
          cases hq.symm.trans hq'
          match as, hlen, has, hcr with
          | [], hlen, _, _ => cases hlen
          | v :: as', hlen, has, hcr =>
            obtain ⟨x, As, rfl, hxv, hAs⟩ := rx_st_cons has
            replace hcr : rx_obj hp (Nat.div nb 4) v = true := hcr
            unfold rx_obj at hcr
            obtain ⟨j1, hcr⟩ := rx_and2.mp hcr
            obtain ⟨j2, hcr⟩ := rx_and2.mp hcr
            cases hgo : rx_hg hp (Nat.sub (rx_pl v) 2) with
            | none => rw [hgo] at hcr; cases hcr
            | some cl =>
              obtain ⟨t2, n2, f2⟩ := cl
              rw [hgo] at hcr
              have ht2 : t2 = nb / 4 := rx_beq.mp hcr
              subst ht2
              obtain ⟨a2, e2, rfl, ha2, hw2, hc2⟩ := rx_ref_at h3 (rx_and2.mpr ⟨j1, j2⟩) hxv hgo
              obtain ⟨fs, rfl, hfs⟩ := hc2.obj u5
              have hAl : As.length = rx_np (rx_n q) := by
                have e1 : As.length = as'.length := rx_map_len hAs
                have e2 : as'.length + 1 = Nat.succ (rx_np (rx_n q)) := hlen
                omega
              refine fin (va_runV (As := As) (rest := restA) (b := a2) (C := (rx_y q).cls) fix hM (cwV (rx_np (rx_n q)) hts (lw_G_good (fun w hw => ?_)) rfl rfl rfl ⟨rfl, v4, v5, v6⟩ hRm) ⟨rx_Pc_blind, va_recv hK h4 u4 hw2, hPc⟩ rfl hAl hsize ?_ hroom hd hf)
              · rcases List.mem_append.mp hw with hw | hw
                · simp only [List.mem_cons, List.not_mem_nil, or_false] at hw
                  rcases hw with rfl | rfl | rfl | rfl
                  · exact u1
                  · exact u2
                  · exact u3
                  · exact v3
                · exact (hGw w hw).1
              · show (Value.ref a2 :: As).reverse ++ restA = As.reverse ++ .ref a2 :: restA
                simp
        · rcases hS with ⟨z, -⟩ | ⟨-, -, -, q', hq', u1, u2, u3, u4⟩
          · exact absurd z hn1
          cases hq.symm.trans hq'
          match as, hlen, has, hcr with
          | [], hlen, _, _ => cases hlen
          | v :: as', hlen, has, hcr =>
            obtain ⟨x, As, rfl, hxv, hAs⟩ := rx_st_cons has
            replace hcr : rx_obj hp (Nat.div nb 4) v = true := hcr
            unfold rx_obj at hcr
            obtain ⟨j1, hcr⟩ := rx_and2.mp hcr
            obtain ⟨j2, hcr⟩ := rx_and2.mp hcr
            have hx2 : rx_isR v = true := rx_and2.mpr ⟨j1, rx_blt.mpr (Nat.lt_of_lt_of_le (by decide) (rx_ble.mp j2))⟩
            obtain ⟨a2, rfl⟩ := rx_isR_cv hx2 hxv
            have hAl : As.length = rx_np (rx_n q) := by
              have e1 : As.length = as'.length := rx_map_len hAs
              have e2 : as'.length + 1 = Nat.succ (rx_np (rx_n q)) := hlen
              omega
            have hstk : (Value.ref a2 :: As).reverse ++ restA = As.reverse ++ .ref a2 :: restA := by simp
            have hwn : rx_ws q = Jvm.Cond.code (rx_y q) (rx_b q) (rx_mL (rx_n q)) none :: lw_G := by unfold rx_ws; rw [u2]
            rcases u4 with u4 | ⟨host, u4⟩
            · exact fin (va_runI (As := As) (rest := restA) (b := a2) fix hM (cwI (rx_np (rx_n q)) hts hGw hwn rfl rfl (hts _ v3) (hts _ u4) (hts _ u3) u1 ⟨v4, v5, v6⟩ hRm) ⟨rx_Pc_blind, hPc⟩ rfl hAl hsize hstk hroom hd hf)
            · exact fin (va_runIN (As := As) (rest := restA) (b := a2) fix hM ⟨va_cnB (host := host) (rx_np (rx_n q)) hts hGw hwn rfl rfl (hNest _ u4) (hts _ v3) ⟨v4, v5, v6⟩ hRm, u1, hts _ u3⟩ ⟨rx_Pc_blind, hPc⟩ rfl hAl hsize hstk hroom hd hf)
        · rcases hS with ⟨z, -⟩ | ⟨-, -, -, q', hq', u1, u2⟩ | ⟨z, -⟩ | ⟨z, -⟩
          · exact absurd z hn2
          rotate_left
          · rw [z] at hn3; exact absurd rfl hn3
          · rw [z] at hn3; exact absurd rfl hn3
          cases hq.symm.trans hq'
          have hAl : asA.length = rx_np (rx_n q) := hlenA.trans hlen
          refine fin (va_runS (As := asA) (rest := restA) fix hM (va_cwS (rx_np (rx_n q)) hts (lw_G_good (fun w hw => ?_)) rfl rfl rfl ⟨v4, v5, v6⟩ hRm) ⟨rx_Pc_blind, hPc⟩ rfl hAl hsize rfl hroom hd hf)
          rcases List.mem_append.mp hw with hw | hw
          · simp only [List.mem_cons, List.not_mem_nil, or_false] at hw
            rcases hw with rfl | rfl | rfl
            · exact u1
            · exact u2
            · exact v3
          · exact (hGw w hw).1
end RXD
end
section
section RXE
variable {p : Program} {l : Launch} {e : Env} {R : Room} {s : State} {m : MethodId} {args : Array Value} {below : List Frame} {meth : Method} {c : Code} {Q : State → Prop}
variable {cy : Nat → ClassId} {D : va_G} {b : Nat → Nat} {A : Nat → Prop} {H0 : Heap} {ad0 : List Nat} {en0 : List Int32}
set_option maxHeartbeats 1000000 in
/-- one instruction, whatever comes then (f) and is made of a return (z) -/
theorem rx_go_ok {P : List rx_M} {K : rx_K} (hP : ∀ q ∈ P, rx_QW q ∧ rx_ST P K q) {g : rx_M → rx_S → Option (List rx_O)} (ih : rx_SndG P K l cy D g) {r : rx_M} (hST : rx_ST P K r) (C : rx_Cx cy D r p R s m args meth c) (hSc : rx_Sc (rx_n r) b A H0 en0 s) (hA : ∀ q, H0.size ≤ q → A q) {β : Type} {f : rx_M → rx_S → Option (List β)} {z : rx_O → Option (List β)} {σ : rx_S} {outs : List β} (h : rx_go P K g f z r σ = some outs)
    (go : ∀ (σ : rx_S) (o : List β), f r σ = some o → (∀ y ∈ o, y ∈ outs) → rx_G p l e R s m args below meth c Q cy D b A H0 ad0 en0 (rx_mL (rx_n r)) σ)
    (hret : ∀ (x : rx_O) (o : List β), z x = some o → (∀ y ∈ o, y ∈ outs) → rx_Ret p l e R s m args below meth c Q cy D b A H0 ad0 en0 r x) : rx_G p l e R s m args below meth c Q cy D b A H0 ad0 en0 (rx_mL (rx_n r)) σ := by
  obtain ⟨pc, lv, st, hp, iv, cn, sn⟩ := σ
  have C0 := C
  obtain ⟨hx, hb, hr, hml, hown, hts, hlocks, hmn, hK, hNest, hAO, hR1, hR2, hR3, hR4⟩ := C0
  unfold rx_go at h
  dsimp only at h
  cases hl : rx_look (rx_cd r) pc with
  | none => rw [hl] at h; cases h
  | some x =>
    rw [hl] at h
    dsimp only at h
    obtain ⟨⟨ch, hc1, hc2⟩, hpc⟩ := rx_look_ok hl
    have hOK := hST ch hc1 x hc2
    obtain ⟨xpc, kd, hh, ins, len, na, nb, w1, w2⟩ := x
    obtain ⟨o1, o2, o3, o4, o5⟩ := hOK
    dsimp only at h o1 o2 o3 o4 o5 hpc
    subst hpc
    subst o2
    have outz : ∀ {q : Option (List rx_O)}, rx_out z q = some outs → ∃ xs, q = some xs ∧ ∀ x ∈ xs, rx_Ret p l e R s m args below meth c Q cy D b A H0 ad0 en0 r x := by
      intro q hq
      cases q with
      | none => cases hq
      | some xs =>
        replace hq : rx_all z xs = some outs := hq
        exact ⟨xs, rfl, fun x hx => by obtain ⟨o, ho, hsub⟩ := rx_all_ok hq x hx; exact hret x o ho hsub⟩
    rcases rx_kd_or ins with hk | rfl | rfl | rfl | rfl | ⟨i, rfl⟩ | ⟨i, rfl⟩ | ⟨i, rfl⟩
    · have hh0 := o3 hk
      subst hh0
      unfold rx_do at h
      rw [hk] at h
      replace h : rx_nxt f r (rx_sem ins K (rx_n r) xpc na nb lv st hp iv cn sn) = some outs := h
      cases hst : rx_sem ins K (rx_n r) xpc na nb lv st hp iv cn sn with
      | none => rw [hst] at h; cases h
      | some out =>
        rw [hst] at h
        replace h : rx_all (f r) out = some outs := h
        refine rx_s_sem C rfl hSc hA o1 o4 hst (fun σ' hσ' => ?_)
        obtain ⟨o, ho, hsub⟩ := rx_all_ok h σ' hσ'
        exact go σ' o ho hsub
    · replace h : rx_out z (rx_iret (rx_n r) st hp iv cn sn) = some outs := h
      obtain ⟨xs, hxs, hR⟩ := outz h
      match st, hxs with
      | [], hxs => cases hxs
      | _ :: _ :: _, hxs => cases hxs
      | [v], hxs =>
        obtain ⟨hc, hxs⟩ := rx_cond hxs
        obtain ⟨hf, hc⟩ := rx_and2.mp hc
        obtain ⟨f1, f2⟩ := rx_and2.mp hf
        cases hxs
        intro ad en ls stA H locs ws hRl
        obtain ⟨h1, h2, h3, h4, h5, h6, h7, h8, h9⟩ := hRl
        obtain ⟨xv, rA, rfl, hxv, h8n⟩ := rx_st_cons h8
        have hrA : rA = [] := by cases rA with | nil => rfl | cons _ _ => cases h8n
        subst hrA
        have hkv := rx_kn_cv h9 hxv
        have key : (rx_rk (rx_n r) = 1 ∨ rx_rk (rx_n r) = 2) ∧ ∃ z : Int32, xv = .int z ∧ (rx_rk (rx_n r) = 2 → z = 0 ∨ z = 1) := by
          rcases rx_or2.mp hc with hc | hc
          · obtain ⟨d1, d2⟩ := rx_and2.mp hc
            have d1 := rx_beq.mp d1
            obtain ⟨z, rfl⟩ := rx_isI_cv d2 hxv
            exact ⟨Or.inl d1, z, rfl, fun hz => by omega⟩
          · obtain ⟨d1, d2⟩ := rx_and2.mp hc
            have d1 := rx_beq.mp d1
            rcases rx_bit_cv d2 hkv with rfl | rfl
            · exact ⟨Or.inr d1, 0, rfl, fun _ => Or.inl rfl⟩
            · exact ⟨Or.inr d1, 1, rfl, fun _ => Or.inr rfl⟩
        obtain ⟨kk, zz, rfl, kz⟩ := key
        exact hR _ List.mem_cons_self ad en ls [.int zz] H locs ws cn sn xpc (Or.inr (Or.inl ⟨kk, o1, zz, rfl, hkv, kz⟩)) h1 h2 h3 h4 h5 h6 h9 (rx_ble.mp f1) (rx_ble.mp f2)
    · replace h : rx_out z (rx_lret (rx_n r) st hp iv cn sn) = some outs := h
      obtain ⟨xs, hxs, hR⟩ := outz h
      match st, hxs with
      | [], hxs => cases hxs
      | _ :: _ :: _, hxs => cases hxs
      | [v], hxs =>
        obtain ⟨hc, hxs⟩ := rx_cond hxs
        obtain ⟨hf, hc⟩ := rx_and2.mp hc
        obtain ⟨f1, f2⟩ := rx_and2.mp hf
        obtain ⟨d1, d2⟩ := rx_and2.mp hc
        cases hxs
        intro ad en ls stA H locs ws hRl
        obtain ⟨h1, h2, h3, h4, h5, h6, h7, h8, h9⟩ := hRl
        obtain ⟨xv, rA, rfl, hxv, h8n⟩ := rx_st_cons h8
        have hrA : rA = [] := by cases rA with | nil => rfl | cons _ _ => cases h8n
        subst hrA
        have hj := rx_isJ_cv d2 hxv
        subst hj
        exact hR _ List.mem_cons_self ad en ls _ H locs ws cn sn xpc (Or.inr (Or.inr (Or.inl ⟨rx_beq.mp d1, o1, _, rfl, hxv⟩))) h1 h2 h3 h4 h5 h6 h9 (rx_ble.mp f1) (rx_ble.mp f2)
    · replace h : rx_out z (rx_aret (rx_n r) st hp iv cn sn) = some outs := h
      obtain ⟨xs, hxs, hR⟩ := outz h
      match st, hxs with
      | [], hxs => cases hxs
      | _ :: _ :: _, hxs => cases hxs
      | [v], hxs =>
        obtain ⟨hc, hxs⟩ := rx_cond hxs
        obtain ⟨hf, hc⟩ := rx_and2.mp hc
        obtain ⟨f1, f2⟩ := rx_and2.mp hf
        obtain ⟨d1, d2⟩ := rx_and2.mp hc
        cases hxs
        intro ad en ls stA H locs ws hRl
        obtain ⟨h1, h2, h3, h4, h5, h6, h7, h8, h9⟩ := hRl
        obtain ⟨xv, rA, rfl, hxv, h8n⟩ := rx_st_cons h8
        have hrA : rA = [] := by cases rA with | nil => rfl | cons _ _ => cases h8n
        subst hrA
        exact hR _ List.mem_cons_self ad en ls _ H locs ws cn sn xpc (Or.inr (Or.inr (Or.inr ⟨rx_beq.mp d1, o1, _, rfl, rx_isA_cv d2 hxv, hxv⟩))) h1 h2 h3 h4 h5 h6 h9 (rx_ble.mp f1) (rx_ble.mp f2)
    · replace h : rx_out z (rx_vret (rx_n r) st hp iv cn sn) = some outs := h
      obtain ⟨xs, hxs, hR⟩ := outz h
      match st, hxs with
      | _ :: _, hxs => cases hxs
      | [], hxs =>
        obtain ⟨hc, hxs⟩ := rx_cond hxs
        obtain ⟨d1, hf⟩ := rx_and2.mp hc
        obtain ⟨f1, f2⟩ := rx_and2.mp hf
        cases hxs
        intro ad en ls stA H locs ws hRl
        obtain ⟨h1, h2, h3, h4, h5, h6, h7, h8, h9⟩ := hRl
        have hrA : stA = [] := by cases stA with | nil => rfl | cons _ _ => cases h8
        subst hrA
        exact hR _ List.mem_cons_self ad en ls [] H locs ws cn sn xpc (Or.inl ⟨rx_beq.mp d1, o1, rfl⟩) h1 h2 h3 h4 h5 h6 h9 (rx_ble.mp f1) (rx_ble.mp f2)
    · replace h : rx_call false P g f r xpc na nb lv st hp iv cn sn = some outs := h
      have o5' := o5
      rcases o5' with ⟨hn, u1⟩ | ⟨hn, u1⟩ | ⟨hn1, hn2, hn3, -⟩
      · subst hn
        replace h : rx_invS f r xpc 3 lv st hp iv cn sn = some outs := h
        exact rx_s_primS C rfl hSc.2.1 hSc.2.2 hA o1 (Or.inl ⟨rfl, u1⟩) h (fun σ ho => go σ outs ho (fun _ hy => hy))
      · subst hn
        replace h : rx_invS f r xpc 4 lv st hp iv cn sn = some outs := h
        exact rx_s_primS C rfl hSc.2.1 hSc.2.2 hA o1 (Or.inr ⟨rfl, u1⟩) h (fun σ ho => go σ outs ho (fun _ hy => hy))
      · unfold rx_call at h
        rw [show Nat.beq nb 1 = false from Bool.eq_false_iff.mpr (fun z => hn1 (rx_beq.mp z)), show Nat.beq nb 2 = false from Bool.eq_false_iff.mpr (fun z => hn2 (rx_beq.mp z)), show Nat.beq (Nat.mod nb 4) 1 = false from Bool.eq_false_iff.mpr (fun z => hn3 (rx_beq.mp z)), cond_false, cond_false, cond_false] at h
        exact rx_s_inv hP ih C rfl hSc.2.1 hSc.2.2 hA o1 o5 hn1 hn2 hn3 (Or.inl ⟨i, rfl, rfl⟩) h go
    · replace h : rx_call false P g f r xpc na nb lv st hp iv cn sn = some outs := h
      have o5' := o5
      rcases o5' with ⟨hn, u1, u2, u3⟩ | ⟨hn1, hn2, hn3, -⟩
      · subst hn
        replace h : rx_inv1 f r xpc lv st hp iv cn sn = some outs := h
        exact rx_s_inv1 C rfl o1 u1 u2 u3 h (fun σ ho => go σ outs ho (fun _ hy => hy))
      · unfold rx_call at h
        rw [show Nat.beq nb 1 = false from Bool.eq_false_iff.mpr (fun z => hn1 (rx_beq.mp z)), show Nat.beq nb 2 = false from Bool.eq_false_iff.mpr (fun z => hn2 (rx_beq.mp z)), show Nat.beq (Nat.mod nb 4) 1 = false from Bool.eq_false_iff.mpr (fun z => hn3 (rx_beq.mp z)), cond_false, cond_false, cond_false] at h
        exact rx_s_inv hP ih C rfl hSc.2.1 hSc.2.2 hA o1 o5 hn1 hn2 hn3 (Or.inr (Or.inl ⟨i, rfl, rfl⟩)) h go
    · replace h : rx_call true P g f r xpc na nb lv st hp iv cn sn = some outs := h
      have o5' := o5
      rcases o5' with ⟨hn, u1, u2, u3, u4⟩ | ⟨hn1, hn2, hn3, -⟩ | ⟨hn, u1, u2, u3, u4⟩ | ⟨hn, u1, u2, u3, u4⟩
      · subst hn
        replace h : rx_inv2 f r xpc lv st hp iv cn sn = some outs := h
        unfold rx_inv2 at h
        cases hcp : rx_cpy xpc lv st hp iv cn sn with
        | none => rw [hcp] at h; cases h
        | some σ =>
          rw [hcp] at h
          dsimp only at h
          obtain ⟨hc, h⟩ := rx_cond h
          obtain ⟨c1, c2⟩ := rx_and2.mp hc
          exact rx_s_cpy hx hb hml hown hK (hts _ u1) (hts _ u2) (hts _ u3) (hts _ u4) (Nat.le_trans (rx_ble.mp c1) hR1) (Nat.le_trans (rx_ble.mp c2) hR2) o1 hcp (go σ outs h (fun _ hy => hy))
      · unfold rx_call at h
        rw [show Nat.beq nb 1 = false from Bool.eq_false_iff.mpr (fun z => hn1 (rx_beq.mp z)), show Nat.beq nb 2 = false from Bool.eq_false_iff.mpr (fun z => hn2 (rx_beq.mp z)), show Nat.beq (Nat.mod nb 4) 1 = false from Bool.eq_false_iff.mpr (fun z => hn3 (rx_beq.mp z)), cond_false, cond_false, cond_false] at h
        exact rx_s_inv hP ih C rfl hSc.2.1 hSc.2.2 hA o1 o5 hn1 hn2 hn3 (Or.inr (Or.inr ⟨i, rfl, rfl⟩)) h go
      · subst hn
        replace h : rx_invP f r xpc 1 lv st hp iv cn sn = some outs := h
        exact rx_s_prim C rfl o1 (Or.inl ⟨rfl, u1, u2, u3, u4⟩) h (fun σ ho => go σ outs ho (fun _ hy => hy))
      · subst hn
        replace h : rx_invP f r xpc 2 lv st hp iv cn sn = some outs := h
        exact rx_s_prim C rfl o1 (Or.inr ⟨rfl, u1, u2, u3, u4⟩) h (fun σ ho => go σ outs ho (fun _ hy => hy))
end RXE
/-- THE INTERPRETER IS RIGHT: what it says of a run, the machine does -/
theorem rx_sound {P : List rx_M} {K : rx_K} {l : Launch} {cy : Nat → ClassId} {D : va_G} (hP : ∀ q ∈ P, rx_QW q ∧ rx_ST P K q) : ∀ n, rx_Snd P K l cy D n := by
  intro n
  induction n with
  | zero => intro r _ _ σ outs h; cases h
  | succ n ih =>
    intro r hST hrk σ outs h p e R s m args below meth c Q b A H0 ad0 en0 C hSc hA hret
    replace h : rx_go P K (rx_run P K n) (rx_run P K n) (fun o => some [o]) r σ = some outs := h
    exact rx_go_ok hP ih hST C hSc hA h (fun σ o ho hsub => ih r hST hrk σ o ho p e R s m args below meth c Q b A H0 ad0 en0 C hSc hA (fun y hy => hret y (hsub y hy))) (fun x o ho hsub => hret x (hsub x (by cases ho; exact List.mem_cons_self)))
/-- and so of a stretch of a method's own instructions -/
theorem rx_adv_ok {P : List rx_M} {K : rx_K} {l : Launch} {cy : Nat → ClassId} {D : va_G} (hP : ∀ q ∈ P, rx_QW q ∧ rx_ST P K q) {p : Program} {e : Env} {R : Room} {s : State} {m : MethodId} {args : Array Value} {below : List Frame} {meth : Method} {c : Code} {Q : State → Prop} {b : Nat → Nat} {A : Nat → Prop} {H0 : Heap} {ad0 : List Nat} {en0 : List Int32} {n stop : Nat} {r : rx_M} (hST : rx_ST P K r) (C : rx_Cx cy D r p R s m args meth c) (hSc : rx_Sc (rx_n r) b A H0 en0 s) (hA : ∀ q, H0.size ≤ q → A q) :
    ∀ (k : Nat) (σ : rx_S) (l' : List rx_S), rx_adv P K n stop r k σ = some l' → (∀ σ' ∈ l', rx_G p l e R s m args below meth c Q cy D b A H0 ad0 en0 (rx_mL (rx_n r)) σ') → rx_G p l e R s m args below meth c Q cy D b A H0 ad0 en0 (rx_mL (rx_n r)) σ
  | 0, σ, l', h, hG => by
    cases h
    exact hG σ List.mem_cons_self
  | k + 1, σ, l', h, hG => by
    replace h : (bif Nat.beq σ.1 stop then some [σ] else rx_go P K (rx_run P K n) (fun _ σ' => rx_adv P K n stop r k σ') (fun _ => none) r σ) = some l' := h
    cases hs : Nat.beq σ.1 stop with
    | true =>
      rw [hs, cond_true] at h
      cases h
      exact hG σ List.mem_cons_self
    | false =>
      rw [hs, cond_false] at h
      exact rx_go_ok hP (rx_sound hP n) hST C hSc hA h (fun σ' o ho hsub => rx_adv_ok hP hST C hSc hA k σ' o ho (fun y hy => hG y (hsub y hy))) (fun x o ho _ => by cases ho)
end
section
/-! Calls by contract; states that are alike -/
theorem rx_at_run {P : List rx_M} {K : rx_K} {l : Launch} {cy : Nat → ClassId} {D : va_G} (hP : ∀ q ∈ P, rx_QW q ∧ rx_ST P K q) {r : rx_M} (hr : r ∈ P) {n : Nat} {σ : rx_S} {outs : List rx_O} (h : rx_run P K n r σ = some outs) : rx_At l cy D r σ outs :=
  rx_sound hP n r (hP r hr).2 (hP r hr).1.2.2.2.2.2.2.2 σ outs h
theorem rx_at_adv {P : List rx_M} {K : rx_K} {l : Launch} {cy : Nat → ClassId} {D : va_G} (hP : ∀ q ∈ P, rx_QW q ∧ rx_ST P K q) {r : rx_M} (hr : r ∈ P) {n stop k : Nat} {σ : rx_S} {l' : List rx_S} {outs : List rx_O} (h : rx_adv P K n stop r k σ = some l') (hl : ∀ σ' ∈ l', rx_At l cy D r σ' outs) : rx_At l cy D r σ outs :=
  fun p e R s m args below meth c Q b A H0 ad0 en0 C hSc hA hret => rx_adv_ok hP (hP r hr).2 C hSc hA k σ l' h (fun σ' hσ => hl σ' hσ p e R s m args below meth c Q b A H0 ad0 en0 C hSc hA hret)
/-- a state ahead of a call of the i-th method: what it is called with, what stays on the stack -/
noncomputable def rx_cal (P : List rx_M) (r : rx_M) (i : Nat) (σ : rx_S) : Option (List Nat × List Nat) := match rx_look (rx_cd r) σ.1 with
  | some x => (match rx_nth P i with
    | some q => (match rx_spl (bif Nat.beq x.2.1 5 then rx_np (rx_n q) else Nat.succ (rx_np (rx_n q))) σ.2.2.1 [] with
      | some (as, rest) => bif (Nat.beq x.2.1 4 || Nat.beq x.2.1 5) && (Nat.beq x.2.2.2.2.2.1 i && (!(Nat.beq x.2.2.2.2.2.2.1 1) && (!(Nat.beq x.2.2.2.2.2.2.1 2) && (!(Nat.beq (Nat.mod x.2.2.2.2.2.2.1 4) 1) && ((Nat.beq x.2.1 5 || rx_rcv σ.2.2.2.1 (Nat.div x.2.2.2.2.2.2.1 4) as) && rx_cok (rx_n r) (rx_n q) as rest σ.2.2.2.2.2.1 σ.2.2.2.2.2.2))))) then some (as, rest) else none
      | none => none)
    | none => none)
  | none => none
/-- how the method called begins -/
noncomputable def rx_ent (q : rx_M) (as : List Nat) (σ : rx_S) : rx_S := (0, rx_args as (rx_mL (rx_n q)), [], σ.2.2.2.1, σ.2.2.2.2.1, 0, 0)
/-- behind the call -/
noncomputable def rx_bh (q : rx_M) (rest : List Nat) (σ : rx_S) (o : rx_O) : rx_S := (Nat.add σ.1 3, σ.2.1, (bif Nat.beq (rx_rk (rx_n q)) 0 then rest else o.1 :: rest), o.2.1, o.2.2, Nat.add σ.2.2.2.2.2.1 (rx_rc (rx_n q)), Nat.add σ.2.2.2.2.2.2 (rx_rs (rx_n q)))
theorem rx_all_map {α β : Type} (k : α → β) (l : List α) : rx_all (fun x => some [k x]) l = some (l.map k) := by
  have gen : ∀ l : List α, l.foldr (fun x acc => match (fun x => some [k x]) x with
    | some a => (match acc with
      | some b => some (a ++ b)
      | none => none)
    | none => none) (some []) = some (l.map k) := by
    intro l
    induction l with
    | nil => rfl
    | cons z l ih => rw [List.foldr_cons, ih]; rfl
  match l with
  | [] => rfl
  | [z] => rfl
  | z :: w :: l => exact gen (z :: w :: l)
section RXF
variable {p : Program} {l : Launch} {e : Env} {R : Room} {s : State} {m : MethodId} {args : Array Value} {below : List Frame} {meth : Method} {c : Code} {Q : State → Prop}
variable {cy : Nat → ClassId} {D : va_G} {b : Nat → Nat} {A : Nat → Prop} {H0 : Heap} {ad0 : List Nat} {en0 : List Int32} {nL : Nat}
theorem rx_G_call {P : List rx_M} {K : rx_K} (hP : ∀ q ∈ P, rx_QW q ∧ rx_ST P K q) {r q : rx_M} (hST : rx_ST P K r) (C : rx_Cx cy D r p R s m args meth c) (hH0 : H0 = s.heap) (hZt : rx_Zt b A s) (hA : ∀ z, H0.size ≤ z → A z) {i : Nat} {as rest : List Nat} {os : List rx_O} {σ : rx_S} (hN : nL = rx_mL (rx_n r))
    (hq : rx_nth P i = some q) (hc : rx_cal P r i σ = some (as, rest)) (hat : rx_At l cy D q (rx_ent q as σ) os) (hG : ∀ o ∈ os, rx_G p l e R s m args below meth c Q cy D b A H0 ad0 en0 nL (rx_bh q rest σ o)) : rx_G p l e R s m args below meth c Q cy D b A H0 ad0 en0 nL σ := by
  obtain ⟨pc, lv, st, hp, iv, cn, sn⟩ := σ
  unfold rx_cal at hc
  dsimp only at hc
  cases hl : rx_look (rx_cd r) pc with
  | none => rw [hl] at hc; cases hc
  | some x =>
    rw [hl, hq] at hc
    dsimp only at hc
    obtain ⟨⟨ch, hc1, hc2⟩, hpc⟩ := rx_look_ok hl
    have hOK := hST ch hc1 x hc2
    obtain ⟨xpc, kd, hh, ins, len, na, nb, w1, w2⟩ := x
    obtain ⟨o1, o2, o3, o4, o5⟩ := hOK
    dsimp only at hc o1 o2 o3 o4 o5 hpc
    subst hpc
    cases hs : rx_spl (bif Nat.beq kd 5 then rx_np (rx_n q) else Nat.succ (rx_np (rx_n q))) st [] with
    | none => rw [hs] at hc; cases hc
    | some w =>
      obtain ⟨as', rest'⟩ := w
      rw [hs] at hc
      dsimp only at hc
      obtain ⟨hb0, he⟩ := rx_cond hc
      cases he
      obtain ⟨b1, hb1⟩ := rx_and2.mp hb0
      obtain ⟨b2, hb2⟩ := rx_and2.mp hb1
      obtain ⟨b3, hb3⟩ := rx_and2.mp hb2
      obtain ⟨b4, hb5⟩ := rx_and2.mp hb3
      obtain ⟨b5, hb4⟩ := rx_and2.mp hb5
      have e2 : na = i := rx_beq.mp b2
      subst e2
      have hn1 : nb ≠ 1 := fun z => by rw [z] at b3; cases b3
      have hn2 : nb ≠ 2 := fun z => by rw [z] at b4; cases b4
      have hn3 : nb % 4 ≠ 1 := fun z => by
        rw [show Nat.mod nb 4 = 1 from z] at b5
        cases b5
      have hqP : q ∈ P := by rw [rx_nth_eq] at hq; exact List.mem_of_getElem? hq
      have sh : ∃ g : rx_M → rx_S → Option (List rx_O), g q (rx_ent q as (xpc, lv, st, hp, iv, cn, sn)) = some os ∧ rx_SndG P K l cy D g := by
        refine ⟨fun r' σ' => @ite _ (r' = q ∧ σ' = rx_ent q as (xpc, lv, st, hp, iv, cn, sn)) (Classical.propDecidable _) (some os) none, if_pos ⟨rfl, rfl⟩, ?_⟩
        intro r' _ _ σ' outs' h'
        by_cases hz : r' = q ∧ σ' = rx_ent q as (xpc, lv, st, hp, iv, cn, sn)
        · obtain ⟨rfl, rfl⟩ := hz
          have h2 := (@if_pos _ (Classical.propDecidable _) ⟨rfl, rfl⟩ _ (some os) none).symm.trans h'
          cases h2
          exact hat
        · have h2 := (@if_neg _ (Classical.propDecidable _) hz _ (some os) none).symm.trans h'
          cases h2
      obtain ⟨g, hg, hSnd⟩ := sh
      have hinv : ∀ stat : Bool, stat = Nat.beq kd 5 → rx_inv stat P g (fun _ σ' => some [σ']) r xpc na (Nat.div nb 4) lv st hp iv cn sn = some (os.map (rx_bh q rest (xpc, lv, st, hp, iv, cn, sn))) := by
        intro stat hst
        subst hst
        unfold rx_inv
        rw [hq]
        dsimp only
        rw [hs]
        dsimp only
        rw [hb4, cond_true]
        unfold rx_inv3
        have hg' : g q (0, rx_args as (rx_mL (rx_n q)), [], hp, iv, 0, 0) = some os := hg
        rw [hg']
        exact rx_all_map (rx_bh q rest (xpc, lv, st, hp, iv, cn, sn)) os
      have fin : ∀ (σ : rx_S) (o : List rx_S), (fun (_ : rx_M) (σ' : rx_S) => some [σ']) r σ = some o → (∀ y ∈ o, y ∈ os.map (rx_bh q rest (xpc, lv, st, hp, iv, cn, sn))) → rx_G p l e R s m args below meth c Q cy D b A H0 ad0 en0 nL σ := by
        intro σ o ho hsub
        cases ho
        obtain ⟨o', h1, h2⟩ := List.mem_map.mp (hsub σ List.mem_cons_self)
        rw [← h2]
        exact hG o' h1
      rcases rx_kd_or ins with hk | rfl | rfl | rfl | rfl | ⟨j, rfl⟩ | ⟨j, rfl⟩ | ⟨j, rfl⟩
      · rw [o2, hk] at b1; cases b1
      · rw [o2] at b1; cases b1
      · rw [o2] at b1; cases b1
      · rw [o2] at b1; cases b1
      · rw [o2] at b1; cases b1
      · exact rx_s_inv hP hSnd C hN hH0 hZt hA o1 o5 hn1 hn2 hn3 (Or.inl ⟨j, rfl, rfl⟩) (hinv false (by rw [o2]; rfl)) fin
      · exact rx_s_inv hP hSnd C hN hH0 hZt hA o1 o5 hn1 hn2 hn3 (Or.inr (Or.inl ⟨j, rfl, rfl⟩)) (hinv false (by rw [o2]; rfl)) fin
      · exact rx_s_inv hP hSnd C hN hH0 hZt hA o1 o5 hn1 hn2 hn3 (Or.inr (Or.inr ⟨j, rfl, rfl⟩)) (hinv true (by rw [o2]; rfl)) fin
end RXF
theorem rx_at_call {P : List rx_M} {K : rx_K} {l : Launch} {cy : Nat → ClassId} {D : va_G} (hP : ∀ q ∈ P, rx_QW q ∧ rx_ST P K q) {r q : rx_M} (hr : r ∈ P) {i : Nat} {as rest : List Nat} {os outs : List rx_O} {σ : rx_S}
    (hq : rx_nth P i = some q) (hc : rx_cal P r i σ = some (as, rest)) (hat : rx_At l cy D q (rx_ent q as σ) os) (hl : ∀ o ∈ os, rx_At l cy D r (rx_bh q rest σ o) outs) : rx_At l cy D r σ outs :=
  fun p e R s m args below meth c Q b A H0 ad0 en0 C hSc hA hret => rx_G_call hP (hP r hr).2 C hSc.2.1 hSc.2.2 hA rfl hq hc hat (fun o ho => hl o ho p e R s m args below meth c Q b A H0 ad0 en0 C hSc hA hret)
-- states that are alike
noncomputable def rx_eqL (a : List Nat) : List Nat → Bool := List.rec (motive := fun _ => List Nat → Bool) (fun b => match b with | [] => true | _ => false) (fun x _ ih b => match b with | y :: u => Nat.beq x y && ih u | [] => false) a
theorem rx_eqL_ok : ∀ {a b : List Nat}, rx_eqL a b = true → a = b
  | [], [], _ => rfl
  | [], _ :: _, h => by cases h
  | _ :: _, [], h => by cases h
  | x :: a, y :: b, h => by
    replace h : (Nat.beq x y && rx_eqL a b) = true := h
    obtain ⟨h1, h2⟩ := rx_and2.mp h
    rw [rx_beq.mp h1, rx_eqL_ok h2]
noncomputable def rx_eqI (a : rx_I) : rx_I → Bool := List.rec (motive := fun _ => rx_I → Bool) (fun b => match b with | [] => true | _ => false) (fun x _ ih b => match b with | y :: u => Nat.beq x.1 y.1 && (Nat.beq x.2 y.2 && ih u) | [] => false) a
theorem rx_eqI_ok : ∀ {a b : rx_I}, rx_eqI a b = true → a = b
  | [], [], _ => rfl
  | [], _ :: _, h => by cases h
  | _ :: _, [], h => by cases h
  | x :: a, y :: b, h => by
    replace h : (Nat.beq x.1 y.1 && (Nat.beq x.2 y.2 && rx_eqI a b)) = true := h
    obtain ⟨h1, h2⟩ := rx_and2.mp h
    obtain ⟨h2, h3⟩ := rx_and2.mp h2
    rw [rx_eqI_ok h3, Prod.ext (rx_beq.mp h1) (rx_beq.mp h2)]
noncomputable def rx_eqC (a b : Option rx_C) : Bool := match a, b with
  | none, none => true
  | some (t, n, l), some (u, k, f) => Nat.beq t u && (Nat.beq n k && rx_eqL l f)
  | _, _ => false
theorem rx_eqC_ok {a b : Option rx_C} (h : rx_eqC a b = true) : a = b := by
  match a, b, h with
  | none, none, _ => rfl
  | some (t, n, l), some (u, k, f), h =>
    replace h : (Nat.beq t u && (Nat.beq n k && rx_eqL l f)) = true := h
    obtain ⟨h1, h2⟩ := rx_and2.mp h
    obtain ⟨h2, h3⟩ := rx_and2.mp h2
    rw [rx_beq.mp h1, rx_beq.mp h2, rx_eqL_ok h3]
  | none, some _, h => cases h
  | some _, none, h => cases h
noncomputable def rx_eqT (n : Nat) : rx_T n → rx_T n → Bool := Nat.rec (motive := fun n => rx_T n → rx_T n → Bool) (fun a b => rx_eqC a b) (fun n ih (t u : rx_T n × rx_T n) => ih t.1 u.1 && ih t.2 u.2) n
theorem rx_eqT_ok : ∀ (n : Nat) (t u : rx_T n), rx_eqT n t u = true → t = u
  | 0, t, u, h => rx_eqC_ok (a := t) (b := u) h
  | n + 1, t, u, h => by
    have key : ∀ t u : rx_T n × rx_T n, (rx_eqT n t.1 u.1 && rx_eqT n t.2 u.2) = true → t = u := fun t u h => by
      obtain ⟨h1, h2⟩ := rx_and2.mp h
      exact Prod.ext (rx_eqT_ok n _ _ h1) (rx_eqT_ok n _ _ h2)
    exact key t u h
noncomputable def rx_eqS (a b : rx_S) : Bool := Nat.beq a.1 b.1 && (rx_eqL a.2.1 b.2.1 && (rx_eqL a.2.2.1 b.2.2.1 && (Nat.beq a.2.2.2.1.1 b.2.2.2.1.1 && (rx_eqT 8 a.2.2.2.1.2 b.2.2.2.1.2 && (rx_eqI a.2.2.2.2.1 b.2.2.2.2.1 && (Nat.beq a.2.2.2.2.2.1 b.2.2.2.2.2.1 && Nat.beq a.2.2.2.2.2.2 b.2.2.2.2.2.2))))))
theorem rx_eqS_ok {a b : rx_S} (h : rx_eqS a b = true) : a = b := by
  unfold rx_eqS at h
  obtain ⟨h1, h⟩ := rx_and2.mp h
  obtain ⟨h2, h⟩ := rx_and2.mp h
  obtain ⟨h3, h⟩ := rx_and2.mp h
  obtain ⟨h4, h⟩ := rx_and2.mp h
  obtain ⟨h5, h⟩ := rx_and2.mp h
  obtain ⟨h6, h⟩ := rx_and2.mp h
  obtain ⟨h7, h8⟩ := rx_and2.mp h
  exact Prod.ext (rx_beq.mp h1) (Prod.ext (rx_eqL_ok h2) (Prod.ext (rx_eqL_ok h3) (Prod.ext (Prod.ext (rx_beq.mp h4) (rx_eqT_ok 8 _ _ h5)) (Prod.ext (rx_eqI_ok h6) (Prod.ext (rx_beq.mp h7) (rx_beq.mp h8))))))
/-- one alone -/
noncomputable def rx_is1 {α : Type} (o : Option (List α)) : Bool := match o with
  | some [_] => true
  | _ => false
noncomputable def rx_get1 {α : Type} (d : α) (o : Option (List α)) : α := match o with
  | some [x] => x
  | _ => d
theorem rx_is1_ok {α : Type} {o : Option (List α)} (d : α) (h : rx_is1 o = true) : o = some [rx_get1 d o] := by
  match o, h with
  | none, h => cases h
  | some [], h => cases h
  | some [x], _ => rfl
  | some (_ :: _ :: _), h => cases h
noncomputable def rx_eq1 (o : Option (List rx_S)) (σ : rx_S) : Bool := match o with
  | some [τ] => rx_eqS τ σ
  | _ => false
theorem rx_eq1_ok {o : Option (List rx_S)} {σ : rx_S} (h : rx_eq1 o σ = true) : o = some [σ] := by
  match o, h with
  | none, h => cases h
  | some [], h => cases h
  | some [x], h => rw [rx_eqS_ok (a := x) (b := σ) h]
  | some (_ :: _ :: _), h => cases h
noncomputable def rx_isS {α : Type} (o : Option α) : Bool := match o with
  | some _ => true
  | none => false
noncomputable def rx_getS {α : Type} (d : α) (o : Option α) : α := match o with
  | some x => x
  | none => d
theorem rx_isS_ok {α : Type} {o : Option α} (d : α) (h : rx_isS o = true) : o = some (rx_getS d o) := by
  match o, h with
  | none, h => cases h
  | some x, _ => rfl
end
