/-! String.length, String.charAt of the class's words: their contracts, by the kit's rows -/
noncomputable def rx_rm (f lo : Nat) : Room := { frames := f, cells := 0, slots := 0, locals := lo }
noncomputable def rx_Zp (b : Nat → Nat) (asA : List Value) (sz : Nat) : Array Value → State → Prop := va_Pc asA (fun U => U.heap.size = sz ∧ rx_Zt b (fun q => sz ≤ q) U)
theorem rx_Zp_blind {b : Nat → Nat} {asA : List Value} {sz : Nat} : FrameBlind (rx_Zp b asA sz) := by
  intro a U g mk q
  obtain ⟨q0, q1, q2⟩ := q
  exact ⟨q0, q1, q2.blind⟩
noncomputable def rx_Zi (x : Int32) (sz : Nat) : Array Value → State → Outcome → State → Prop := va_Qi (S := Unit) (fun r _ => r = x) (fun _ _ => True) (fun q => sz ≤ q)
noncomputable def rx_Zv (sz : Nat) : Array Value → State → Outcome → State → Prop := va_Qv (S := Unit) (fun _ => True) (fun _ _ => True) (fun q => sz ≤ q)
section RXZ
variable {p : Program} {l : Launch} {e : Env} {R : Room} {s : State} {m : MethodId} {args : Array Value} {below : List Frame} {meth : Method} {c : Code} {Q : State → Prop}
variable {b : Nat → Nat} {A : Nat → Prop} {H : Heap} {locs : List Loc} {cells slots : Nat} {cc bytes : ByteArray} {nL index maxL f lo a pc : Nat} {own : String} {y : MethodName} {ret : Option FieldType} {x : Int32} {As rest : List Value} {ls : Array Slot}
theorem rx_zV (fix : CallFix p m c cc nL s args lw_G own) (hM : ∀ sz, Met l y (Jvm.Cond.code y bytes maxL ret :: lw_G) (rx_rm f lo) (rx_Zp b (.ref a :: As) sz) (rx_Zi x sz) 0 0 (fun q => sz ≤ q))
    (w1 : Jvm.Cond.methodLink own index y ∈ lw_G) (w2 : Jvm.Cond.instanceMethod y ∈ lw_G) (w3 : Jvm.Cond.selects y.cls y y ∈ lw_G) (w4 : Jvm.Cond.initialized y.cls ∈ lw_G) (w5 : Jvm.Cond.code y bytes maxL ret ∈ lw_G)
    (hd : y.cls ≠ "java/lang/invoke/MethodHandle" ∧ y.cls ≠ "java/lang/invoke/VarHandle" ∧ (parseMethodDescriptor y.desc).map (fun d => d.parameters.length) = some As.length) (hRm : f + 1 ≤ R.frames ∧ 8 + (maxL + 11) + lo ≤ R.locals)
    (hZ : rx_Zt b A s) (hS : va_S A s.heap H locs) (hA : ∀ z, s.heap.size ≤ z → A z) (hrec : ∃ cell : Cell, H[a]? = some cell ∧ cell.vm.isStatics = false ∧ s.vm.findClass y.cls = some cell.cls)
    (hsize : ls.size = nL) (hcat : (rest.map fun v => v.category).sum ≤ 8) (hf : cells ≤ R.cells ∧ slots ≤ R.slots) (hdg : decode cc pc = .ok (.invokevirtual index, 3))
    (kk : ∀ (H1 : Heap) (locs1 : List Loc), H.size ≤ H1.size → (∀ q : Nat, q < H.size → H1[q]? = H[q]?) → va_S A s.heap H1 locs1 → W p l e R s m args below meth c H1 locs1 cells slots Q (F0 m (pc + 3) ls (.int x :: rest))) : W p l e R s m args below meth c H locs cells slots Q (F0 m pc ls (As.reverse ++ .ref a :: rest)) := by
  have hG : GoodIn lw_G (wsV own index y.cls y (Jvm.Cond.code y bytes maxL ret :: lw_G)) := lw_G_good (fun w hw => by
    rcases List.mem_append.mp hw with hw | hw
    · simp only [List.mem_cons, List.not_mem_nil, or_false] at hw
      rcases hw with rfl | rfl | rfl | rfl
      · exact w1
      · exact w2
      · exact w3
      · exact w4
    · rcases List.mem_cons.mp hw with rfl | hw
      · exact w5
      · exact hw)
  have hroom : 2 * (F0 m pc ls (As.reverse ++ .ref a :: rest)).monitorRoom + (rest.map fun v => v.category).sum ≤ 8 := by
    show 2 * 0 + _ ≤ 8
    omega
  have hrun := va_runV (p := p) (l := l) (e := e) (R := R) (below := below) (meth := meth) (locs := locs) (cells := cells) (slots := slots) (g := F0 m pc ls (As.reverse ++ .ref a :: rest)) (As := As) (rest := rest) (b := a) (C := y.cls) fix (hM H.size) (cwV As.length fix.2.2.2.2 hG rfl rfl rfl ⟨rfl, hd⟩ hRm) ⟨rx_Zp_blind, hrec, fun U hU hW => ⟨rfl, by rw [hU], hZ.call hW hU hS (fun q hq => hA q (Nat.le_trans hS.1 hq))⟩⟩ rfl rfl hsize rfl hroom hdg hf
  refine va_calli hrun hS (fun q h1 h2 => absurd h1 (Nat.not_lt.mpr h2)) (fun q hq => hA q (Nat.le_trans hS.1 hq)) (fun r u t H1 locs1 e1 e2 hp _ hsz hk hS1 => ?_)
  have hp : r = x := hp
  subst hp
  exact kk H1 locs1 hsz (fun q hq => hk q hq (Nat.not_le.mpr hq)) hS1
theorem rx_zS (fix : CallFix p m c cc nL s args lw_G own) (hM : ∀ sz, Met l y (Jvm.Cond.code y bytes maxL ret :: lw_G) (rx_rm f lo) (rx_Zp b As sz) (rx_Zi x sz) 0 0 (fun q => sz ≤ q))
    (w1 : Jvm.Cond.methodLink own index y ∈ lw_G) (w2 : Jvm.Cond.static y ∈ lw_G) (w4 : Jvm.Cond.initialized y.cls ∈ lw_G) (w5 : Jvm.Cond.code y bytes maxL ret ∈ lw_G)
    (hd : y.cls ≠ "java/lang/invoke/MethodHandle" ∧ y.cls ≠ "java/lang/invoke/VarHandle" ∧ (parseMethodDescriptor y.desc).map (fun d => d.parameters.length) = some As.length) (hRm : f + 1 ≤ R.frames ∧ 8 + (maxL + 11) + lo ≤ R.locals)
    (hZ : rx_Zt b A s) (hS : va_S A s.heap H locs) (hA : ∀ z, s.heap.size ≤ z → A z)
    (hsize : ls.size = nL) (hcat : (rest.map fun v => v.category).sum ≤ 8) (hf : cells ≤ R.cells ∧ slots ≤ R.slots) (hdg : decode cc pc = .ok (.invokestatic index, 3))
    (kk : ∀ (H1 : Heap) (locs1 : List Loc), H.size ≤ H1.size → (∀ q : Nat, q < H.size → H1[q]? = H[q]?) → va_S A s.heap H1 locs1 → W p l e R s m args below meth c H1 locs1 cells slots Q (F0 m (pc + 3) ls (.int x :: rest))) : W p l e R s m args below meth c H locs cells slots Q (F0 m pc ls (As.reverse ++ rest)) := by
  have hG : GoodIn lw_G (va_wsS own index y (Jvm.Cond.code y bytes maxL ret :: lw_G)) := lw_G_good (fun w hw => by
    rcases List.mem_append.mp hw with hw | hw
    · simp only [List.mem_cons, List.not_mem_nil, or_false] at hw
      rcases hw with rfl | rfl | rfl
      · exact w1
      · exact w2
      · exact w4
    · rcases List.mem_cons.mp hw with rfl | hw
      · exact w5
      · exact hw)
  have hroom : 2 * (F0 m pc ls (As.reverse ++ rest)).monitorRoom + (rest.map fun v => v.category).sum ≤ 8 := by
    show 2 * 0 + _ ≤ 8
    omega
  have hrun := va_runS (p := p) (l := l) (e := e) (R := R) (below := below) (meth := meth) (locs := locs) (cells := cells) (slots := slots) (g := F0 m pc ls (As.reverse ++ rest)) (As := As) (rest := rest) fix (hM H.size) (va_cwS As.length fix.2.2.2.2 hG rfl rfl rfl hd hRm) ⟨rx_Zp_blind, fun U hU hW => ⟨rfl, by rw [hU], hZ.call hW hU hS (fun q hq => hA q (Nat.le_trans hS.1 hq))⟩⟩ rfl rfl hsize rfl hroom hdg hf
  refine va_calli hrun hS (fun q h1 h2 => absurd h1 (Nat.not_lt.mpr h2)) (fun q hq => hA q (Nat.le_trans hS.1 hq)) (fun r u t H1 locs1 e1 e2 hp _ hsz hk hS1 => ?_)
  have hp : r = x := hp
  subst hp
  exact kk H1 locs1 hsz (fun q hq => hk q hq (Nat.not_le.mpr hq)) hS1
theorem rx_zN (fix : CallFix p m c cc nL s args lw_G own) (hM : ∀ sz, Met l y (Jvm.Cond.code y bytes maxL ret :: lw_G) (rx_rm f lo) (rx_Zp b As sz) (rx_Zv sz) 0 0 (fun q => sz ≤ q))
    (w1 : Jvm.Cond.methodLink own index y ∈ lw_G) (w2 : Jvm.Cond.static y ∈ lw_G) (w4 : Jvm.Cond.initialized y.cls ∈ lw_G) (w5 : Jvm.Cond.code y bytes maxL ret ∈ lw_G)
    (hd : y.cls ≠ "java/lang/invoke/MethodHandle" ∧ y.cls ≠ "java/lang/invoke/VarHandle" ∧ (parseMethodDescriptor y.desc).map (fun d => d.parameters.length) = some As.length) (hRm : f + 1 ≤ R.frames ∧ 8 + (maxL + 11) + lo ≤ R.locals)
    (hZ : rx_Zt b A s) (hS : va_S A s.heap H locs) (hA : ∀ z, s.heap.size ≤ z → A z)
    (hsize : ls.size = nL) (hcat : (rest.map fun v => v.category).sum ≤ 8) (hf : cells ≤ R.cells ∧ slots ≤ R.slots) (hdg : decode cc pc = .ok (.invokestatic index, 3))
    (kk : ∀ (H1 : Heap) (locs1 : List Loc), H.size ≤ H1.size → (∀ q : Nat, q < H.size → H1[q]? = H[q]?) → va_S A s.heap H1 locs1 → W p l e R s m args below meth c H1 locs1 cells slots Q (F0 m (pc + 3) ls rest)) : W p l e R s m args below meth c H locs cells slots Q (F0 m pc ls (As.reverse ++ rest)) := by
  have hG : GoodIn lw_G (va_wsS own index y (Jvm.Cond.code y bytes maxL ret :: lw_G)) := lw_G_good (fun w hw => by
    rcases List.mem_append.mp hw with hw | hw
    · simp only [List.mem_cons, List.not_mem_nil, or_false] at hw
      rcases hw with rfl | rfl | rfl
      · exact w1
      · exact w2
      · exact w4
    · rcases List.mem_cons.mp hw with rfl | hw
      · exact w5
      · exact hw)
  have hroom : 2 * (F0 m pc ls (As.reverse ++ rest)).monitorRoom + (rest.map fun v => v.category).sum ≤ 8 := by
    show 2 * 0 + _ ≤ 8
    omega
  have hrun := va_runS (p := p) (l := l) (e := e) (R := R) (below := below) (meth := meth) (locs := locs) (cells := cells) (slots := slots) (g := F0 m pc ls (As.reverse ++ rest)) (As := As) (rest := rest) fix (hM H.size) (va_cwS As.length fix.2.2.2.2 hG rfl rfl rfl hd hRm) ⟨rx_Zp_blind, fun U hU hW => ⟨rfl, by rw [hU], hZ.call hW hU hS (fun q hq => hA q (Nat.le_trans hS.1 hq))⟩⟩ rfl rfl hsize rfl hroom hdg hf
  refine va_callv hrun hS (fun q h1 h2 => absurd h1 (Nat.not_lt.mpr h2)) (fun q hq => hA q (Nat.le_trans hS.1 hq)) (fun u t H1 locs1 e1 e2 hp _ hsz hk hS1 => ?_)
  exact kk H1 locs1 hsz (fun q hq => hk q hq (Nat.not_le.mpr hq)) hS1
end RXZ
theorem rx_z_num : ∀ n, n < 9 → ∀ k, k < n → (¬ (Int32.ofNat k < 0)) ∧ Int32.ofNat k < Int32.ofNat n ∧ (Int32.ofNat k).toNatClampNeg = k := by decide +kernel
theorem rx_z_lt9 : ∀ i, i < 8 → rx_sln.getD i 0 < 9 := by decide +kernel
theorem rx_z_byte : ∀ i, i < 8 → ∀ k, k < rx_sln.getD i 0 → (((rx_sb32.getD i []).getD k 0 &&& 255).toUInt32 % 65536).toInt32 = (rx_sb32.getD i []).getD k 0 ∧ ((rx_sb32.getD i []).getD k 0).toUInt32.toUInt16.toUInt32.toInt32 = (rx_sb32.getD i []).getD k 0 := by decide +kernel
theorem rx_z_coder {l : Launch} {b : Nat → Nat} {i : Nat} (hi : i < 8) : ∀ sz, Met l yJ0_coder_7d493 (Jvm.Cond.code yJ0_coder_7d493 cJ0_coder_7d493 1 (some .byte) :: lw_G) (rx_rm 0 0) (rx_Zp b [Value.ref (b (i + 1))] sz) (rx_Zi 0 sz) 0 0 (fun q => sz ≤ q) := by
  intro sz
  refine Met.ofW (cc := cJ0_coder_7d493) (maxL := 1) (ret := (some .byte)) (by decide) rfl ?_
  intro p e s m args below meth c s₁ B hml hv
  obtain ⟨rfl, hsz, hZ⟩ := hv
  have hx := B.exec
  have hb := B.bytes
  have hr := B.returns
  have hts : ∀ w ∈ lw_G, w.before _ s = true := fun w hw => atoms_spec (ws := Jvm.Cond.code yJ0_coder_7d493 cJ0_coder_7d493 1 (some .byte) :: lw_G) B.pre w (List.mem_cons_of_mem _ hw)
  have hown : s.vm.findClass RJ0 = some m.cls := findClass_of_methodNamed B.named
  have hlocks := B.notSynchronized
  subst hsz
  have hl := lv_entry [Value.ref (b (i + 1))] (n := 1) (by simp [lg_sl, Value.category])
  rw [lg_entry_eq]
  generalize (lg_sl [Value.ref (b (i + 1))] ++ List.replicate (1 - (lg_sl [Value.ref (b (i + 1))]).length) Slot.unset).toArray = ls at hl ⊢
  have hA : ∀ z, s.heap.size ≤ z → s.heap.size ≤ z := fun _ h => h
  have S0 : va_S (fun q => s.heap.size ≤ q) s.heap s.heap [] := va_S.rf
  have l0 : ls[0]? = some (.val (Value.ref (b (i + 1)))) := hl.2.2 (0, Value.ref (b (i + 1))) (by simp [lv_args, Value.category])
  refine va_gets hx hb hZ.2.2.1 S0 hown (hts _ rx_w_f_cs) (fun _ h => h) rx_d_coder_0 ?_
  refine lv_if_eq hx hb (tgt := 13) rx_d_coder_3 (by decide) (fun z => absurd z (by decide)) (fun _ => ?_)
  refine lv_aload_n hx hb rx_d_coder_6 rfl l0 ?_
  refine vk_getf hx hb (hZ.1.1 i hi).2.1 S0 hown (hts _ rx_w_f_coder) (fun _ h => h) rx_d_coder_7 ?_
  refine lv_goto hx hb (tgt := 14) rx_d_coder_10 (by decide) ?_
  exact W.zret hx hb hr rfl (fun t ht hW => ⟨⟨_, (), rfl, rfl, trivial⟩, S0.F ht⟩) S0.2.2 rx_d_coder_14
theorem rx_z_lat {l : Launch} {b : Nat → Nat} {i : Nat} (hi : i < 8) : ∀ sz, Met l yJ0_isLatin1_aae02 (Jvm.Cond.code yJ0_isLatin1_aae02 cJ0_isLatin1_aae02 1 (some .boolean) :: lw_G) (rx_rm 0 0) (rx_Zp b [Value.ref (b (i + 1))] sz) (rx_Zi 1 sz) 0 0 (fun q => sz ≤ q) := by
  intro sz
  refine Met.ofW (cc := cJ0_isLatin1_aae02) (maxL := 1) (ret := (some .boolean)) (by decide) rfl ?_
  intro p e s m args below meth c s₁ B hml hv
  obtain ⟨rfl, hsz, hZ⟩ := hv
  have hx := B.exec
  have hb := B.bytes
  have hr := B.returns
  have hts : ∀ w ∈ lw_G, w.before _ s = true := fun w hw => atoms_spec (ws := Jvm.Cond.code yJ0_isLatin1_aae02 cJ0_isLatin1_aae02 1 (some .boolean) :: lw_G) B.pre w (List.mem_cons_of_mem _ hw)
  have hown : s.vm.findClass RJ0 = some m.cls := findClass_of_methodNamed B.named
  have hlocks := B.notSynchronized
  subst hsz
  have hl := lv_entry [Value.ref (b (i + 1))] (n := 1) (by simp [lg_sl, Value.category])
  rw [lg_entry_eq]
  generalize (lg_sl [Value.ref (b (i + 1))] ++ List.replicate (1 - (lg_sl [Value.ref (b (i + 1))]).length) Slot.unset).toArray = ls at hl ⊢
  have hA : ∀ z, s.heap.size ≤ z → s.heap.size ≤ z := fun _ h => h
  have S0 : va_S (fun q => s.heap.size ≤ q) s.heap s.heap [] := va_S.rf
  have l0 : ls[0]? = some (.val (Value.ref (b (i + 1)))) := hl.2.2 (0, Value.ref (b (i + 1))) (by simp [lv_args, Value.category])
  refine va_gets hx hb hZ.2.2.1 S0 hown (hts _ rx_w_f_cs) (fun _ h => h) rx_d_lat_0 ?_
  refine lv_if_eq hx hb (tgt := 17) rx_d_lat_3 (by decide) (fun z => absurd z (by decide)) (fun _ => ?_)
  refine lv_aload_n hx hb rx_d_lat_6 rfl l0 ?_
  refine vk_getf hx hb (hZ.1.1 i hi).2.1 S0 hown (hts _ rx_w_f_coder) (fun _ h => h) rx_d_lat_7 ?_
  refine lv_if_ne hx hb (tgt := 17) rx_d_lat_10 (by decide) (fun z => absurd rfl z) (fun _ => ?_)
  refine lv_iconst hx hb (v := 1) rx_d_lat_13 (by decide) ?_
  refine lv_goto hx hb (tgt := 18) rx_d_lat_14 (by decide) ?_
  exact W.zret hx hb hr rfl (fun t ht hW => ⟨⟨_, (), rfl, rfl, trivial⟩, S0.F ht⟩) S0.2.2 rx_d_lat_18
theorem rx_z_pci {l : Launch} {b : Nat → Nat} {x y : Int32} {v : Value} (hv1 : v.category = 1) (hx0 : ¬ x < 0) (hxy : x < y) : ∀ sz, Met l yJ3_checkIndex_8e157 (Jvm.Cond.code yJ3_checkIndex_8e157 cJ3_checkIndex_8e157 3 (some .int) :: lw_G) (rx_rm 0 0) (rx_Zp b [Value.int x, Value.int y, v] sz) (rx_Zi x sz) 0 0 (fun q => sz ≤ q) := by
  intro sz
  refine Met.ofW (cc := cJ3_checkIndex_8e157) (maxL := 3) (ret := (some .int)) (by decide) rfl ?_
  intro p e s m args below meth c s₁ B hml hv
  obtain ⟨rfl, hsz, hZ⟩ := hv
  have hx := B.exec
  have hb := B.bytes
  have hr := B.returns
  have hts : ∀ w ∈ lw_G, w.before _ s = true := fun w hw => atoms_spec (ws := Jvm.Cond.code yJ3_checkIndex_8e157 cJ3_checkIndex_8e157 3 (some .int) :: lw_G) B.pre w (List.mem_cons_of_mem _ hw)
  have hown : s.vm.findClass RJ3 = some m.cls := findClass_of_methodNamed B.named
  have hlocks := B.notSynchronized
  subst hsz
  have hl := lv_entry [Value.int x, Value.int y, v] (n := 3) (by have h1 : (Value.int x).category = 1 := rfl; have h2 : (Value.int y).category = 1 := rfl; simp [lg_sl, h1, h2, hv1])
  rw [lg_entry_eq]
  generalize (lg_sl [Value.int x, Value.int y, v] ++ List.replicate (3 - (lg_sl [Value.int x, Value.int y, v]).length) Slot.unset).toArray = ls at hl ⊢
  have hA : ∀ z, s.heap.size ≤ z → s.heap.size ≤ z := fun _ h => h
  have S0 : va_S (fun q => s.heap.size ≤ q) s.heap s.heap [] := va_S.rf
  have l0 : ls[0]? = some (.val (Value.int x)) := hl.2.2 (0, Value.int x) (by simp [lv_args, Value.category])
  have l1 : ls[1]? = some (.val (Value.int y)) := hl.2.2 (1, Value.int y) (by simp [lv_args, Value.category])
  refine lv_iload_n hx hb rx_d_pci_0 rfl l0 ?_
  refine lv_if_lt hx hb (tgt := 9) rx_d_pci_1 (by decide) (fun z => absurd z hx0) (fun _ => ?_)
  refine lv_iload_n hx hb rx_d_pci_4 rfl l0 ?_
  refine lv_iload_n hx hb rx_d_pci_5 rfl l1 ?_
  refine lv_icmp_lt hx hb (tgt := 16) rx_d_pci_6 (by decide) (fun _ => ?_) (fun z => absurd hxy z)
  refine lv_iload_n hx hb rx_d_pci_16 rfl l0 ?_
  exact W.iret hx hb hr (fun t ht hW => ⟨⟨_, (), rfl, rfl, trivial⟩, S0.F ht⟩) S0.2.2 rx_d_pci_17
theorem rx_z_shr (x : Int32) : x >>> ((0 : Int32) &&& 31) = x := by simp
theorem rx_z_len {l : Launch} {b : Nat → Nat} {i : Nat} (hi : i < 8) : ∀ sz, Met l yJ0_length_8abf5 (Jvm.Cond.code yJ0_length_8abf5 cJ0_length_8abf5 1 (some .int) :: lw_G) (rx_rm 1 40) (rx_Zp b [Value.ref (b (i + 1))] sz) (rx_Zi (Int32.ofNat (rx_sln.getD i 0)) sz) 0 0 (fun q => sz ≤ q) := by
  intro sz
  refine Met.ofW (cc := cJ0_length_8abf5) (maxL := 1) (ret := (some .int)) (by decide) rfl ?_
  intro p e s m args below meth c s₁ B hml hv
  obtain ⟨rfl, hsz, hZ⟩ := hv
  have hx := B.exec
  have hb := B.bytes
  have hr := B.returns
  have hts : ∀ w ∈ lw_G, w.before _ s = true := fun w hw => atoms_spec (ws := Jvm.Cond.code yJ0_length_8abf5 cJ0_length_8abf5 1 (some .int) :: lw_G) B.pre w (List.mem_cons_of_mem _ hw)
  have hown : s.vm.findClass RJ0 = some m.cls := findClass_of_methodNamed B.named
  have hlocks := B.notSynchronized
  subst hsz
  have hl := lv_entry [Value.ref (b (i + 1))] (n := 1) (by simp [lg_sl, Value.category])
  rw [lg_entry_eq]
  generalize (lg_sl [Value.ref (b (i + 1))] ++ List.replicate (1 - (lg_sl [Value.ref (b (i + 1))]).length) Slot.unset).toArray = ls at hl ⊢
  have hA : ∀ z, s.heap.size ≤ z → s.heap.size ≤ z := fun _ h => h
  have S0 : va_S (fun q => s.heap.size ≤ q) s.heap s.heap [] := va_S.rf
  have l0 : ls[0]? = some (.val (Value.ref (b (i + 1)))) := hl.2.2 (0, Value.ref (b (i + 1))) (by simp [lv_args, Value.category])
  have rc := vk_recv (i := i) hZ.1 hi S0
  refine lv_aload_n hx hb rx_d_len_0 rfl l0 ?_
  refine vk_getf hx hb (hZ.1.1 i hi).2.2.1 S0 hown (hts _ rx_w_f_val) (fun _ h => h) rx_d_len_1 ?_
  refine va_tlen hx hb (hZ.1.1 i hi).2.2.2 S0 rfl rx_d_len_4 ?_
  refine lv_aload_n hx hb rx_d_len_5 rfl l0 ?_
  refine rx_zV (As := []) (rest := [.int (Int32.ofNat (rx_sln.getD i 0))]) ⟨hx, hb, hml, hown, hts⟩ (rx_z_coder hi) rx_w_l_coder rx_w_i_coder rx_w_s_coder rx_w_n_0 rx_w_c_coder ⟨by decide, by decide, by show _ = some 0; decide +kernel⟩ ⟨by decide, by decide⟩ hZ S0 hA rc hl.1 (by simp [Value.category]) ⟨Nat.le_refl _, Nat.le_refl _⟩ rx_d_len_6 (fun H1 locs1 _ _ hS1 => ?_)
  refine lv_ishr hx hb rx_d_len_9 ?_
  exact W.iret hx hb hr (fun t ht hW => ⟨⟨_, (), rfl, rx_z_shr _, trivial⟩, hS1.F ht⟩) hS1.2.2 rx_d_len_10
theorem rx_z_ci {l : Launch} {b : Nat → Nat} {x y : Int32} (hx0 : ¬ x < 0) (hxy : x < y) : ∀ sz, Met l yJ0_checkIndex_df160 (Jvm.Cond.code yJ0_checkIndex_df160 cJ0_checkIndex_df160 2 none :: lw_G) (rx_rm 1 40) (rx_Zp b [Value.int x, Value.int y] sz) (rx_Zv sz) 0 0 (fun q => sz ≤ q) := by
  intro sz
  refine Met.ofW (cc := cJ0_checkIndex_df160) (maxL := 2) (ret := none) (by decide) rfl ?_
  intro p e s m args below meth c s₁ B hml hv
  obtain ⟨rfl, hsz, hZ⟩ := hv
  have hx := B.exec
  have hb := B.bytes
  have hr := B.returns
  have hts : ∀ w ∈ lw_G, w.before _ s = true := fun w hw => atoms_spec (ws := Jvm.Cond.code yJ0_checkIndex_df160 cJ0_checkIndex_df160 2 none :: lw_G) B.pre w (List.mem_cons_of_mem _ hw)
  have hown : s.vm.findClass RJ0 = some m.cls := findClass_of_methodNamed B.named
  have hlocks := B.notSynchronized
  subst hsz
  have hl := lv_entry [Value.int x, Value.int y] (n := 2) (by simp [lg_sl, Value.category])
  rw [lg_entry_eq]
  generalize (lg_sl [Value.int x, Value.int y] ++ List.replicate (2 - (lg_sl [Value.int x, Value.int y]).length) Slot.unset).toArray = ls at hl ⊢
  have hA : ∀ z, s.heap.size ≤ z → s.heap.size ≤ z := fun _ h => h
  have S0 : va_S (fun q => s.heap.size ≤ q) s.heap s.heap [] := va_S.rf
  have l0 : ls[0]? = some (.val (Value.int x)) := hl.2.2 (0, Value.int x) (by simp [lv_args, Value.category])
  have l1 : ls[1]? = some (.val (Value.int y)) := hl.2.2 (1, Value.int y) (by simp [lv_args, Value.category])
  refine lv_iload_n hx hb rx_d_ci_0 rfl l0 ?_
  refine lv_iload_n hx hb rx_d_ci_1 rfl l1 ?_
  have fin : ∀ v : Value, v.category = 1 → va_Z "jdk/internal/util/Preconditions" "SIOOBE_FORMATTER" "Ljava/util/function/BiFunction;" v (fun q => s.heap.size ≤ q) s s.heap → W p l e (headSpec (Jvm.Cond.code yJ0_checkIndex_df160 cJ0_checkIndex_df160 2 none :: lw_G) (rx_rm 1 40)).room s m [Value.int x, Value.int y].toArray below meth c s.heap [] 0 0 (MQ below (rx_Zv s.heap.size) [Value.int x, Value.int y].toArray s 0 0 (fun q => s.heap.size ≤ q)) (F0 m 2 ls [.int y, .int x]) := by
    intro v hv1 hv
    refine va_gets hx hb hv S0 hown (hts _ rx_w_f_fmt) (fun _ h => h) rx_d_ci_2 ?_
    refine rx_zS (As := [.int x, .int y, v]) (rest := []) ⟨hx, hb, hml, hown, hts⟩ (rx_z_pci hv1 hx0 hxy) rx_w_l_pci rx_w_t_pci rx_w_n_3 rx_w_c_pci ⟨by decide, by decide, by show _ = some 3; decide +kernel⟩ ⟨by decide, by decide⟩ hZ S0 hA hl.1 (by simp [Value.category]) ⟨Nat.le_refl _, Nat.le_refl _⟩ rx_d_ci_5 (fun H1 locs1 _ _ hS1 => ?_)
    refine lv_pop hx hb rx_d_ci_8 rfl ?_
    exact W.vret hx hb hr (fun t ht hW => ⟨⟨(), rfl, trivial, trivial⟩, hS1.F ht⟩) hS1.2.2 rx_d_ci_9
  rcases hZ.2.2.2 with hv | ⟨t, hv⟩
  · exact fin _ rfl hv
  · exact fin _ rfl hv
theorem rx_z_lca {l : Launch} {b : Nat → Nat} {i k : Nat} (hi : i < 8) (hk : k < rx_sln.getD i 0) : ∀ sz, Met l yJ1_charAt_3b067 (Jvm.Cond.code yJ1_charAt_3b067 cJ1_charAt_3b067 2 (some .char) :: lw_G) (rx_rm 2 80) (rx_Zp b [Value.ref (b (i + 9)), Value.int (Int32.ofNat k)] sz) (rx_Zi ((rx_sb32.getD i []).getD k 0) sz) 0 0 (fun q => sz ≤ q) := by
  intro sz
  refine Met.ofW (cc := cJ1_charAt_3b067) (maxL := 2) (ret := (some .char)) (by decide) rfl ?_
  intro p e s m args below meth c s₁ B hml hv
  obtain ⟨rfl, hsz, hZ⟩ := hv
  have hx := B.exec
  have hb := B.bytes
  have hr := B.returns
  have hts : ∀ w ∈ lw_G, w.before _ s = true := fun w hw => atoms_spec (ws := Jvm.Cond.code yJ1_charAt_3b067 cJ1_charAt_3b067 2 (some .char) :: lw_G) B.pre w (List.mem_cons_of_mem _ hw)
  have hown : s.vm.findClass RJ1 = some m.cls := findClass_of_methodNamed B.named
  have hlocks := B.notSynchronized
  subst hsz
  have hl := lv_entry [Value.ref (b (i + 9)), Value.int (Int32.ofNat k)] (n := 2) (by simp [lg_sl, Value.category])
  rw [lg_entry_eq]
  generalize (lg_sl [Value.ref (b (i + 9)), Value.int (Int32.ofNat k)] ++ List.replicate (2 - (lg_sl [Value.ref (b (i + 9)), Value.int (Int32.ofNat k)]).length) Slot.unset).toArray = ls at hl ⊢
  have hA : ∀ z, s.heap.size ≤ z → s.heap.size ≤ z := fun _ h => h
  have S0 : va_S (fun q => s.heap.size ≤ q) s.heap s.heap [] := va_S.rf
  have l0 : ls[0]? = some (.val (Value.ref (b (i + 9)))) := hl.2.2 (0, Value.ref (b (i + 9))) (by simp [lv_args, Value.category])
  have l1 : ls[1]? = some (.val (Value.int (Int32.ofNat k))) := hl.2.2 (1, Value.int (Int32.ofNat k)) (by simp [lv_args, Value.category])
  obtain ⟨n1, n2, n3⟩ := rx_z_num _ (rx_z_lt9 i hi) k hk
  refine lv_iload_n hx hb rx_d_lca_0 rfl l1 ?_
  refine lv_aload_n hx hb rx_d_lca_1 rfl l0 ?_
  refine va_tlen hx hb (hZ.1.1 i hi).2.2.2 S0 rfl rx_d_lca_2 ?_
  refine rx_zN (As := [.int (Int32.ofNat k), .int (Int32.ofNat (rx_sln.getD i 0))]) (rest := []) ⟨hx, hb, hml, hown, hts⟩ (rx_z_ci n1 n2) rx_w_l_ci rx_w_t_ci rx_w_n_0 rx_w_c_ci ⟨by decide, by decide, by show _ = some 2; decide +kernel⟩ ⟨by decide, by decide⟩ hZ S0 hA hl.1 (by simp [Value.category]) ⟨Nat.le_refl _, Nat.le_refl _⟩ rx_d_lca_3 (fun H1 locs1 _ _ hS1 => ?_)
  refine lv_aload_n hx hb rx_d_lca_6 rfl l0 ?_
  refine lv_iload_n hx hb rx_d_lca_7 rfl l1 ?_
  refine va_tb hx hb (hZ.1.1 i hi).2.2.2 hS1 (v := .int ((rx_sb32.getD i []).getD k 0)) (fun z => by rcases z with z | z; exact n1 z; omega) (by rw [n3]) rx_d_lca_8 ?_
  refine lv_sipush hx hb (v := 255) rx_d_lca_9 (by decide) ?_
  refine lv_iand hx hb rx_d_lca_12 ?_
  refine lv_i2c hx hb rx_d_lca_13 (rx_z_byte i hi k hk).1 ?_
  exact W.zret hx hb hr (congrArg Value.int (rx_z_byte i hi k hk).2) (fun t ht hW => ⟨⟨_, (), rfl, rfl, trivial⟩, hS1.F ht⟩) hS1.2.2 rx_d_lca_14
theorem rx_z_ca {l : Launch} {b : Nat → Nat} {i k : Nat} (hi : i < 8) (hk : k < rx_sln.getD i 0) : ∀ sz, Met l yJ0_charAt_5068e (Jvm.Cond.code yJ0_charAt_5068e cJ0_charAt_5068e 2 (some .char) :: lw_G) (rx_rm 3 120) (rx_Zp b [Value.ref (b (i + 1)), Value.int (Int32.ofNat k)] sz) (rx_Zi ((rx_sb32.getD i []).getD k 0) sz) 0 0 (fun q => sz ≤ q) := by
  intro sz
  refine Met.ofW (cc := cJ0_charAt_5068e) (maxL := 2) (ret := (some .char)) (by decide) rfl ?_
  intro p e s m args below meth c s₁ B hml hv
  obtain ⟨rfl, hsz, hZ⟩ := hv
  have hx := B.exec
  have hb := B.bytes
  have hr := B.returns
  have hts : ∀ w ∈ lw_G, w.before _ s = true := fun w hw => atoms_spec (ws := Jvm.Cond.code yJ0_charAt_5068e cJ0_charAt_5068e 2 (some .char) :: lw_G) B.pre w (List.mem_cons_of_mem _ hw)
  have hown : s.vm.findClass RJ0 = some m.cls := findClass_of_methodNamed B.named
  have hlocks := B.notSynchronized
  subst hsz
  have hl := lv_entry [Value.ref (b (i + 1)), Value.int (Int32.ofNat k)] (n := 2) (by simp [lg_sl, Value.category])
  rw [lg_entry_eq]
  generalize (lg_sl [Value.ref (b (i + 1)), Value.int (Int32.ofNat k)] ++ List.replicate (2 - (lg_sl [Value.ref (b (i + 1)), Value.int (Int32.ofNat k)]).length) Slot.unset).toArray = ls at hl ⊢
  have hA : ∀ z, s.heap.size ≤ z → s.heap.size ≤ z := fun _ h => h
  have S0 : va_S (fun q => s.heap.size ≤ q) s.heap s.heap [] := va_S.rf
  have l0 : ls[0]? = some (.val (Value.ref (b (i + 1)))) := hl.2.2 (0, Value.ref (b (i + 1))) (by simp [lv_args, Value.category])
  have l1 : ls[1]? = some (.val (Value.int (Int32.ofNat k))) := hl.2.2 (1, Value.int (Int32.ofNat k)) (by simp [lv_args, Value.category])
  have rc := vk_recv (i := i) hZ.1 hi S0
  refine lv_aload_n hx hb rx_d_ca_0 rfl l0 ?_
  refine rx_zV (As := []) (rest := []) ⟨hx, hb, hml, hown, hts⟩ (rx_z_lat hi) rx_w_l_lat rx_w_i_lat rx_w_s_lat rx_w_n_0 rx_w_c_lat ⟨by decide, by decide, by show _ = some 0; decide +kernel⟩ ⟨by decide, by decide⟩ hZ S0 hA rc hl.1 (by simp [Value.category]) ⟨Nat.le_refl _, Nat.le_refl _⟩ rx_d_ca_1 (fun H1 locs1 _ _ hS1 => ?_)
  refine lv_if_eq hx hb (tgt := 16) rx_d_ca_4 (by decide) (fun z => absurd z (by decide)) (fun _ => ?_)
  refine lv_aload_n hx hb rx_d_ca_7 rfl l0 ?_
  refine vk_getf hx hb (hZ.1.1 i hi).2.2.1 hS1 hown (hts _ rx_w_f_val) (fun _ h => h) rx_d_ca_8 ?_
  refine lv_iload_n hx hb rx_d_ca_11 rfl l1 ?_
  refine rx_zS (As := [.ref (b (i + 9)), .int (Int32.ofNat k)]) (rest := []) ⟨hx, hb, hml, hown, hts⟩ (rx_z_lca hi hk) rx_w_l_lca rx_w_t_lca rx_w_n_1 rx_w_c_lca ⟨by decide, by decide, by show _ = some 2; decide +kernel⟩ ⟨by decide, by decide⟩ hZ hS1 hA hl.1 (by simp [Value.category]) ⟨Nat.le_refl _, Nat.le_refl _⟩ rx_d_ca_12 (fun H2 locs2 _ _ hS2 => ?_)
  exact W.zret hx hb hr (congrArg Value.int (rx_z_byte i hi k hk).2) (fun t ht hW => ⟨⟨_, (), rfl, rfl, trivial⟩, hS2.F ht⟩) hS2.2.2 rx_d_ca_15
