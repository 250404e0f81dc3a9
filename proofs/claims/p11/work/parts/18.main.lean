/-- a return of the interpreter, and what the machine does there -/
noncomputable def rx_Ret (p : Program) (l : Launch) (e : Env) (R : Room) (s : State) (m : MethodId) (args : Array Value) (below : List Frame) (meth : Method) (c : Code) (Q : State → Prop) (cy : Nat → ClassId) (D : va_G) (b : Nat → Nat) (A : Nat → Prop) (H0 : Heap) (ad0 : List Nat) (en0 : List Int32) (r : rx_M) (o : rx_O) : Prop :=
  ∀ (ad : List Nat) (en : List Int32) (ls : Array Slot) (stA : List Value) (H : Heap) (locs : List Loc) (ws : va_W) (cn sn pc : Nat),
    ((rx_rk (rx_n r) = 0 ∧ decode (rx_b r) pc = .ok (.return_, 1) ∧ stA = []) ∨ ((rx_rk (rx_n r) = 1 ∨ rx_rk (rx_n r) = 2) ∧ decode (rx_b r) pc = .ok (.ireturn, 1) ∧ ∃ x : Int32, stA = [.int x] ∧ rx_cv b ad en o.1 = some (.int x) ∧ (rx_rk (rx_n r) = 2 → x = 0 ∨ x = 1)) ∨ (rx_rk (rx_n r) = 3 ∧ decode (rx_b r) pc = .ok (.lreturn, 1) ∧ ∃ x : Int64, stA = [.long x] ∧ rx_cv b ad en o.1 = some (.long x)) ∨ (rx_rk (rx_n r) = 4 ∧ decode (rx_b r) pc = .ok (.areturn, 1) ∧ ∃ x : Value, stA = [x] ∧ (x = .null ∨ ∃ a, x = .ref a) ∧ rx_cv b ad en o.1 = some x)) →
    ad0 <+: ad → en0 <+: en → rx_RW cy b ad en o.2.1 ws → va_P D vwCl ws H → va_D A ws → va_S A H0 H locs → rx_RI o.2.2 en → cn ≤ rx_rc (rx_n r) → sn ≤ rx_rs (rx_n r) → W p l e R s m args below meth c H locs cn sn Q (F0 m pc ls stA)
/-- from a state of a method on: the machine comes to one of these ends -/
noncomputable def rx_At (l : Launch) (cy : Nat → ClassId) (D : va_G) (r : rx_M) (σ : rx_S) (outs : List rx_O) : Prop :=
  ∀ (p : Program) (e : Env) (R : Room) (s : State) (m : MethodId) (args : Array Value) (below : List Frame) (meth : Method) (c : Code) (Q : State → Prop) (b : Nat → Nat) (A : Nat → Prop) (H0 : Heap) (ad0 : List Nat) (en0 : List Int32),
    rx_Cx cy D r p R s m args meth c → rx_Sc (rx_n r) b A H0 en0 s → (∀ q, H0.size ≤ q → A q) → (∀ o ∈ outs, rx_Ret p l e R s m args below meth c Q cy D b A H0 ad0 en0 r o) → rx_G p l e R s m args below meth c Q cy D b A H0 ad0 en0 (rx_mL (rx_n r)) σ
/-- what a way of running methods must keep -/
noncomputable def rx_SndG (P : List rx_M) (K : rx_K) (l : Launch) (cy : Nat → ClassId) (D : va_G) (g : rx_M → rx_S → Option (List rx_O)) : Prop :=
  ∀ (r : rx_M), rx_ST P K r → rx_rkt (rx_rk (rx_n r)) (rx_rt r) → ∀ (σ : rx_S) (outs : List rx_O), g r σ = some outs → rx_At l cy D r σ outs
/-- the interpreter's run of n steps says what the machine does -/
noncomputable def rx_Snd (P : List rx_M) (K : rx_K) (l : Launch) (cy : Nat → ClassId) (D : va_G) (n : Nat) : Prop := rx_SndG P K l cy D (rx_run P K n)
set_option maxHeartbeats 1000000 in
/-- a method's contract -/
theorem rx_met {l : Launch} {cy : Nat → ClassId} {D : va_G} {q : rx_M} (hQ : rx_QW q) {as : List Nat} {hp : rx_H} {iv : rx_I} {outs : List rx_O} (hat : rx_At l cy D q (0, rx_args as (rx_mL (rx_n q)), [], hp, iv, 0, 0) outs)
    {b : Nat → Nat} {ad : List Nat} {en : List Int32} {asA : List Value} {ws : va_W} (sz : Nat) (has : as.map (rx_cv b ad en) = asA.map some) (hcat : rx_cat as ≤ rx_mL (rx_n q)) (hRW : rx_RW cy b ad en hp ws) (hRI : rx_RI iv en) :
    Met l (rx_y q) (rx_ws q) (rx_room q) (rx_Pc cy D b asA ws sz) (rx_Qc cy D b ad en (va_A ws sz) (rx_rk (rx_n q)) outs) (rx_rc (rx_n q)) (rx_rs (rx_n q)) (va_A ws sz) := by
  obtain ⟨w1, w2, w3, w4, w5, w6, w7, w8⟩ := hQ
  refine Met.ofW (cc := rx_b q) (maxL := rx_mL (rx_n q)) (ret := rx_rt q) w1 rfl ?_
  intro p e s m args below meth c s₁ B hml hv
  obtain ⟨rfl, hsz, hPw, hK, hD0, hN, hAO, hZt⟩ := hv
  have hx := B.exec
  have hb := B.bytes
  have hr := B.returns
  have hts := atoms_spec (ws := rx_ws q) B.pre
  have hown : s.vm.findClass (rx_y q).cls = some m.cls := findClass_of_methodNamed B.named
  have hlocks := B.notSynchronized
  have hin : meth.name = (rx_y q).name := (name_of_methodNamed B.named B.method).1
  subst hsz
  have hD := hD0.self (sz := s.heap.size)
  have hA : ∀ z : Nat, s.heap.size ≤ z → va_A ws s.heap.size z := fun z h => Or.inr h
  have C : rx_Cx cy D q p (headSpec (rx_ws q) (rx_room q)).room s m asA.toArray meth c := ⟨hx, hb, hr, hml, hown, fun w hw => hts w (List.mem_cons_of_mem _ hw), hlocks, (fun z => hin.trans z), hK, hN, hAO, Nat.le_refl _, Nat.le_refl _, Nat.le_refl _, Nat.le_refl _⟩
  have hSc : rx_Sc (rx_n q) b (va_A ws s.heap.size) s.heap en s := ⟨fun L hL => (by rw [w7] at hL; cases hL), rfl, hZt⟩
  have hl := lv_entry asA (n := rx_mL (rx_n q)) (by rw [rx_lg_sl has]; exact hcat)
  rw [lg_entry_eq]
  generalize (lg_sl asA ++ List.replicate (rx_mL (rx_n q) - (lg_sl asA).length) Slot.unset).toArray = ls at hl ⊢
  obtain ⟨ha1, ha2⟩ := rx_args_ok (n := rx_mL (rx_n q)) (off := 0) has hcat
  have hRL : rx_RL b ad en (rx_mL (rx_n q)) (rx_args as (rx_mL (rx_n q))) ls := ⟨ha1, hl.1, hl.2.1, fun i v hv h2 => by
    obtain ⟨x, h3, h4⟩ := ha2 i v hv h2
    exact ⟨x, h3, by have := hl.2.2 _ h4; rwa [Nat.zero_add] at this⟩⟩
  have G := hat p e (headSpec (rx_ws q) (rx_room q)).room s m asA.toArray below meth c (MQ below (rx_Qc cy D b ad en (va_A ws s.heap.size) (rx_rk (rx_n q)) outs) asA.toArray s (rx_rc (rx_n q)) (rx_rs (rx_n q)) (va_A ws s.heap.size)) b (va_A ws s.heap.size) s.heap ad en C hSc hA ?_
  · exact G ad en ls [] s.heap [] ws ⟨List.prefix_refl _, List.prefix_refl _, hRW, hPw, hD, va_S.rf, hRL, rfl, hRI⟩
  · intro o ho ad' en' ls' stA H locs ws' cn sn pc hk a1 a2 a3 a4 a5 a6 a7 a8 a9
    refine W.widen a8 a9 ?_
    rcases hk with ⟨k1, k2, rfl⟩ | ⟨k1, k2, x, rfl, hxo, kz⟩ | ⟨k1, k2, x, rfl, hxo⟩ | ⟨k1, k2, x, rfl, hxr, hxo⟩
    · have hr0 : meth.sig.returnType = none := by
        rcases w8 with ⟨-, z⟩ | ⟨z, -⟩ | ⟨z, -⟩ | ⟨z, -⟩ | ⟨z, -⟩
        · exact hr.trans z
        · omega
        · omega
        · omega
        · omega
      exact W.vret hx hb hr0 (fun t ht hW => ⟨⟨o, ho, none, rfl, ad', en', ws', a1, a2, Or.inl ⟨k1, rfl⟩, a3, by rw [ht]; exact a4, a5, a7⟩, a6.F ht⟩) a6.2.2 k2
    · rcases k1 with k1 | k1
      · have hr0 : meth.sig.returnType = some .int := by
          rcases w8 with ⟨z, -⟩ | ⟨-, z⟩ | ⟨z, -⟩ | ⟨z, -⟩ | ⟨z, -⟩
          · omega
          · exact hr.trans z
          · omega
          · omega
          · omega
        exact W.iret hx hb hr0 (fun t ht hW => ⟨⟨o, ho, some (.int x), rfl, ad', en', ws', a1, a2, Or.inr ⟨by omega, _, hxo, rfl⟩, a3, by rw [ht]; exact a4, a5, a7⟩, a6.F ht⟩) a6.2.2 k2
      · have hr0 : meth.sig.returnType = some .boolean := by
          rcases w8 with ⟨z, -⟩ | ⟨z, -⟩ | ⟨-, z⟩ | ⟨z, -⟩ | ⟨z, -⟩
          · omega
          · omega
          · exact hr.trans z
          · omega
          · omega
        have hnar : narrow .boolean (.int x) = .int x := by
          rcases kz k1 with rfl | rfl
          · rfl
          · rfl
        exact W.zret hx hb hr0 hnar (fun t ht hW => ⟨⟨o, ho, some (.int x), rfl, ad', en', ws', a1, a2, Or.inr ⟨by omega, _, hxo, rfl⟩, a3, by rw [ht]; exact a4, a5, a7⟩, a6.F ht⟩) a6.2.2 k2
    · have hr0 : meth.sig.returnType = some .long := by
        rcases w8 with ⟨z, -⟩ | ⟨z, -⟩ | ⟨z, -⟩ | ⟨-, z⟩ | ⟨z, -⟩
        · omega
        · omega
        · omega
        · exact hr.trans z
        · omega
      exact W.lret hx hb hr0 (fun t ht hW => ⟨⟨o, ho, some (.long x), rfl, ad', en', ws', a1, a2, Or.inr ⟨by omega, _, hxo, rfl⟩, a3, by rw [ht]; exact a4, a5, a7⟩, a6.F ht⟩) a6.2.2 k2
    · have hr0 : ∃ n, meth.sig.returnType = some (.object n) := by
        rcases w8 with ⟨z, -⟩ | ⟨z, -⟩ | ⟨z, -⟩ | ⟨z, -⟩ | ⟨-, n, z⟩
        · omega
        · omega
        · omega
        · omega
        · exact ⟨n, hr.trans z⟩
      obtain ⟨n, hr0⟩ := hr0
      exact W.aret hx hb hr0 (Or.inl ⟨n, rfl⟩) hxr (fun t ht hW => ⟨⟨o, ho, some x, rfl, ad', en', ws', a1, a2, Or.inr ⟨by omega, _, hxo, rfl⟩, a3, by rw [ht]; exact a4, a5, a7⟩, a6.F ht⟩) a6.2.2 k2
