/-- the words that a method's contract takes -/
noncomputable def rx_ws (q : rx_M) : List Jvm.Cond := Jvm.Cond.code (rx_y q) (rx_b q) (rx_mL (rx_n q)) (rx_rt q) :: lw_G
noncomputable def rx_room (q : rx_M) : Room := { frames := rx_rf (rx_n q), cells := rx_rc (rx_n q), slots := rx_rs (rx_n q), locals := rx_rl (rx_n q) }
/-- how a method begins -/
noncomputable def rx_Pc (cy : Nat → ClassId) (D : va_G) (b : Nat → Nat) (asA : List Value) (ws : va_W) (sz : Nat) : Array Value → State → Prop :=
  va_Pc asA (fun U => U.heap.size = sz ∧ va_P D vwCl ws U.heap ∧ va_K D vwCl (rx_tys cy) U ∧ va_D (fun _ => True) ws ∧ (∀ w ∈ lw_nest, va_Nw w U) ∧ va_AO "TurnNet$State" U ∧ rx_Zt b (va_A ws sz) U)
/-- how it ends: as one of the interpreter's outcomes -/
noncomputable def rx_end (cy : Nat → ClassId) (D : va_G) (b : Nat → Nat) (ad : List Nat) (en : List Int32) (A : Nat → Prop) (rk : Nat) (o : rx_O) (v : Option Value) (H : Heap) : Prop := ∃ (ad' : List Nat) (en' : List Int32) (ws' : va_W), ad <+: ad' ∧ en <+: en' ∧ ((rk = 0 ∧ v = none) ∨ (rk ≠ 0 ∧ ∃ x, rx_cv b ad' en' o.1 = some x ∧ v = some x)) ∧ rx_RW cy b ad' en' o.2.1 ws' ∧ va_P D vwCl ws' H ∧ va_D A ws' ∧ rx_RI o.2.2 en'
noncomputable def rx_Qc (cy : Nat → ClassId) (D : va_G) (b : Nat → Nat) (ad : List Nat) (en : List Int32) (A : Nat → Prop) (rk : Nat) (outs : List rx_O) : Array Value → State → Outcome → State → Prop :=
  fun _ st oc t => (∃ o ∈ outs, ∃ v : Option Value, oc = .returned v ∧ rx_end cy D b ad en A rk o v t.heap) ∧ va_F A st t
theorem lw_G_good {ws : List Jvm.Cond} (h : ∀ w ∈ ws, w ∈ lw_G) : GoodIn lw_G ws := fun w hw => ⟨h w hw, good_of_word (List.mem_filter.mp (h w hw)).2⟩
theorem lw_nest_warm {s U : State} (hW : s.WarmedH U.vm) (h : ∀ w ∈ lw_nest, va_Nw w s) : ∀ w ∈ lw_nest, va_Nw w U := by
  intro w hw
  have h1 := h w hw
  have h2 := (List.mem_filter.mp hw).2
  cases w with
  | methodLinkNest a i x hh => exact va_Nw.warmM hW h1
  | _ => cases h2
theorem lw_nest_same {s U : State} (hv : s.vm = U.vm) (h : ∀ w ∈ lw_nest, va_Nw w s) : ∀ w ∈ lw_nest, va_Nw w U := by
  intro w hw
  have h1 := h w hw
  have h2 := (List.mem_filter.mp hw).2
  cases w with
  | methodLinkNest a i x hh => exact va_Nw.same rfl hv h1
  | _ => cases h2
theorem rx_Pc_blind {cy : Nat → ClassId} {D : va_G} {b : Nat → Nat} {asA : List Value} {ws : va_W} {sz : Nat} : FrameBlind (rx_Pc cy D b asA ws sz) := by
  intro a U g mk q
  obtain ⟨q0, q1, qP, qK, qD, qN, qA, qZ⟩ := q
  exact ⟨q0, q1, qP, va_K.moved (u := U) (U := U.calling g mk a) (Vm.Alike.refl U.vm) qK, qD, lw_nest_same (s := U) (U := U.calling g mk a) rfl qN, va_AO.moved (u := U) (U := U.calling g mk a) (Vm.Alike.refl U.vm) qA, qZ.blind⟩
theorem rx_AA {A : Nat → Prop} {H0 H : Heap} {locs : List Loc} {ws : va_W} (h5 : va_D A ws) (h6 : va_S A H0 H locs) (hA : ∀ z, H0.size ≤ z → A z) : ∀ z, va_A ws H.size z → A z := fun z hz' => by
  rcases hz' with ⟨k, ee, hk'⟩ | hk'
  · exact h5.2 k (z, ee) hk'
  · exact hA z (Nat.le_trans h6.1 hk')
section RXC
variable {p : Program} {l : Launch} {e : Env} {R : Room} {s : State} {m : MethodId} {args : Array Value} {below : List Frame} {meth : Method} {c : Code} {Q : State → Prop}
variable {cy : Nat → ClassId} {D : va_G} {b : Nat → Nat} {A : Nat → Prop} {H0 : Heap} {ad0 : List Nat} {en0 : List Int32} {nL : Nat}
variable {K : rx_K} {pc na nb cn sn : Nat} {lv : rx_L} {st : List Nat} {hp : rx_H} {iv : rx_I} {r q : rx_M}
/-- behind a call, whatever kind -/
theorem rx_back {ad : List Nat} {en : List Int32} {ls : Array Slot} {H : Heap} {locs : List Loc} {ws : va_W} {rest : List Nat} {restA st0 : List Value} {outs : List rx_O} {aa : Array Value} {mc ms : Nat} {rk : Nat}
    (hr : va_Run p l e R s m args below meth c H locs cn sn mc ms (F0 m pc ls st0) restA (rx_Qc cy D b ad en (va_A ws H.size) rk outs aa) (va_A ws H.size))
    (h1 : ad0 <+: ad) (h2 : en0 <+: en) (h5 : va_D A ws) (h6 : va_S A H0 H locs) (hA : ∀ z, H0.size ≤ z → A z) (h7 : rx_RL b ad en nL lv ls) (h8 : rest.map (rx_cv b ad en) = restA.map some)
    (hG : ∀ o ∈ outs, rx_G p l e R s m args below meth c Q cy D b A H0 ad0 en0 nL (Nat.add pc 3, lv, (bif Nat.beq rk 0 then rest else o.1 :: rest), o.2.1, o.2.2, Nat.add cn mc, Nat.add sn ms)) : W p l e R s m args below meth c H locs cn sn Q (F0 m pc ls st0) := by
  intro T hT X
  obtain ⟨v, st₀, t, T', L, g0, X', hL, e1, e2, ⟨⟨o, ho, v', hv, ad', en', ws', a1, a2, a3, a4, a5, a6, a7⟩, hz, hk⟩, stp⟩ := hr T hT X
  cases hv
  rw [g0] at hz hk
  have hAA : ∀ z, va_A ws H.size z → A z := fun z hz' => by
    rcases hz' with ⟨k, ee, hk'⟩ | hk'
    · exact h5.2 k (z, ee) hk'
    · exact hA z (Nat.le_trans h6.1 hk')
  have hS' : va_S A H0 T'.heap (locs ++ L) := ⟨Nat.le_trans h6.1 (by rw [e1]; exact hz), fun z z1 z2 => by
      rw [e1, hk z (Nat.lt_of_lt_of_le z1 h6.1) (fun y => z2 (hAA z y))]
      exact h6.2.1 z z1 z2, fun z hz' => by
      rcases List.mem_append.mp hz' with h | h
      · exact h6.2.2 z h
      · exact hAA _ (hL z h)⟩
  have key : ∃ stB : List Value, v.toList ++ restA = stB ∧ (bif Nat.beq rk 0 then rest else o.1 :: rest).map (rx_cv b ad' en') = stB.map some := by
    refine ⟨_, rfl, ?_⟩
    have h8' := rx_map_mono a1 a2 h8
    rcases a3 with ⟨rfl, rfl⟩ | ⟨hne, x, hx, rfl⟩
    · exact h8'
    · rw [show Nat.beq rk 0 = false from Bool.eq_false_iff.mpr (fun z => hne (rx_beq.mp z))]
      exact rx_st_push hx h8'
  obtain ⟨stB, hst, hmap⟩ := key
  obtain ⟨t2, b1, b2⟩ := hG o ho ad' en' ls stB T'.heap (locs ++ L) ws' ⟨h1.trans a1, h2.trans a2, a4, by rw [e1]; exact a5, a6.weaken (fun _ _ _ hz' => hAA _ hz'), hS', h7.mono a1 a2, hmap, a7⟩ T' rfl X'
  refine ⟨t2, stp t2 ?_, b2⟩
  rw [← hst] at b1
  exact b1
end RXC
