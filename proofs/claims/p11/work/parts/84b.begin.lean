theorem lw_ex : ∃ (v1 v2 : Nat) (hA hB : rx_H), lw_run1 = some [(v1, hA, [])] ∧ hA.1 = 173 ∧ lw_run2 hA = some [(v2, hB, [])] ∧ lw_JR hB := by
  have h := lw_go
  generalize lw_run1 = o1 at h ⊢
  match o1, h with
  | some [(v1, hA, [])], h =>
    obtain ⟨h1, h⟩ := rx_and2.mp h
    replace h : lw_g2 (lw_run2 hA) = true := h
    generalize ho : lw_run2 hA = o2 at h
    match o2, h with
    | some [(v2, hB, [])], h =>
      obtain ⟨h2, h3⟩ := rx_and2.mp (show (lw_chkB hB && lw_chkR hB) = true from h)
      exact ⟨v1, v2, hA, hB, rfl, rx_beq.mp h1, ho, lw_chkB_ok h2, lw_chkR_ok h3⟩
    | none, h => cases h
    | some [], h => cases h
    | some ((_, _, _ :: _) :: _), h => cases h
    | some ((_, _, []) :: _ :: _), h => cases h
  | none, h => cases h
  | some [], h => cases h
  | some ((_, _, _ :: _) :: _), h => cases h
  | some ((_, _, []) :: _ :: _), h => cases h
section LWB
variable {l : Launch} {cy : Nat → ClassId} {D : va_G} {L : Nat} {sx : Nat → Nat} {G : rx_S → Prop}
theorem lw_cal0 {hp : rx_H} {pc j nb ref c s : Nat} {q : rx_M} {lv rest : List Nat} (hx : ∃ x : rx_E, rx_look (rx_cd rxm_332) pc = some x ∧ x.2.1 = 4 ∧ x.2.2.2.2.2.1 = j ∧ x.2.2.2.2.2.2.1 = nb) (hnb : (!(Nat.beq nb 1) && (!(Nat.beq nb 2) && !(Nat.beq (Nat.mod nb 4) 1))) = true) (hq : rx_nth rx_P j = some q) (hn : rx_np (rx_n q) = 0) (hrc : rx_obj hp (Nat.div nb 4) ref = true)
    (hok : rx_cok (rx_n (rxl L sx)) (rx_n q) [ref] rest c s = true) : rx_cal rx_P (rxl L sx) j (pc, lv, ref :: rest, hp, [], c, s) = some ([ref], rest) := by
  obtain ⟨x, x1, x2, x3, x4⟩ := hx
  obtain ⟨n1, hnb⟩ := rx_and2.mp hnb
  obtain ⟨n2, n3⟩ := rx_and2.mp hnb
  have hspl : rx_spl (Nat.succ (rx_np (rx_n q))) (ref :: rest) [] = some ([ref], rest) := by
    rw [hn]
    rfl
  unfold rx_cal
  dsimp only
  rw [show rx_look (rx_cd (rxl L sx)) pc = some x from x1]
  dsimp only
  rw [hq]
  dsimp only
  rw [x2, x3, x4]
  show (match rx_spl (Nat.succ (rx_np (rx_n q))) (ref :: rest) [] with
    | some (as, rest) => bif true && (Nat.beq j j && (!(Nat.beq nb 1) && (!(Nat.beq nb 2) && (!(Nat.beq (Nat.mod nb 4) 1) && (rx_rcv hp (Nat.div nb 4) as && rx_cok (rx_n (rxl L sx)) (rx_n q) as rest c s))))) then some (as, rest) else none
    | none => none) = _
  rw [hspl]
  dsimp only
  rw [hok, n1, n2, n3, Nat.beq_refl, show rx_rcv hp (Nat.div nb 4) [ref] = true from hrc]
  rfl
/-- up to the loop -/
theorem lw_begin (R : lw_Rules l cy D (rxl L sx) G) (hG : ∀ hp, lw_JR hp → G (18, lw_LV 0, [], hp, [], 205, 8956)) : G rx_s0 := by
  obtain ⟨v1, v2, hA, hB, e1, e2, e3, e4⟩ := lw_ex
  refine lw_step R (pc := 0) (h := rx_h_new) (a := 10) (σ' := (3, [6, 2, 2, 2], [10], lw_h1, [], 1, 14)) ⟨_, rfl, rfl, rfl, rfl⟩ (fun _ => rfl) ?_
  refine lw_step R (h := rx_h_dup) (a := 0) (σ' := (4, [6, 2, 2, 2], [10, 10], lw_h1, [], 1, 14)) ⟨_, rfl, rfl, rfl, rfl⟩ (fun _ => rfl) ?_
  refine R.2.2 182 rxm_182 [10] [10] [(v1, hA, [])] _ rfl rfl (rx_at_run rxP_ok (ax_nth_mem (j := 182) rfl) (n := 200000) e1) (fun o ho => ?_)
  rw [List.mem_singleton.mp ho]
  show G (7, [6, 2, 2, 2], [10], hA, [], 173, 4313)
  refine lw_step R (h := rx_h_sto rx_isR 1 1) (a := 0) (σ' := (8, [6, 10, 2, 2], [], hA, [], 173, 4313)) ⟨_, rfl, rfl, rfl, rfl⟩ (fun _ => rfl) ?_
  refine lw_step R (h := rx_h_new) (a := 11) (σ' := (11, [6, 10, 2, 2], [702], rx_hp hA (11, 58, lw_lM), [], 174, 4371)) ⟨_, rfl, rfl, rfl, rfl⟩ (fun _ => ?_) ?_
  · show (bif Nat.blt hA.1 256 && (true && true) then some [(11, [6, 10, 2, 2], [rx_ref hA.1], rx_hp hA (11, 58, lw_lM), [], 174, 4371)] else none) = _
    rw [e2]
    rfl
  refine lw_step R (h := rx_h_dup) (a := 0) (σ' := (12, [6, 10, 2, 2], [702, 702], rx_hp hA (11, 58, lw_lM), [], 174, 4371)) ⟨_, rfl, rfl, rfl, rfl⟩ (fun _ => rfl) ?_
  have hob : rx_obj (rx_hp hA (11, 58, lw_lM)) 11 702 = true := by
    show (match rx_hg (rx_hp hA (11, 58, lw_lM)) 173 with
      | some (t, _, _) => Nat.beq t 11
      | none => false) = true
    rw [rx_hg_hp (by rw [e2]; decide), if_pos e2.symm]
    rfl
  refine R.2.2 265 rxm_265 [702] [702] [(v2, hB, [])] _ rfl ?_ (rx_at_run rxP_ok (ax_nth_mem (j := 265) rfl) (n := 200000) e3) (fun o ho => ?_)
  · exact lw_cal0 (nb := 44) ⟨_, rfl, rfl, rfl, rfl⟩ rfl rfl rfl hob rfl
  rw [List.mem_singleton.mp ho]
  show G (15, [6, 10, 2, 2], [702], hB, [], 205, 8956)
  refine lw_step R (h := rx_h_sto rx_isR 2 1) (a := 0) (σ' := (16, [6, 10, 702, 2], [], hB, [], 205, 8956)) ⟨_, rfl, rfl, rfl, rfl⟩ (fun _ => rfl) ?_
  refine lw_step R (h := rx_h_psh 1) (a := 0) (σ' := (17, [6, 10, 702, 2], [rx_int 0], hB, [], 205, 8956)) ⟨_, rfl, rfl, rfl, rfl⟩ (fun _ => rfl) ?_
  refine lw_step R (h := rx_h_sto rx_isI 3 1) (a := 0) (σ' := (18, lw_LV 0, [], hB, [], 205, 8956)) ⟨_, rfl, rfl, rfl, rfl⟩ (fun _ => rfl) ?_
  exact hG hB e4
end LWB
