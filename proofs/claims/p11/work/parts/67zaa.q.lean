-- TurnNet$Graph.hasSpace(II)Z
theorem c_Gr_hasSpace {a1 a2 : Nat} {F : fx_F} {v : fx_V} {F' : fx_F} (h : Cl k_Gr_hasSpace [(2, 40), (0, a1), (0, a2)] F v F') : ∃ n, Rn n k_Gr_hasSpace 0 [(2, 40), (0, a1), (0, a2), (3, 0), (3, 0)] [] F v F' := by
  obtain ⟨n, s, hs, h⟩ := h
  rw [sg_0] at hs
  cases hs
  exact ⟨n, h⟩
set_option maxRecDepth 40000 in
theorem q_Gr_hasSpace_0 {n : Nat} {a1 a2 : Nat} {F : fx_F} {v : fx_V} {F' : fx_F} (h : Rn n k_Gr_hasSpace 0 [(2, 40), (0, a1), (0, a2), (3, 0), (3, 0)] [] F v F') :
  ((i_and a1 1) ≠ 0 →
   ((i_and (i_shr a2 (i_shr a1 1)) 1) ≠ 1 →
     v = (0, 0) ∧ F' = F) ∧
    ((i_and (i_shr a2 (i_shr a1 1)) 1) = 1 →
     (s_le 1 (i_neg (F 44 (i_shr a1 1))) →
       v = (0, 0) ∧ F' = F) ∧
      (s_lt (i_neg (F 44 (i_shr a1 1))) 1 →
       v = (0, 1) ∧ F' = F))) ∧
  ((i_and a1 1) = 0 →
   ((i_and (i_shr a2 (i_shr a1 1)) 1) ≠ 1 →
     v = (0, 0) ∧ F' = F) ∧
    ((i_and (i_shr a2 (i_shr a1 1)) 1) = 1 →
     (s_le 1 (F 44 (i_shr a1 1)) →
       v = (0, 0) ∧ F' = F) ∧
      (s_lt (F 44 (i_shr a1 1)) 1 →
       v = (0, 1) ∧ F' = F))) := by
  have t := q_ok cv_0 ap_0 (hd := []) h rfl rfl
  exact t
-- TurnNet$Graph.hopsOf(II)I
theorem c_Gr_hopsOf {a1 a2 : Nat} {F : fx_F} {v : fx_V} {F' : fx_F} (h : Cl k_Gr_hopsOf [(2, 40), (0, a1), (0, a2)] F v F') : ∃ n, Rn n k_Gr_hopsOf 0 [(2, 40), (0, a1), (0, a2)] [] F v F' := by
  obtain ⟨n, s, hs, h⟩ := h
  rw [sg_1] at hs
  cases hs
  exact ⟨n, h⟩
set_option maxRecDepth 40000 in
theorem q_Gr_hopsOf_0 {n : Nat} {a1 a2 : Nat} {F : fx_F} {v : fx_V} {F' : fx_F} (h : Rn n k_Gr_hopsOf 0 [(2, 40), (0, a1), (0, a2)] [] F v F') :
  v = (0, F 41 (i_add (i_mul a1 10) a2)) ∧ F' = F := by
  have t := q_ok cv_1 ap_1 (hd := []) h rfl rfl
  exact t
-- TurnNet$Graph.useRow(II)V
theorem c_Gr_useRow {a1 a2 : Nat} {F : fx_F} {v : fx_V} {F' : fx_F} (h : Cl k_Gr_useRow [(2, 40), (0, a1), (0, a2)] F v F') : ∃ n, Rn n k_Gr_useRow 0 [(2, 40), (0, a1), (0, a2), (3, 0), (3, 0), (3, 0)] [] F v F' := by
  obtain ⟨n, s, hs, h⟩ := h
  rw [sg_2] at hs
  cases hs
  exact ⟨n, h⟩
set_option maxRecDepth 40000 in
theorem q_Gr_useRow_0 {n : Nat} {a1 a2 : Nat} {F : fx_F} {v : fx_V} {F' : fx_F} (h : Rn n k_Gr_useRow 0 [(2, 40), (0, a1), (0, a2), (3, 0), (3, 0), (3, 0)] [] F v F') :
  ∃ m, m < n ∧ Rn m k_Gr_useRow 5 [(2, 40), (0, a1), (3, 0), (0, a2), (0, 0), (3, 0)] [] F v F' := by
  have t := q_ok cv_2 ap_2 (hd := [(5, [1, 1, 0, 1, 1, 0])]) h rfl rfl
  exact t
set_option maxRecDepth 40000 in
theorem q_Gr_useRow_5 {n : Nat} {l1 l3 l4 : Nat} {F : fx_F} {v : fx_V} {F' : fx_F} (h : Rn n k_Gr_useRow 5 [(2, 40), (0, l1), (3, 0), (0, l3), (0, l4), (3, 0)] [] F v F') :
  (s_le 10 l4 →
   v = (2, 0) ∧ F' = F) ∧
  (s_lt l4 10 →
   (l3 = l1 →
     v = (2, 0) ∧ F' = F) ∧
    (l3 ≠ l1 →
     ((F 43 l3) = 4294967295 →
       v = (2, 0) ∧ F' = F) ∧
      ((F 43 l3) ≠ 4294967295 →
       ((i_and (F 43 l3) 1) ≠ 0 →
         ∃ m, m < n ∧ Rn m k_Gr_useRow 5 [(2, 40), (0, l1), (3, 0), (0, F 4 (F 43 l3)), (0, i_add l4 1), (3, 0)] [] (fu F 44 (i_shr (F 43 l3) 1) (i_add (F 44 (i_shr (F 43 l3) 1)) 4294967295)) v F') ∧
        ((i_and (F 43 l3) 1) = 0 →
         ∃ m, m < n ∧ Rn m k_Gr_useRow 5 [(2, 40), (0, l1), (3, 0), (0, F 4 (F 43 l3)), (0, i_add l4 1), (3, 0)] [] (fu F 44 (i_shr (F 43 l3) 1) (i_add (F 44 (i_shr (F 43 l3) 1)) 1)) v F')))) := by
  have t := q_ok cv_2 ap_2 (hd := [(5, [1, 1, 0, 1, 1, 0])]) h rfl rfl
  exact t
-- TurnNet$History.clear()V
theorem c_Hi_clear {F : fx_F} {v : fx_V} {F' : fx_F} (h : Cl k_Hi_clear [(2, 51)] F v F') : ∃ n, Rn n k_Hi_clear 0 [(2, 51)] [] F v F' := by
  obtain ⟨n, s, hs, h⟩ := h
  rw [sg_3] at hs
  cases hs
  exact ⟨n, h⟩
set_option maxRecDepth 40000 in
theorem q_Hi_clear_0 {n : Nat} {F : fx_F} {v : fx_V} {F' : fx_F} (h : Rn n k_Hi_clear 0 [(2, 51)] [] F v F') :
  v = (2, 0) ∧ F' = (fu (fu F 51 2 0) 51 3 0) := by
  have t := q_ok cv_3 ap_3 (hd := []) h rfl rfl
  exact t
-- TurnNet$History.exchange(ILTurnNet$State;)LTurnNet$State;
theorem c_Hi_exchange {a1 a2 : Nat} {F : fx_F} {v : fx_V} {F' : fx_F} (h : Cl k_Hi_exchange [(2, 51), (0, a1), (2, a2)] F v F') : ∃ n, Rn n k_Hi_exchange 0 [(2, 51), (0, a1), (2, a2), (3, 0)] [] F v F' := by
  obtain ⟨n, s, hs, h⟩ := h
  rw [sg_4] at hs
  cases hs
  exact ⟨n, h⟩
set_option maxRecDepth 40000 in
theorem q_Hi_exchange_0 {n : Nat} {a1 a2 : Nat} {F : fx_F} {v : fx_V} {F' : fx_F} (h : Rn n k_Hi_exchange 0 [(2, 51), (0, a1), (2, a2), (3, 0)] [] F v F') :
  v = (2, F 52 a1) ∧ F' = (fu F 52 a1 a2) := by
  have t := q_ok cv_4 ap_4 (hd := []) h rfl rfl
  exact t
-- TurnNet$History.slotOf(I)I
theorem c_Hi_slotOf {a1 : Nat} {F : fx_F} {v : fx_V} {F' : fx_F} (h : Cl k_Hi_slotOf [(2, 51), (0, a1)] F v F') : ∃ n, Rn n k_Hi_slotOf 0 [(2, 51), (0, a1)] [] F v F' := by
  obtain ⟨n, s, hs, h⟩ := h
  rw [sg_5] at hs
  cases hs
  exact ⟨n, h⟩
set_option maxRecDepth 40000 in
theorem q_Hi_slotOf_0 {n : Nat} {a1 : Nat} {F : fx_F} {v : fx_V} {F' : fx_F} (h : Rn n k_Hi_slotOf 0 [(2, 51), (0, a1)] [] F v F') :
  v = (0, i_rem (i_add (F 51 1) a1) 20) ∧ F' = F := by
  have t := q_ok cv_5 ap_5 (hd := []) h rfl rfl
  exact t
-- TurnNet$Net.addCode(II)V
theorem c_Net_addCode {p a1 a2 : Nat} {F : fx_F} {v : fx_V} {F' : fx_F} (h : Cl k_Net_addCode [(2, p), (0, a1), (0, a2)] F v F') : ∃ n, Rn n k_Net_addCode 0 [(2, p), (0, a1), (0, a2)] [] F v F' := by
  obtain ⟨n, s, hs, h⟩ := h
  rw [sg_6] at hs
  cases hs
  exact ⟨n, h⟩
set_option maxRecDepth 40000 in
theorem q_Net_addCode_0 {n : Nat} {p a1 a2 : Nat} {F : fx_F} {v : fx_V} {F' : fx_F} (h : Rn n k_Net_addCode 0 [(2, p), (0, a1), (0, a2)] [] F v F') :
  (s_le 80 (F p 5) →
   v = (2, 0) ∧ F' = F) ∧
  (s_lt (F p 5) 80 →
   v = (2, 0) ∧ F' = (fu (fu (fu F (p + 5) (F p 5) a1) (p + 6) ((fu F (p + 5) (F p 5) a1) p 5) a2) p 5 (i_add ((fu (fu F (p + 5) (F p 5) a1) (p + 6) ((fu F (p + 5) (F p 5) a1) p 5) a2) p 5) 1))) := by
  have t := q_ok cv_6 ap_6 (hd := []) h rfl rfl
  exact t
-- TurnNet$Net.addLink(II)V
theorem c_Net_addLink {p a1 a2 : Nat} {F : fx_F} {v : fx_V} {F' : fx_F} (h : Cl k_Net_addLink [(2, p), (0, a1), (0, a2)] F v F') : ∃ n, Rn n k_Net_addLink 0 [(2, p), (0, a1), (0, a2), (3, 0)] [] F v F' := by
  obtain ⟨n, s, hs, h⟩ := h
  rw [sg_7] at hs
  cases hs
  exact ⟨n, h⟩
set_option maxRecDepth 40000 in
theorem q_Net_addLink_0 {n : Nat} {p a1 a2 : Nat} {F : fx_F} {v : fx_V} {F' : fx_F} (h : Rn n k_Net_addLink 0 [(2, p), (0, a1), (0, a2), (3, 0)] [] F v F') :
  v = (2, 0) ∧ F' = (fu (fu (fu (fu (fu F (p + 1) (i_mul 2 (F p 1)) a1) (p + 2) (i_mul 2 (F p 1)) a2) (p + 1) (i_add (i_mul 2 (F p 1)) 1) a2) (p + 2) (i_add (i_mul 2 (F p 1)) 1) a1) p 1 (i_add ((fu (fu (fu (fu F (p + 1) (i_mul 2 (F p 1)) a1) (p + 2) (i_mul 2 (F p 1)) a2) (p + 1) (i_add (i_mul 2 (F p 1)) 1) a2) (p + 2) (i_add (i_mul 2 (F p 1)) 1) a1) p 1) 1)) := by
  have t := q_ok cv_7 ap_7 (hd := []) h rfl rfl
  exact t
-- TurnNet$Net.allLinks()I
theorem c_Net_allLinks {p : Nat} {F : fx_F} {v : fx_V} {F' : fx_F} (h : Cl k_Net_allLinks [(2, p)] F v F') : ∃ n, Rn n k_Net_allLinks 0 [(2, p)] [] F v F' := by
  obtain ⟨n, s, hs, h⟩ := h
  rw [sg_8] at hs
  cases hs
  exact ⟨n, h⟩
set_option maxRecDepth 40000 in
theorem q_Net_allLinks_0 {n : Nat} {p : Nat} {F : fx_F} {v : fx_V} {F' : fx_F} (h : Rn n k_Net_allLinks 0 [(2, p)] [] F v F') :
  v = (0, i_sub (i_shl 1 (F p 1)) 1) ∧ F' = F := by
  have t := q_ok cv_8 ap_8 (hd := []) h rfl rfl
  exact t
-- TurnNet$Net.channels()I
theorem c_Net_channels {p : Nat} {F : fx_F} {v : fx_V} {F' : fx_F} (h : Cl k_Net_channels [(2, p)] F v F') : ∃ n, Rn n k_Net_channels 0 [(2, p)] [] F v F' := by
  obtain ⟨n, s, hs, h⟩ := h
  rw [sg_9] at hs
  cases hs
  exact ⟨n, h⟩
set_option maxRecDepth 40000 in
theorem q_Net_channels_0 {n : Nat} {p : Nat} {F : fx_F} {v : fx_V} {F' : fx_F} (h : Rn n k_Net_channels 0 [(2, p)] [] F v F') :
  v = (0, i_mul 2 (F p 1)) ∧ F' = F := by
  have t := q_ok cv_9 ap_9 (hd := []) h rfl rfl
  exact t
-- TurnNet$Net.clear()V
theorem c_Net_clear {p : Nat} {F : fx_F} {v : fx_V} {F' : fx_F} (h : Cl k_Net_clear [(2, p)] F v F') : ∃ n, Rn n k_Net_clear 0 [(2, p)] [] F v F' := by
  obtain ⟨n, s, hs, h⟩ := h
  rw [sg_10] at hs
  cases hs
  exact ⟨n, h⟩
set_option maxRecDepth 40000 in
theorem q_Net_clear_0 {n : Nat} {p : Nat} {F : fx_F} {v : fx_V} {F' : fx_F} (h : Rn n k_Net_clear 0 [(2, p)] [] F v F') :
  v = (2, 0) ∧ F' = (fu (fu (fu (fu (fu (fu F p 0 0) p 1 0) p 2 0) p 3 1) p 4 0) p 5 0) := by
  have t := q_ok cv_10 ap_10 (hd := []) h rfl rfl
  exact t
-- TurnNet$Net.hasLink(I)Z
theorem c_Net_hasLink {p a1 : Nat} {F : fx_F} {v : fx_V} {F' : fx_F} (h : Cl k_Net_hasLink [(2, p), (0, a1)] F v F') : ∃ n, Rn n k_Net_hasLink 0 [(2, p), (0, a1)] [] F v F' := by
  obtain ⟨n, s, hs, h⟩ := h
  rw [sg_11] at hs
  cases hs
  exact ⟨n, h⟩
set_option maxRecDepth 40000 in
theorem q_Net_hasLink_0 {n : Nat} {p a1 : Nat} {F : fx_F} {v : fx_V} {F' : fx_F} (h : Rn n k_Net_hasLink 0 [(2, p), (0, a1)] [] F v F') :
  (s_lt a1 0 →
   v = (0, 0) ∧ F' = F) ∧
  (s_le 0 a1 →
   (s_le (F p 1) a1 →
     v = (0, 0) ∧ F' = F) ∧
    (s_lt a1 (F p 1) →
     v = (0, 1) ∧ F' = F)) := by
  have t := q_ok cv_11 ap_11 (hd := []) h rfl rfl
  exact t
-- TurnNet$Net.hasSwitch(I)Z
theorem c_Net_hasSwitch {p a1 : Nat} {F : fx_F} {v : fx_V} {F' : fx_F} (h : Cl k_Net_hasSwitch [(2, p), (0, a1)] F v F') : ∃ n, Rn n k_Net_hasSwitch 0 [(2, p), (0, a1)] [] F v F' := by
  obtain ⟨n, s, hs, h⟩ := h
  rw [sg_12] at hs
  cases hs
  exact ⟨n, h⟩
set_option maxRecDepth 40000 in
theorem q_Net_hasSwitch_0 {n : Nat} {p a1 : Nat} {F : fx_F} {v : fx_V} {F' : fx_F} (h : Rn n k_Net_hasSwitch 0 [(2, p), (0, a1)] [] F v F') :
  (s_lt a1 0 →
   v = (0, 0) ∧ F' = F) ∧
  (s_le 0 a1 →
   (s_le (F p 0) a1 →
     v = (0, 0) ∧ F' = F) ∧
    (s_lt a1 (F p 0) →
     v = (0, 1) ∧ F' = F)) := by
  have t := q_ok cv_12 ap_12 (hd := []) h rfl rfl
  exact t
-- TurnNet$Net.isUp(II)Z
theorem c_Net_isUp {a0 a1 : Nat} {F : fx_F} {v : fx_V} {F' : fx_F} (h : Cl k_Net_isUp [(0, a0), (0, a1)] F v F') : ∃ n, Rn n k_Net_isUp 0 [(0, a0), (0, a1)] [] F v F' := by
  obtain ⟨n, s, hs, h⟩ := h
  rw [sg_13] at hs
  cases hs
  exact ⟨n, h⟩
set_option maxRecDepth 40000 in
theorem q_Net_isUp_0 {n : Nat} {a0 a1 : Nat} {F : fx_F} {v : fx_V} {F' : fx_F} (h : Rn n k_Net_isUp 0 [(0, a0), (0, a1)] [] F v F') :
  ((i_and (i_shr a1 (i_shr a0 1)) 1) = (i_and a0 1) →
   v = (0, 0) ∧ F' = F) ∧
  ((i_and (i_shr a1 (i_shr a0 1)) 1) ≠ (i_and a0 1) →
   v = (0, 1) ∧ F' = F) := by
  have t := q_ok cv_13 ap_13 (hd := []) h rfl rfl
  exact t
-- TurnNet$Net.upEnd(II)I
theorem c_Net_upEnd {p a1 a2 : Nat} {F : fx_F} {v : fx_V} {F' : fx_F} (h : Cl k_Net_upEnd [(2, p), (0, a1), (0, a2)] F v F') : ∃ n, Rn n k_Net_upEnd 0 [(2, p), (0, a1), (0, a2)] [] F v F' := by
  obtain ⟨n, s, hs, h⟩ := h
  rw [sg_14] at hs
  cases hs
  exact ⟨n, h⟩
set_option maxRecDepth 40000 in
theorem q_Net_upEnd_0 {n : Nat} {p a1 a2 : Nat} {F : fx_F} {v : fx_V} {F' : fx_F} (h : Rn n k_Net_upEnd 0 [(2, p), (0, a1), (0, a2)] [] F v F') :
  ((i_and (i_shr a2 a1) 1) ≠ 1 →
   v = (0, F (p + 1) (i_mul 2 a1)) ∧ F' = F) ∧
  ((i_and (i_shr a2 a1) 1) = 1 →
   v = (0, F (p + 2) (i_mul 2 a1)) ∧ F' = F) := by
  have t := q_ok cv_14 ap_14 (hd := []) h rfl rfl
  exact t
-- TurnNet$Order.combine(III)I
theorem c_Or_combine {a0 a1 a2 : Nat} {F : fx_F} {v : fx_V} {F' : fx_F} (h : Cl k_Or_combine [(0, a0), (0, a1), (0, a2)] F v F') : ∃ n, Rn n k_Or_combine 0 [(0, a0), (0, a1), (0, a2)] [] F v F' := by
  obtain ⟨n, s, hs, h⟩ := h
  rw [sg_15] at hs
  cases hs
  exact ⟨n, h⟩
set_option maxRecDepth 40000 in
theorem q_Or_combine_0 {n : Nat} {a0 a1 a2 : Nat} {F : fx_F} {v : fx_V} {F' : fx_F} (h : Rn n k_Or_combine 0 [(0, a0), (0, a1), (0, a2)] [] F v F') :
  ((a0 < 42 ∨ 48 ≤ a0) →
   (a2 ≠ 0 →
     v = (0, i_rem a1 a2) ∧ F' = F) ∧
    (a2 = 0 →
     v = (0, 0) ∧ F' = F)) ∧
  ((a0 = 42 →
   v = (0, i_mul a1 a2) ∧ F' = F) ∧
  ((a0 = 43 →
   v = (0, i_add a1 a2) ∧ F' = F) ∧
  ((a0 = 44 →
   (a2 ≠ 0 →
     v = (0, i_rem a1 a2) ∧ F' = F) ∧
    (a2 = 0 →
     v = (0, 0) ∧ F' = F)) ∧
  ((a0 = 45 →
   v = (0, i_sub a1 a2) ∧ F' = F) ∧
  ((a0 = 46 →
   (a2 ≠ 0 →
     v = (0, i_rem a1 a2) ∧ F' = F) ∧
    (a2 = 0 →
     v = (0, 0) ∧ F' = F)) ∧
  ((a0 = 47 →
   (a2 ≠ 0 →
     v = (0, i_div a1 a2) ∧ F' = F) ∧
    (a2 = 0 →
     v = (0, 0) ∧ F' = F)) ∧ True)))))) := by
  have t := q_ok cv_15 ap_15 (hd := []) h rfl rfl
  exact t
-- TurnNet$Order.isAbove(II)Z
theorem c_Or_isAbove {a1 a2 : Nat} {F : fx_F} {v : fx_V} {F' : fx_F} (h : Cl k_Or_isAbove [(2, 19), (0, a1), (0, a2)] F v F') : ∃ n, Rn n k_Or_isAbove 0 [(2, 19), (0, a1), (0, a2)] [] F v F' := by
  obtain ⟨n, s, hs, h⟩ := h
  rw [sg_16] at hs
  cases hs
  exact ⟨n, h⟩
set_option maxRecDepth 40000 in
theorem q_Or_isAbove_0 {n : Nat} {a1 a2 : Nat} {F : fx_F} {v : fx_V} {F' : fx_F} (h : Rn n k_Or_isAbove 0 [(2, 19), (0, a1), (0, a2)] [] F v F') :
  (s_lt (F 22 a1) (F 22 a2) →
   v = (0, 1) ∧ F' = F) ∧
  (s_le (F 22 a2) (F 22 a1) →
   ((F 22 a1) ≠ (F 22 a2) →
     v = (0, 0) ∧ F' = F) ∧
    ((F 22 a1) = (F 22 a2) →
     (s_le a2 a1 →
       v = (0, 0) ∧ F' = F) ∧
      (s_lt a1 a2 →
       v = (0, 1) ∧ F' = F))) := by
  have t := q_ok cv_16 ap_16 (hd := []) h rfl rfl
  exact t
-- TurnNet$Order.leaf(III)I
theorem c_Or_leaf {a1 a2 a3 : Nat} {F : fx_F} {v : fx_V} {F' : fx_F} (h : Cl k_Or_leaf [(2, 19), (0, a1), (0, a2), (0, a3)] F v F') : ∃ n, Rn n k_Or_leaf 0 [(2, 19), (0, a1), (0, a2), (0, a3)] [] F v F' := by
  obtain ⟨n, s, hs, h⟩ := h
  rw [sg_17] at hs
  cases hs
  exact ⟨n, h⟩
set_option maxRecDepth 40000 in
theorem q_Or_leaf_0 {n : Nat} {a1 a2 a3 : Nat} {F : fx_F} {v : fx_V} {F' : fx_F} (h : Rn n k_Or_leaf 0 [(2, 19), (0, a1), (0, a2), (0, a3)] [] F v F') :
  ((a1 < 2 ∨ 5 ≤ a1) →
   v = (0, a2) ∧ F' = F) ∧
  ((a1 = 2 →
   v = (0, F 20 a3) ∧ F' = F) ∧
  ((a1 = 3 →
   v = (0, a3) ∧ F' = F) ∧
  ((a1 = 4 →
   v = (0, F 21 a3) ∧ F' = F) ∧ True))) := by
  have t := q_ok cv_17 ap_17 (hd := []) h rfl rfl
  exact t
-- TurnNet$Planner.linksOf(I)I
theorem c_Pl_linksOf {a1 : Nat} {F : fx_F} {v : fx_V} {F' : fx_F} (h : Cl k_Pl_linksOf [(2, 48), (0, a1)] F v F') : ∃ n, Rn n k_Pl_linksOf 0 [(2, 48), (0, a1)] [] F v F' := by
  obtain ⟨n, s, hs, h⟩ := h
  rw [sg_18] at hs
  cases hs
  exact ⟨n, h⟩
set_option maxRecDepth 40000 in
theorem q_Pl_linksOf_0 {n : Nat} {a1 : Nat} {F : fx_F} {v : fx_V} {F' : fx_F} (h : Rn n k_Pl_linksOf 0 [(2, 48), (0, a1)] [] F v F') :
  (s_lt a1 0 →
   v = (0, 0) ∧ F' = F) ∧
  (s_le 0 a1 →
   (s_le (F 48 4) a1 →
     v = (0, 0) ∧ F' = F) ∧
    (s_lt a1 (F 48 4) →
     v = (0, F 49 a1) ∧ F' = F)) := by
  have t := q_ok cv_18 ap_18 (hd := []) h rfl rfl
  exact t
-- TurnNet$Planner.phaseOf(I)I
theorem c_Pl_phaseOf {a1 : Nat} {F : fx_F} {v : fx_V} {F' : fx_F} (h : Cl k_Pl_phaseOf [(2, 48), (0, a1)] F v F') : ∃ n, Rn n k_Pl_phaseOf 0 [(2, 48), (0, a1), (3, 0)] [] F v F' := by
  obtain ⟨n, s, hs, h⟩ := h
  rw [sg_19] at hs
  cases hs
  exact ⟨n, h⟩
set_option maxRecDepth 40000 in
theorem q_Pl_phaseOf_0 {n : Nat} {a1 : Nat} {F : fx_F} {v : fx_V} {F' : fx_F} (h : Rn n k_Pl_phaseOf 0 [(2, 48), (0, a1), (3, 0)] [] F v F') :
  ∃ m, m < n ∧ Rn m k_Pl_phaseOf 2 [(2, 48), (0, a1), (0, 0)] [] F v F' := by
  have t := q_ok cv_19 ap_19 (hd := [(2, [1, 1, 1])]) h rfl rfl
  exact t
set_option maxRecDepth 40000 in
theorem q_Pl_phaseOf_2 {n : Nat} {l1 l2 : Nat} {F : fx_F} {v : fx_V} {F' : fx_F} (h : Rn n k_Pl_phaseOf 2 [(2, 48), (0, l1), (0, l2)] [] F v F') :
  (s_le (F 48 4) l2 →
   v = (0, 4294967295) ∧ F' = F) ∧
  (s_lt l2 (F 48 4) →
   ((i_and (i_shr (F 49 l2) l1) 1) ≠ 1 →
     ∃ m, m < n ∧ Rn m k_Pl_phaseOf 2 [(2, 48), (0, l1), (0, i_add l2 1)] [] F v F') ∧
    ((i_and (i_shr (F 49 l2) l1) 1) = 1 →
     v = (0, l2) ∧ F' = F)) := by
  have t := q_ok cv_19 ap_19 (hd := [(2, [1, 1, 1])]) h rfl rfl
  exact t
-- TurnNet$Reader.append(I)V
theorem c_Rd_append {a1 : Nat} {F : fx_F} {v : fx_V} {F' : fx_F} (h : Cl k_Rd_append [(2, 10), (0, a1)] F v F') : ∃ n, Rn n k_Rd_append 0 [(2, 10), (0, a1), (3, 0)] [] F v F' := by
  obtain ⟨n, s, hs, h⟩ := h
  rw [sg_20] at hs
  cases hs
  exact ⟨n, h⟩
set_option maxRecDepth 40000 in
theorem q_Rd_append_0 {n : Nat} {a1 : Nat} {F : fx_F} {v : fx_V} {F' : fx_F} (h : Rn n k_Rd_append 0 [(2, 10), (0, a1), (3, 0)] [] F v F') :
  ∃ m, m < n ∧ Rn m k_Rd_append 3 [(2, 10), (0, a1), (0, 24)] [] F v F' := by
  have t := q_ok cv_20 ap_20 (hd := [(3, [1, 1, 1])]) h rfl rfl
  exact t
set_option maxRecDepth 40000 in
theorem q_Rd_append_3 {n : Nat} {l1 l2 : Nat} {F : fx_F} {v : fx_V} {F' : fx_F} (h : Rn n k_Rd_append 3 [(2, 10), (0, l1), (0, l2)] [] F v F') :
  (s_lt l2 0 →
   v = (2, 0) ∧ F' = F) ∧
  (s_le 0 l2 →
   (s_le 800 (F 10 1) →
     ∃ m, m < n ∧ Rn m k_Rd_append 3 [(2, 10), (0, l1), (0, i_add l2 4294967288)] [] F v F') ∧
    (s_lt (F 10 1) 800 →
     ∃ m, m < n ∧ Rn m k_Rd_append 3 [(2, 10), (0, l1), (0, i_add l2 4294967288)] [] (fu (fu F 11 (F 10 1) (i_2b (i_shr l1 l2))) 10 1 (i_add (F 10 1) 1)) v F')) := by
  have t := q_ok cv_20 ap_20 (hd := [(3, [1, 1, 1])]) h rfl rfl
  exact t
-- TurnNet$Reader.fail(I)Z
theorem c_Rd_fail {a1 : Nat} {F : fx_F} {v : fx_V} {F' : fx_F} (h : Cl k_Rd_fail [(2, 10), (0, a1)] F v F') : ∃ n, Rn n k_Rd_fail 0 [(2, 10), (0, a1)] [] F v F' := by
  obtain ⟨n, s, hs, h⟩ := h
  rw [sg_21] at hs
  cases hs
  exact ⟨n, h⟩
set_option maxRecDepth 40000 in
theorem q_Rd_fail_0 {n : Nat} {a1 : Nat} {F : fx_F} {v : fx_V} {F' : fx_F} (h : Rn n k_Rd_fail 0 [(2, 10), (0, a1)] [] F v F') :
  v = (0, 0) ∧ F' = (fu (fu F 10 3 a1) 10 4 (F 10 6)) := by
  have t := q_ok cv_21 ap_21 (hd := []) h rfl rfl
  exact t
-- TurnNet$Routes.entryOf(III)I
theorem c_Ro_entryOf {p a1 a2 a3 : Nat} {F : fx_F} {v : fx_V} {F' : fx_F} (h : Cl k_Ro_entryOf [(2, p), (0, a1), (0, a2), (0, a3)] F v F') : ∃ n, Rn n k_Ro_entryOf 0 [(2, p), (0, a1), (0, a2), (0, a3)] [] F v F' := by
  obtain ⟨n, s, hs, h⟩ := h
  rw [sg_22] at hs
  cases hs
  exact ⟨n, h⟩
set_option maxRecDepth 40000 in
theorem q_Ro_entryOf_0 {n : Nat} {p a1 a2 a3 : Nat} {F : fx_F} {v : fx_V} {F' : fx_F} (h : Rn n k_Ro_entryOf 0 [(2, p), (0, a1), (0, a2), (0, a3)] [] F v F') :
  v = (0, F (p + 2) (i_add (i_add (i_mul a1 20) (i_mul 2 a2)) a3)) ∧ F' = F := by
  have t := q_ok cv_22 ap_22 (hd := []) h rfl rfl
  exact t
-- TurnNet$Routes.forget()V
theorem c_Ro_forget {p : Nat} {F : fx_F} {v : fx_V} {F' : fx_F} (h : Cl k_Ro_forget [(2, p)] F v F') : ∃ n, Rn n k_Ro_forget 0 [(2, p)] [] F v F' := by
  obtain ⟨n, s, hs, h⟩ := h
  rw [sg_23] at hs
  cases hs
  exact ⟨n, h⟩
set_option maxRecDepth 40000 in
theorem q_Ro_forget_0 {n : Nat} {p : Nat} {F : fx_F} {v : fx_V} {F' : fx_F} (h : Rn n k_Ro_forget 0 [(2, p)] [] F v F') :
  v = (2, 0) ∧ F' = (fu (fu F p 3 0) p 4 0) := by
  have t := q_ok cv_23 ap_23 (hd := []) h rfl rfl
  exact t
-- TurnNet$Routes.hopsOf(II)I
theorem c_Ro_hopsOf {p a1 a2 : Nat} {F : fx_F} {v : fx_V} {F' : fx_F} (h : Cl k_Ro_hopsOf [(2, p), (0, a1), (0, a2)] F v F') : ∃ n, Rn n k_Ro_hopsOf 0 [(2, p), (0, a1), (0, a2)] [] F v F' := by
  obtain ⟨n, s, hs, h⟩ := h
  rw [sg_24] at hs
  cases hs
  exact ⟨n, h⟩
set_option maxRecDepth 40000 in
theorem q_Ro_hopsOf_0 {n : Nat} {p a1 a2 : Nat} {F : fx_F} {v : fx_V} {F' : fx_F} (h : Rn n k_Ro_hopsOf 0 [(2, p), (0, a1), (0, a2)] [] F v F') :
  v = (0, F (p + 1) (i_add (i_mul a2 20) (i_mul 2 a1))) ∧ F' = F := by
  have t := q_ok cv_24 ap_24 (hd := []) h rfl rfl
  exact t
-- TurnNet$Routes.placeBehind(I)I
theorem c_Ro_placeBehind {p a1 : Nat} {F : fx_F} {v : fx_V} {F' : fx_F} (h : Cl k_Ro_placeBehind [(2, p), (0, a1)] F v F') : ∃ n, Rn n k_Ro_placeBehind 0 [(2, p), (0, a1)] [] F v F' := by
  obtain ⟨n, s, hs, h⟩ := h
  rw [sg_25] at hs
  cases hs
  exact ⟨n, h⟩
set_option maxRecDepth 40000 in
theorem q_Ro_placeBehind_0 {n : Nat} {p a1 : Nat} {F : fx_F} {v : fx_V} {F' : fx_F} (h : Rn n k_Ro_placeBehind 0 [(2, p), (0, a1)] [] F v F') :
  v = (0, i_add (i_mul 2 (F 5 a1)) (F (p + 5) a1)) ∧ F' = F := by
  have t := q_ok cv_25 ap_25 (hd := []) h rfl rfl
  exact t
-- TurnNet$Routes.reach(III)Z
theorem c_Ro_reach {p a1 a2 a3 : Nat} {F : fx_F} {v : fx_V} {F' : fx_F} (h : Cl k_Ro_reach [(2, p), (0, a1), (0, a2), (0, a3)] F v F') : ∃ n, Rn n k_Ro_reach 0 [(2, p), (0, a1), (0, a2), (0, a3)] [] F v F' := by
  obtain ⟨n, s, hs, h⟩ := h
  rw [sg_26] at hs
  cases hs
  exact ⟨n, h⟩
set_option maxRecDepth 40000 in
theorem q_Ro_reach_0 {n : Nat} {p a1 a2 a3 : Nat} {F : fx_F} {v : fx_V} {F' : fx_F} (h : Rn n k_Ro_reach 0 [(2, p), (0, a1), (0, a2), (0, a3)] [] F v F') :
  ((F (p + 1) a1) ≠ 4294967295 →
   v = (0, 0) ∧ F' = F) ∧
  ((F (p + 1) a1) = 4294967295 →
   ((F (p + 1) a2) = (i_sub a3 1) →
     v = (0, 1) ∧ F' = (fu F (p + 1) a1 a3)) ∧
    ((F (p + 1) a2) ≠ (i_sub a3 1) →
     v = (0, 0) ∧ F' = F)) := by
  have t := q_ok cv_26 ap_26 (hd := []) h rfl rfl
  exact t
-- TurnNet$Routes.stands(I)Z
theorem c_Ro_stands {p a1 : Nat} {F : fx_F} {v : fx_V} {F' : fx_F} (h : Cl k_Ro_stands [(2, p), (0, a1)] F v F') : ∃ n, Rn n k_Ro_stands 0 [(2, p), (0, a1)] [] F v F' := by
  obtain ⟨n, s, hs, h⟩ := h
  rw [sg_27] at hs
  cases hs
  exact ⟨n, h⟩
set_option maxRecDepth 40000 in
theorem q_Ro_stands_0 {n : Nat} {p a1 : Nat} {F : fx_F} {v : fx_V} {F' : fx_F} (h : Rn n k_Ro_stands 0 [(2, p), (0, a1)] [] F v F') :
  ((i_and (i_shr (F p 2) (i_shr a1 1)) 1) ≠ 1 →
   v = (0, 0) ∧ F' = F) ∧
  ((i_and (i_shr (F p 2) (i_shr a1 1)) 1) = 1 →
   v = (0, 1) ∧ F' = F) := by
  have t := q_ok cv_27 ap_27 (hd := []) h rfl rfl
  exact t
-- TurnNet$State.begin(III)V
theorem c_St_begin {p a1 a2 a3 : Nat} {F : fx_F} {v : fx_V} {F' : fx_F} (h : Cl k_St_begin [(2, p), (0, a1), (0, a2), (0, a3)] F v F') : ∃ n, Rn n k_St_begin 0 [(2, p), (0, a1), (0, a2), (0, a3), (3, 0)] [] F v F' := by
  obtain ⟨n, s, hs, h⟩ := h
  rw [sg_28] at hs
  cases hs
  exact ⟨n, h⟩
set_option maxRecDepth 40000 in
theorem q_St_begin_0 {n : Nat} {p a1 a2 a3 : Nat} {F : fx_F} {v : fx_V} {F' : fx_F} (h : Rn n k_St_begin 0 [(2, p), (0, a1), (0, a2), (0, a3), (3, 0)] [] F v F') :
  ∃ m, m < n ∧ Rn m k_St_begin 23 [(2, p), (3, 0), (3, 0), (3, 0), (0, 0)] [] (fu (fu (fu (fu F p 0 a1) p 1 a2) p 2 a3) p 3 0) v F' := by
  have t := q_ok cv_28 ap_28 (hd := [(23, [1, 0, 0, 0, 1])]) h rfl rfl
  exact t
set_option maxRecDepth 40000 in
theorem q_St_begin_23 {n : Nat} {p l4 : Nat} {F : fx_F} {v : fx_V} {F' : fx_F} (h : Rn n k_St_begin 23 [(2, p), (3, 0), (3, 0), (3, 0), (0, l4)] [] F v F') :
  (s_le 12 l4 →
   v = (2, 0) ∧ F' = F) ∧
  (s_lt l4 12 →
   ∃ m, m < n ∧ Rn m k_St_begin 23 [(2, p), (3, 0), (3, 0), (3, 0), (0, i_add l4 1)] [] (fu F (p + 1) l4 4294967295) v F') := by
  have t := q_ok cv_28 ap_28 (hd := [(23, [1, 0, 0, 0, 1])]) h rfl rfl
  exact t
-- TurnNet$State.countAt(I)I
theorem c_St_countAt {p a1 : Nat} {F : fx_F} {v : fx_V} {F' : fx_F} (h : Cl k_St_countAt [(2, p), (0, a1)] F v F') : ∃ n, Rn n k_St_countAt 0 [(2, p), (0, a1), (3, 0), (3, 0)] [] F v F' := by
  obtain ⟨n, s, hs, h⟩ := h
  rw [sg_29] at hs
  cases hs
  exact ⟨n, h⟩
set_option maxRecDepth 40000 in
theorem q_St_countAt_0 {n : Nat} {p a1 : Nat} {F : fx_F} {v : fx_V} {F' : fx_F} (h : Rn n k_St_countAt 0 [(2, p), (0, a1), (3, 0), (3, 0)] [] F v F') :
  ∃ m, m < n ∧ Rn m k_St_countAt 4 [(2, p), (0, a1), (0, 0), (0, 0)] [] F v F' := by
  have t := q_ok cv_29 ap_29 (hd := [(4, [1, 1, 1, 1])]) h rfl rfl
  exact t
set_option maxRecDepth 40000 in
theorem q_St_countAt_4 {n : Nat} {p l1 l2 l3 : Nat} {F : fx_F} {v : fx_V} {F' : fx_F} (h : Rn n k_St_countAt 4 [(2, p), (0, l1), (0, l2), (0, l3)] [] F v F') :
  (s_le 12 l3 →
   v = (0, l2) ∧ F' = F) ∧
  (s_lt l3 12 →
   ((F (p + 1) l3) ≠ l1 →
     ∃ m, m < n ∧ Rn m k_St_countAt 4 [(2, p), (0, l1), (0, l2), (0, i_add l3 1)] [] F v F') ∧
    ((F (p + 1) l3) = l1 →
     ∃ m, m < n ∧ Rn m k_St_countAt 4 [(2, p), (0, l1), (0, i_add l2 1), (0, i_add l3 1)] [] F v F')) := by
  have t := q_ok cv_29 ap_29 (hd := [(4, [1, 1, 1, 1])]) h rfl rfl
  exact t
-- TurnNet$State.countCameBy(I)I
theorem c_St_countCameBy {p a1 : Nat} {F : fx_F} {v : fx_V} {F' : fx_F} (h : Cl k_St_countCameBy [(2, p), (0, a1)] F v F') : ∃ n, Rn n k_St_countCameBy 0 [(2, p), (0, a1), (3, 0), (3, 0)] [] F v F' := by
  obtain ⟨n, s, hs, h⟩ := h
  rw [sg_30] at hs
  cases hs
  exact ⟨n, h⟩
set_option maxRecDepth 40000 in
theorem q_St_countCameBy_0 {n : Nat} {p a1 : Nat} {F : fx_F} {v : fx_V} {F' : fx_F} (h : Rn n k_St_countCameBy 0 [(2, p), (0, a1), (3, 0), (3, 0)] [] F v F') :
  ∃ m, m < n ∧ Rn m k_St_countCameBy 4 [(2, p), (0, a1), (0, 0), (0, 0)] [] F v F' := by
  have t := q_ok cv_30 ap_30 (hd := [(4, [1, 1, 1, 1])]) h rfl rfl
  exact t
set_option maxRecDepth 40000 in
theorem q_St_countCameBy_4 {n : Nat} {p l1 l2 l3 : Nat} {F : fx_F} {v : fx_V} {F' : fx_F} (h : Rn n k_St_countCameBy 4 [(2, p), (0, l1), (0, l2), (0, l3)] [] F v F') :
  (s_le 12 l3 →
   v = (0, l2) ∧ F' = F) ∧
  (s_lt l3 12 →
   ((F (p + 1) l3) = 4294967295 →
     ∃ m, m < n ∧ Rn m k_St_countCameBy 4 [(2, p), (0, l1), (0, l2), (0, i_add l3 1)] [] F v F') ∧
    ((F (p + 1) l3) ≠ 4294967295 →
     ((F (p + 3) l3) ≠ l1 →
       ∃ m, m < n ∧ Rn m k_St_countCameBy 4 [(2, p), (0, l1), (0, l2), (0, i_add l3 1)] [] F v F') ∧
      ((F (p + 3) l3) = l1 →
       ∃ m, m < n ∧ Rn m k_St_countCameBy 4 [(2, p), (0, l1), (0, i_add l2 1), (0, i_add l3 1)] [] F v F'))) := by
  have t := q_ok cv_30 ap_30 (hd := [(4, [1, 1, 1, 1])]) h rfl rfl
  exact t
-- TurnNet$State.countPackets()I
theorem c_St_countPackets {p : Nat} {F : fx_F} {v : fx_V} {F' : fx_F} (h : Cl k_St_countPackets [(2, p)] F v F') : ∃ n, Rn n k_St_countPackets 0 [(2, p), (3, 0), (3, 0)] [] F v F' := by
  obtain ⟨n, s, hs, h⟩ := h
  rw [sg_31] at hs
  cases hs
  exact ⟨n, h⟩
set_option maxRecDepth 40000 in
theorem q_St_countPackets_0 {n : Nat} {p : Nat} {F : fx_F} {v : fx_V} {F' : fx_F} (h : Rn n k_St_countPackets 0 [(2, p), (3, 0), (3, 0)] [] F v F') :
  ∃ m, m < n ∧ Rn m k_St_countPackets 4 [(2, p), (0, 0), (0, 0)] [] F v F' := by
  have t := q_ok cv_31 ap_31 (hd := [(4, [1, 1, 1])]) h rfl rfl
  exact t
set_option maxRecDepth 40000 in
theorem q_St_countPackets_4 {n : Nat} {p l1 l2 : Nat} {F : fx_F} {v : fx_V} {F' : fx_F} (h : Rn n k_St_countPackets 4 [(2, p), (0, l1), (0, l2)] [] F v F') :
  (s_le 12 l2 →
   v = (0, l1) ∧ F' = F) ∧
  (s_lt l2 12 →
   ((F (p + 1) l2) = 4294967295 →
     ∃ m, m < n ∧ Rn m k_St_countPackets 4 [(2, p), (0, l1), (0, i_add l2 1)] [] F v F') ∧
    ((F (p + 1) l2) ≠ 4294967295 →
     ∃ m, m < n ∧ Rn m k_St_countPackets 4 [(2, p), (0, i_add l1 1), (0, i_add l2 1)] [] F v F')) := by
  have t := q_ok cv_31 ap_31 (hd := [(4, [1, 1, 1])]) h rfl rfl
  exact t
-- TurnNet$State.freePacket()I
theorem c_St_freePacket {p : Nat} {F : fx_F} {v : fx_V} {F' : fx_F} (h : Cl k_St_freePacket [(2, p)] F v F') : ∃ n, Rn n k_St_freePacket 0 [(2, p), (3, 0)] [] F v F' := by
  obtain ⟨n, s, hs, h⟩ := h
  rw [sg_32] at hs
  cases hs
  exact ⟨n, h⟩
set_option maxRecDepth 40000 in
theorem q_St_freePacket_0 {n : Nat} {p : Nat} {F : fx_F} {v : fx_V} {F' : fx_F} (h : Rn n k_St_freePacket 0 [(2, p), (3, 0)] [] F v F') :
  ∃ m, m < n ∧ Rn m k_St_freePacket 2 [(2, p), (0, 0)] [] F v F' := by
  have t := q_ok cv_32 ap_32 (hd := [(2, [1, 1])]) h rfl rfl
  exact t
set_option maxRecDepth 40000 in
theorem q_St_freePacket_2 {n : Nat} {p l1 : Nat} {F : fx_F} {v : fx_V} {F' : fx_F} (h : Rn n k_St_freePacket 2 [(2, p), (0, l1)] [] F v F') :
  (s_le 12 l1 →
   v = (0, 4294967295) ∧ F' = F) ∧
  (s_lt l1 12 →
   ((F (p + 1) l1) ≠ 4294967295 →
     ∃ m, m < n ∧ Rn m k_St_freePacket 2 [(2, p), (0, i_add l1 1)] [] F v F') ∧
    ((F (p + 1) l1) = 4294967295 →
     v = (0, l1) ∧ F' = F)) := by
  have t := q_ok cv_32 ap_32 (hd := [(2, [1, 1])]) h rfl rfl
  exact t
-- TurnNet$State.hasPacket(I)Z
theorem c_St_hasPacket {p a1 : Nat} {F : fx_F} {v : fx_V} {F' : fx_F} (h : Cl k_St_hasPacket [(2, p), (0, a1)] F v F') : ∃ n, Rn n k_St_hasPacket 0 [(2, p), (0, a1)] [] F v F' := by
  obtain ⟨n, s, hs, h⟩ := h
  rw [sg_33] at hs
  cases hs
  exact ⟨n, h⟩
set_option maxRecDepth 40000 in
theorem q_St_hasPacket_0 {n : Nat} {p a1 : Nat} {F : fx_F} {v : fx_V} {F' : fx_F} (h : Rn n k_St_hasPacket 0 [(2, p), (0, a1)] [] F v F') :
  (s_lt a1 0 →
   v = (0, 0) ∧ F' = F) ∧
  (s_le 0 a1 →
   (s_le 12 a1 →
     v = (0, 0) ∧ F' = F) ∧
    (s_lt a1 12 →
     ((F (p + 1) a1) = 4294967295 →
       v = (0, 0) ∧ F' = F) ∧
      ((F (p + 1) a1) ≠ 4294967295 →
       v = (0, 1) ∧ F' = F))) := by
  have t := q_ok cv_33 ap_33 (hd := []) h rfl rfl
  exact t
-- TurnNet$State.stands(I)Z
theorem c_St_stands {p a1 : Nat} {F : fx_F} {v : fx_V} {F' : fx_F} (h : Cl k_St_stands [(2, p), (0, a1)] F v F') : ∃ n, Rn n k_St_stands 0 [(2, p), (0, a1)] [] F v F' := by
  obtain ⟨n, s, hs, h⟩ := h
  rw [sg_34] at hs
  cases hs
  exact ⟨n, h⟩
set_option maxRecDepth 40000 in
theorem q_St_stands_0 {n : Nat} {p a1 : Nat} {F : fx_F} {v : fx_V} {F' : fx_F} (h : Rn n k_St_stands 0 [(2, p), (0, a1)] [] F v F') :
  ((i_and (i_shr (F p 2) a1) 1) ≠ 1 →
   v = (0, 0) ∧ F' = F) ∧
  ((i_and (i_shr (F p 2) a1) 1) = 1 →
   v = (0, 1) ∧ F' = F) := by
  have t := q_ok cv_34 ap_34 (hd := []) h rfl rfl
  exact t
-- TurnNet$Traffic.draw(I)I
theorem c_Tr_draw {a0 : Nat} {F : fx_F} {v : fx_V} {F' : fx_F} (h : Cl k_Tr_draw [(0, a0)] F v F') : ∃ n, Rn n k_Tr_draw 0 [(0, a0)] [] F v F' := by
  obtain ⟨n, s, hs, h⟩ := h
  rw [sg_35] at hs
  cases hs
  exact ⟨n, h⟩
set_option maxRecDepth 40000 in
theorem q_Tr_draw_0 {n : Nat} {a0 : Nat} {F : fx_F} {v : fx_V} {F' : fx_F} (h : Rn n k_Tr_draw 0 [(0, a0)] [] F v F') :
  v = (0, i_rem (i_add (i_mul 137 a0) 71) 10007) ∧ F' = F := by
  have t := q_ok cv_35 ap_35 (hd := []) h rfl rfl
  exact t
-- TurnNet$Traffic.startCount()V
theorem c_Tr_startCount {F : fx_F} {v : fx_V} {F' : fx_F} (h : Cl k_Tr_startCount [(2, 50)] F v F') : ∃ n, Rn n k_Tr_startCount 0 [(2, 50)] [] F v F' := by
  obtain ⟨n, s, hs, h⟩ := h
  rw [sg_36] at hs
  cases hs
  exact ⟨n, h⟩
set_option maxRecDepth 40000 in
theorem q_Tr_startCount_0 {n : Nat} {F : fx_F} {v : fx_V} {F' : fx_F} (h : Rn n k_Tr_startCount 0 [(2, 50)] [] F v F') :
  v = (2, 0) ∧ F' = (fu (fu F 50 1 0) 50 2 0) := by
  have t := q_ok cv_36 ap_36 (hd := []) h rfl rfl
  exact t
-- TurnNet$Turns.lawful(IJ)J
theorem c_Tu_lawful {a1 a2 : Nat} {F : fx_F} {v : fx_V} {F' : fx_F} (h : Cl k_Tu_lawful [(2, 45), (0, a1), (1, a2)] F v F') : ∃ n, Rn n k_Tu_lawful 0 [(2, 45), (0, a1), (1, a2), (3, 0), (3, 0), (3, 0)] [] F v F' := by
  obtain ⟨n, s, hs, h⟩ := h
  rw [sg_37] at hs
  cases hs
  exact ⟨n, h⟩
set_option maxRecDepth 40000 in
theorem q_Tu_lawful_0 {n : Nat} {a1 a2 : Nat} {F : fx_F} {v : fx_V} {F' : fx_F} (h : Rn n k_Tu_lawful 0 [(2, 45), (0, a1), (1, a2), (3, 0), (3, 0), (3, 0)] [] F v F') :
  ((rx_f_lcmp (rx_j_and (rx_j_shr a2 a1) 1) 1) ≠ 0 →
   v = (1, rx_j_and (rx_j_and (F 46 (F 5 a1)) (rx_j_xor (rx_j_shl 1 (i_xor a1 1)) 18446744073709551615)) (rx_j_xor a2 18446744073709551615)) ∧ F' = F) ∧
  ((rx_f_lcmp (rx_j_and (rx_j_shr a2 a1) 1) 1) = 0 →
   v = (1, rx_j_and (F 46 (F 5 a1)) (rx_j_xor (rx_j_shl 1 (i_xor a1 1)) 18446744073709551615)) ∧ F' = F) := by
  have t := q_ok cv_37 ap_37 (hd := []) h rfl rfl
  exact t
-- TurnNet$Turns.leads(II)Z
theorem c_Tu_leads {a1 a2 : Nat} {F : fx_F} {v : fx_V} {F' : fx_F} (h : Cl k_Tu_leads [(2, 45), (0, a1), (0, a2)] F v F') : ∃ n, Rn n k_Tu_leads 0 [(2, 45), (0, a1), (0, a2)] [] F v F' := by
  obtain ⟨n, s, hs, h⟩ := h
  rw [sg_38] at hs
  cases hs
  exact ⟨n, h⟩
set_option maxRecDepth 40000 in
theorem q_Tu_leads_0 {n : Nat} {a1 a2 : Nat} {F : fx_F} {v : fx_V} {F' : fx_F} (h : Rn n k_Tu_leads 0 [(2, 45), (0, a1), (0, a2)] [] F v F') :
  ((rx_f_lcmp (rx_j_and (rx_j_shr (F 47 a1) a2) 1) 1) ≠ 0 →
   v = (0, 0) ∧ F' = F) ∧
  ((rx_f_lcmp (rx_j_and (rx_j_shr (F 47 a1) a2) 1) 1) = 0 →
   v = (0, 1) ∧ F' = F) := by
  have t := q_ok cv_38 ap_38 (hd := []) h rfl rfl
  exact t
-- TurnNet.end(I)I
theorem c_T_end {a1 : Nat} {F : fx_F} {v : fx_V} {F' : fx_F} (h : Cl k_T_end [(2, 2), (0, a1)] F v F') : ∃ n, Rn n k_T_end 0 [(2, 2), (0, a1)] [] F v F' := by
  obtain ⟨n, s, hs, h⟩ := h
  rw [sg_39] at hs
  cases hs
  exact ⟨n, h⟩
set_option maxRecDepth 40000 in
theorem q_T_end_0 {n : Nat} {a1 : Nat} {F : fx_F} {v : fx_V} {F' : fx_F} (h : Rn n k_T_end 0 [(2, 2), (0, a1)] [] F v F') :
  (s_lt a1 0 →
   v = (0, 4294967295) ∧ F' = F) ∧
  (s_le 0 a1 →
   (s_le a1 (F 10 1) →
     v = (0, a1) ∧ F' = (fu F 10 1 a1)) ∧
    (s_lt (F 10 1) a1 →
     v = (0, 4294967295) ∧ F' = F)) := by
  have t := q_ok cv_39 ap_39 (hd := []) h rfl rfl
  exact t
-- TurnNet.fault(I)I
theorem c_T_fault {a1 : Nat} {F : fx_F} {v : fx_V} {F' : fx_F} (h : Cl k_T_fault [(2, 2), (0, a1)] F v F') : ∃ n, Rn n k_T_fault 0 [(2, 2), (0, a1)] [] F v F' := by
  obtain ⟨n, s, hs, h⟩ := h
  rw [sg_40] at hs
  cases hs
  exact ⟨n, h⟩
set_option maxRecDepth 40000 in
theorem q_T_fault_0 {n : Nat} {a1 : Nat} {F : fx_F} {v : fx_V} {F' : fx_F} (h : Rn n k_T_fault 0 [(2, 2), (0, a1)] [] F v F') :
  (a1 ≠ 0 →
   (a1 ≠ 1 →
     v = (0, 4294967295) ∧ F' = F) ∧
    (a1 = 1 →
     v = (0, F 10 4) ∧ F' = F)) ∧
  (a1 = 0 →
   v = (0, F 10 3) ∧ F' = F) := by
  have t := q_ok cv_40 ap_40 (hd := []) h rfl rfl
  exact t
-- TurnNetModel.behind(IZ)I
theorem c_M_behind {a0 a1 : Nat} {F : fx_F} {v : fx_V} {F' : fx_F} (h : Cl k_M_behind [(0, a0), (0, a1)] F v F') : ∃ n, Rn n k_M_behind 0 [(0, a0), (0, a1)] [] F v F' := by
  obtain ⟨n, s, hs, h⟩ := h
  rw [sg_41] at hs
  cases hs
  exact ⟨n, h⟩
set_option maxRecDepth 40000 in
theorem q_M_behind_0 {n : Nat} {a0 a1 : Nat} {F : fx_F} {v : fx_V} {F' : fx_F} (h : Rn n k_M_behind 0 [(0, a0), (0, a1)] [] F v F') :
  (a0 = 1 →
   v = (0, 1) ∧ F' = F) ∧
  (a0 ≠ 1 →
   (a1 ≠ 0 →
     v = (0, 0) ∧ F' = F) ∧
    (a1 = 0 →
     v = (0, 1) ∧ F' = F)) := by
  have t := q_ok cv_41 ap_41 (hd := []) h rfl rfl
  exact t
-- TurnNetModel.bringBack()V
theorem c_M_bringBack {F : fx_F} {v : fx_V} {F' : fx_F} (h : Cl k_M_bringBack [(2, 175)] F v F') : ∃ n, Rn n k_M_bringBack 0 [(2, 175), (3, 0)] [] F v F' := by
  obtain ⟨n, s, hs, h⟩ := h
  rw [sg_43] at hs
  cases hs
  exact ⟨n, h⟩
set_option maxRecDepth 40000 in
theorem q_M_bringBack_0 {n : Nat} {F : fx_F} {v : fx_V} {F' : fx_F} (h : Rn n k_M_bringBack 0 [(2, 175), (3, 0)] [] F v F') :
  ∃ m, m < n ∧ Rn m k_M_bringBack 2 [(2, 175), (0, 0)] [] F v F' := by
  have t := q_ok cv_43 ap_43 (hd := [(2, [1, 1])]) h rfl rfl
  exact t
set_option maxRecDepth 40000 in
theorem q_M_bringBack_2 {n : Nat} {l1 : Nat} {F : fx_F} {v : fx_V} {F' : fx_F} (h : Rn n k_M_bringBack 2 [(2, 175), (0, l1)] [] F v F') :
  (s_le 103 l1 →
   v = (2, 0) ∧ F' = F) ∧
  (s_lt l1 103 →
   ∃ m, m < n ∧ Rn m k_M_bringBack 2 [(2, 175), (0, i_add l1 1)] [] (fu F 176 l1 (F 199 l1)) v F') := by
  have t := q_ok cv_43 ap_43 (hd := [(2, [1, 1])]) h rfl rfl
  exact t
-- TurnNetModel.cameBy(I)I
theorem c_M_cameBy {a1 : Nat} {F : fx_F} {v : fx_V} {F' : fx_F} (h : Cl k_M_cameBy [(2, 175), (0, a1)] F v F') : ∃ n, Rn n k_M_cameBy 0 [(2, 175), (0, a1), (3, 0), (3, 0)] [] F v F' := by
  obtain ⟨n, s, hs, h⟩ := h
  rw [sg_44] at hs
  cases hs
  exact ⟨n, h⟩
set_option maxRecDepth 40000 in
theorem q_M_cameBy_0 {n : Nat} {a1 : Nat} {F : fx_F} {v : fx_V} {F' : fx_F} (h : Rn n k_M_cameBy 0 [(2, 175), (0, a1), (3, 0), (3, 0)] [] F v F') :
  ∃ m, m < n ∧ Rn m k_M_cameBy 4 [(2, 175), (0, a1), (0, 0), (0, 0)] [] F v F' := by
  have t := q_ok cv_44 ap_44 (hd := [(4, [1, 1, 1, 1])]) h rfl rfl
  exact t
set_option maxRecDepth 40000 in
theorem q_M_cameBy_4 {n : Nat} {l1 l2 l3 : Nat} {F : fx_F} {v : fx_V} {F' : fx_F} (h : Rn n k_M_cameBy 4 [(2, 175), (0, l1), (0, l2), (0, l3)] [] F v F') :
  (s_le 12 l3 →
   v = (0, l2) ∧ F' = F) ∧
  (s_lt l3 12 →
   ((F 176 (i_add 41 l3)) ≠ 1 →
     ∃ m, m < n ∧ Rn m k_M_cameBy 4 [(2, 175), (0, l1), (0, i_add l2 0), (0, i_add l3 1)] [] F v F') ∧
    ((F 176 (i_add 41 l3)) = 1 →
     ((F 176 (i_add 77 l3)) ≠ l1 →
       ∃ m, m < n ∧ Rn m k_M_cameBy 4 [(2, 175), (0, l1), (0, i_add l2 0), (0, i_add l3 1)] [] F v F') ∧
      ((F 176 (i_add 77 l3)) = l1 →
       ∃ m, m < n ∧ Rn m k_M_cameBy 4 [(2, 175), (0, l1), (0, i_add l2 1), (0, i_add l3 1)] [] F v F'))) := by
  have t := q_ok cv_44 ap_44 (hd := [(4, [1, 1, 1, 1])]) h rfl rfl
  exact t
-- TurnNetModel.clearBank(I)V
theorem c_M_clearBank {a1 : Nat} {F : fx_F} {v : fx_V} {F' : fx_F} (h : Cl k_M_clearBank [(2, 175), (0, a1)] F v F') : ∃ n, Rn n k_M_clearBank 0 [(2, 175), (0, a1)] [] F v F' := by
  obtain ⟨n, s, hs, h⟩ := h
  rw [sg_45] at hs
  cases hs
  exact ⟨n, h⟩
set_option maxRecDepth 40000 in
theorem q_M_clearBank_0 {n : Nat} {a1 : Nat} {F : fx_F} {v : fx_V} {F' : fx_F} (h : Rn n k_M_clearBank 0 [(2, 175), (0, a1)] [] F v F') :
  v = (2, 0) ∧ F' = (fu (fu (fu (fu (fu (fu F 177 a1 0) 178 a1 0) 179 a1 0) 180 a1 1) 181 a1 0) 182 a1 0) := by
  have t := q_ok cv_45 ap_45 (hd := []) h rfl rfl
  exact t
-- TurnNetModel.draw()I
theorem c_M_draw {F : fx_F} {v : fx_V} {F' : fx_F} (h : Cl k_M_draw [(2, 175)] F v F') : ∃ n, Rn n k_M_draw 0 [(2, 175)] [] F v F' := by
  obtain ⟨n, s, hs, h⟩ := h
  rw [sg_46] at hs
  cases hs
  exact ⟨n, h⟩
set_option maxRecDepth 40000 in
theorem q_M_draw_0 {n : Nat} {F : fx_F} {v : fx_V} {F' : fx_F} (h : Rn n k_M_draw 0 [(2, 175)] [] F v F') :
  v = (0, i_rem (i_add (i_mul 137 (F 175 49)) 71) 10007) ∧ F' = (fu F 175 49 (i_rem (i_add (i_mul 137 (F 175 49)) 71) 10007)) := by
  have t := q_ok cv_46 ap_46 (hd := []) h rfl rfl
  exact t
-- TurnNetModel.end(I)I
theorem c_M_end {a1 : Nat} {F : fx_F} {v : fx_V} {F' : fx_F} (h : Cl k_M_end [(2, 175), (0, a1)] F v F') : ∃ n, Rn n k_M_end 0 [(2, 175), (0, a1)] [] F v F' := by
  obtain ⟨n, s, hs, h⟩ := h
  rw [sg_47] at hs
  cases hs
  exact ⟨n, h⟩
set_option maxRecDepth 40000 in
theorem q_M_end_0 {n : Nat} {a1 : Nat} {F : fx_F} {v : fx_V} {F' : fx_F} (h : Rn n k_M_end 0 [(2, 175), (0, a1)] [] F v F') :
  (s_lt a1 0 →
   v = (0, 4294967295) ∧ F' = F) ∧
  (s_le 0 a1 →
   (s_le a1 (F 175 11) →
     v = (0, a1) ∧ F' = (fu F 175 11 a1)) ∧
    (s_lt (F 175 11) a1 →
     v = (0, 4294967295) ∧ F' = F)) := by
  have t := q_ok cv_47 ap_47 (hd := []) h rfl rfl
  exact t
-- TurnNetModel.endAt(III)I
theorem c_M_endAt {a0 a1 a2 : Nat} {F : fx_F} {v : fx_V} {F' : fx_F} (h : Cl k_M_endAt [(0, a0), (0, a1), (0, a2)] F v F') : ∃ n, Rn n k_M_endAt 0 [(0, a0), (0, a1), (0, a2)] [] F v F' := by
  obtain ⟨n, s, hs, h⟩ := h
  rw [sg_48] at hs
  cases hs
  exact ⟨n, h⟩
set_option maxRecDepth 40000 in
theorem q_M_endAt_0 {n : Nat} {a0 a1 a2 : Nat} {F : fx_F} {v : fx_V} {F' : fx_F} (h : Rn n k_M_endAt 0 [(0, a0), (0, a1), (0, a2)] [] F v F') :
  v = (0, i_add (i_add (i_mul 40 a0) (i_mul 2 a1)) a2) ∧ F' = F := by
  have t := q_ok cv_48 ap_48 (hd := []) h rfl rfl
  exact t
-- TurnNetModel.fault(I)I
theorem c_M_fault {a1 : Nat} {F : fx_F} {v : fx_V} {F' : fx_F} (h : Cl k_M_fault [(2, 175), (0, a1)] F v F') : ∃ n, Rn n k_M_fault 0 [(2, 175), (0, a1)] [] F v F' := by
  obtain ⟨n, s, hs, h⟩ := h
  rw [sg_50] at hs
  cases hs
  exact ⟨n, h⟩
set_option maxRecDepth 40000 in
theorem q_M_fault_0 {n : Nat} {a1 : Nat} {F : fx_F} {v : fx_V} {F' : fx_F} (h : Rn n k_M_fault 0 [(2, 175), (0, a1)] [] F v F') :
  (a1 ≠ 0 →
   (a1 ≠ 1 →
     v = (0, 4294967295) ∧ F' = F) ∧
    (a1 = 1 →
     v = (0, F 175 21) ∧ F' = F)) ∧
  (a1 = 0 →
   v = (0, F 175 20) ∧ F' = F) := by
  have t := q_ok cv_50 ap_50 (hd := []) h rfl rfl
  exact t
-- TurnNetModel.feed(IIIII)I
theorem c_M_feed {a1 a2 a3 a4 a5 : Nat} {F : fx_F} {v : fx_V} {F' : fx_F} (h : Cl k_M_feed [(2, 175), (0, a1), (0, a2), (0, a3), (0, a4), (0, a5)] F v F') : ∃ n, Rn n k_M_feed 0 [(2, 175), (0, a1), (0, a2), (0, a3), (0, a4), (0, a5), (3, 0), (3, 0)] [] F v F' := by
  obtain ⟨n, s, hs, h⟩ := h
  rw [sg_51] at hs
  cases hs
  exact ⟨n, h⟩
set_option maxRecDepth 40000 in
theorem q_M_feed_0 {n : Nat} {a1 a2 a3 a4 a5 : Nat} {F : fx_F} {v : fx_V} {F' : fx_F} (h : Rn n k_M_feed 0 [(2, 175), (0, a1), (0, a2), (0, a3), (0, a4), (0, a5), (3, 0), (3, 0)] [] F v F') :
  (s_le (i_add (F 175 11) 20) 800 →
   ∃ m, m < n ∧ Rn m k_M_feed 18 [(2, 175), (0, a1), (0, a2), (0, a3), (0, a4), (0, a5), (0, 0), (3, 0)] [] F v F') ∧
  (s_lt 800 (i_add (F 175 11) 20) →
   v = (0, 4294967295) ∧ F' = F) := by
  have t := q_ok cv_51 ap_51 (hd := [(18, [1, 1, 1, 1, 1, 1, 1, 0])]) h rfl rfl
  exact t
set_option maxRecDepth 40000 in
theorem q_M_feed_18 {n : Nat} {l1 l2 l3 l4 l5 l6 : Nat} {F : fx_F} {v : fx_V} {F' : fx_F} (h : Rn n k_M_feed 18 [(2, 175), (0, l1), (0, l2), (0, l3), (0, l4), (0, l5), (0, l6), (3, 0)] [] F v F') :
  (s_le 20 l6 →
   v = (0, i_add (F 175 11) 20) ∧ F' = (fu F 175 11 (i_add (F 175 11) 20))) ∧
  (s_lt l6 20 →
   (s_le 4 l6 →
     (s_le 8 l6 →
       (s_le 12 l6 →
         (s_le 16 l6 →
           ∃ m, m < n ∧ Rn m k_M_feed 18 [(2, 175), (0, l1), (0, l2), (0, l3), (0, l4), (0, l5), (0, i_add l6 1), (3, 0)] [] (fu F 185 (i_add (F 175 11) l6) (i_2b (i_shr l5 (i_sub 24 (i_mul 8 (i_and l6 3)))))) v F') ∧
          (s_lt l6 16 →
           ∃ m, m < n ∧ Rn m k_M_feed 18 [(2, 175), (0, l1), (0, l2), (0, l3), (0, l4), (0, l5), (0, i_add l6 1), (3, 0)] [] (fu F 185 (i_add (F 175 11) l6) (i_2b (i_shr l4 (i_sub 24 (i_mul 8 (i_and l6 3)))))) v F')) ∧
        (s_lt l6 12 →
         ∃ m, m < n ∧ Rn m k_M_feed 18 [(2, 175), (0, l1), (0, l2), (0, l3), (0, l4), (0, l5), (0, i_add l6 1), (3, 0)] [] (fu F 185 (i_add (F 175 11) l6) (i_2b (i_shr l3 (i_sub 24 (i_mul 8 (i_and l6 3)))))) v F')) ∧
      (s_lt l6 8 →
       ∃ m, m < n ∧ Rn m k_M_feed 18 [(2, 175), (0, l1), (0, l2), (0, l3), (0, l4), (0, l5), (0, i_add l6 1), (3, 0)] [] (fu F 185 (i_add (F 175 11) l6) (i_2b (i_shr l2 (i_sub 24 (i_mul 8 (i_and l6 3)))))) v F')) ∧
    (s_lt l6 4 →
     ∃ m, m < n ∧ Rn m k_M_feed 18 [(2, 175), (0, l1), (0, l2), (0, l3), (0, l4), (0, l5), (0, i_add l6 1), (3, 0)] [] (fu F 185 (i_add (F 175 11) l6) (i_2b (i_shr l1 (i_sub 24 (i_mul 8 (i_and l6 3)))))) v F')) := by
  have t := q_ok cv_51 ap_51 (hd := [(18, [1, 1, 1, 1, 1, 1, 1, 0])]) h rfl rfl
  exact t
-- TurnNetModel.freePacket()I
theorem c_M_freePacket {F : fx_F} {v : fx_V} {F' : fx_F} (h : Cl k_M_freePacket [(2, 175)] F v F') : ∃ n, Rn n k_M_freePacket 0 [(2, 175), (3, 0)] [] F v F' := by
  obtain ⟨n, s, hs, h⟩ := h
  rw [sg_52] at hs
  cases hs
  exact ⟨n, h⟩
set_option maxRecDepth 40000 in
theorem q_M_freePacket_0 {n : Nat} {F : fx_F} {v : fx_V} {F' : fx_F} (h : Rn n k_M_freePacket 0 [(2, 175), (3, 0)] [] F v F') :
  ∃ m, m < n ∧ Rn m k_M_freePacket 2 [(2, 175), (0, 0)] [] F v F' := by
  have t := q_ok cv_52 ap_52 (hd := [(2, [1, 1])]) h rfl rfl
  exact t
set_option maxRecDepth 40000 in
theorem q_M_freePacket_2 {n : Nat} {l1 : Nat} {F : fx_F} {v : fx_V} {F' : fx_F} (h : Rn n k_M_freePacket 2 [(2, 175), (0, l1)] [] F v F') :
  (s_le 12 l1 →
   v = (0, 4294967295) ∧ F' = F) ∧
  (s_lt l1 12 →
   ((F 176 (i_add 41 l1)) ≠ 0 →
     ∃ m, m < n ∧ Rn m k_M_freePacket 2 [(2, 175), (0, i_add l1 1)] [] F v F') ∧
    ((F 176 (i_add 41 l1)) = 0 →
     v = (0, l1) ∧ F' = F)) := by
  have t := q_ok cv_52 ap_52 (hd := [(2, [1, 1])]) h rfl rfl
  exact t
-- TurnNetModel.isAbove(II)Z
theorem c_M_isAbove {a1 a2 : Nat} {F : fx_F} {v : fx_V} {F' : fx_F} (h : Cl k_M_isAbove [(2, 175), (0, a1), (0, a2)] F v F') : ∃ n, Rn n k_M_isAbove 0 [(2, 175), (0, a1), (0, a2)] [] F v F' := by
  obtain ⟨n, s, hs, h⟩ := h
  rw [sg_53] at hs
  cases hs
  exact ⟨n, h⟩
set_option maxRecDepth 40000 in
theorem q_M_isAbove_0 {n : Nat} {a1 a2 : Nat} {F : fx_F} {v : fx_V} {F' : fx_F} (h : Rn n k_M_isAbove 0 [(2, 175), (0, a1), (0, a2)] [] F v F') :
  (s_lt (F 189 a1) (F 189 a2) →
   v = (0, 1) ∧ F' = F) ∧
  (s_le (F 189 a2) (F 189 a1) →
   ((F 189 a1) ≠ (F 189 a2) →
     v = (0, 0) ∧ F' = F) ∧
    ((F 189 a1) = (F 189 a2) →
     (s_le a2 a1 →
       v = (0, 0) ∧ F' = F) ∧
      (s_lt a1 a2 →
       v = (0, 1) ∧ F' = F))) := by
  have t := q_ok cv_53 ap_53 (hd := []) h rfl rfl
  exact t
-- TurnNetModel.isIn(III)Z
theorem c_M_isIn {a0 a1 a2 : Nat} {F : fx_F} {v : fx_V} {F' : fx_F} (h : Cl k_M_isIn [(0, a0), (0, a1), (0, a2)] F v F') : ∃ n, Rn n k_M_isIn 0 [(0, a0), (0, a1), (0, a2)] [] F v F' := by
  obtain ⟨n, s, hs, h⟩ := h
  rw [sg_56] at hs
  cases hs
  exact ⟨n, h⟩
set_option maxRecDepth 40000 in
theorem q_M_isIn_0 {n : Nat} {a0 a1 a2 : Nat} {F : fx_F} {v : fx_V} {F' : fx_F} (h : Rn n k_M_isIn 0 [(0, a0), (0, a1), (0, a2)] [] F v F') :
  (s_lt a0 a1 →
   v = (0, 0) ∧ F' = F) ∧
  (s_le a1 a0 →
   (s_lt a2 a0 →
     v = (0, 0) ∧ F' = F) ∧
    (s_le a0 a2 →
     v = (0, 1) ∧ F' = F)) := by
  have t := q_ok cv_56 ap_56 (hd := []) h rfl rfl
  exact t
-- TurnNetModel.keepAct()V
theorem c_M_keepAct {F : fx_F} {v : fx_V} {F' : fx_F} (h : Cl k_M_keepAct [(2, 175)] F v F') : ∃ n, Rn n k_M_keepAct 0 [(2, 175), (3, 0)] [] F v F' := by
  obtain ⟨n, s, hs, h⟩ := h
  rw [sg_61] at hs
  cases hs
  exact ⟨n, h⟩
set_option maxRecDepth 40000 in
theorem q_M_keepAct_0 {n : Nat} {F : fx_F} {v : fx_V} {F' : fx_F} (h : Rn n k_M_keepAct 0 [(2, 175), (3, 0)] [] F v F') :
  ((F 175 56) ≠ 20 →
   ∃ m, m < n ∧ Rn m k_M_keepAct 51 [(2, 175), (0, 0)] [] F v F') ∧
  ((F 175 56) = 20 →
   ∃ m, m < n ∧ Rn m k_M_keepAct 11 [(2, 175), (0, 0)] [] F v F') := by
  have t := q_ok cv_61 ap_61 (hd := [(11, [1, 1]), (51, [1, 1])]) h rfl rfl
  exact t
set_option maxRecDepth 40000 in
theorem q_M_keepAct_51 {n : Nat} {l1 : Nat} {F : fx_F} {v : fx_V} {F' : fx_F} (h : Rn n k_M_keepAct 51 [(2, 175), (0, l1)] [] F v F') :
  (s_le 103 l1 →
   v = (2, 0) ∧ F' = (fu (fu F 175 56 (i_add (F 175 56) 1)) 175 57 0)) ∧
  (s_lt l1 103 →
   ∃ m, m < n ∧ Rn m k_M_keepAct 51 [(2, 175), (0, i_add l1 1)] [] (fu F 204 (i_add (i_mul 103 (F 175 56)) l1) (F 176 l1)) v F') := by
  have t := q_ok cv_61 ap_61 (hd := [(11, [1, 1]), (51, [1, 1])]) h rfl rfl
  exact t
set_option maxRecDepth 40000 in
theorem q_M_keepAct_11 {n : Nat} {l1 : Nat} {F : fx_F} {v : fx_V} {F' : fx_F} (h : Rn n k_M_keepAct 11 [(2, 175), (0, l1)] [] F v F') :
  (s_le 2060 l1 →
   ∃ m, m < n ∧ Rn m k_M_keepAct 51 [(2, 175), (0, 0)] [] (fu F 175 56 (i_sub (F 175 56) 1)) v F') ∧
  (s_lt l1 2060 →
   ∃ m, m < n ∧ Rn m k_M_keepAct 11 [(2, 175), (0, i_add l1 1)] [] (fu F 204 l1 (F 204 (i_add l1 103))) v F') := by
  have t := q_ok cv_61 ap_61 (hd := [(11, [1, 1]), (51, [1, 1])]) h rfl rfl
  exact t
-- TurnNetModel.linksNow()I
theorem c_M_linksNow {F : fx_F} {v : fx_V} {F' : fx_F} (h : Cl k_M_linksNow [(2, 175)] F v F') : ∃ n, Rn n k_M_linksNow 0 [(2, 175)] [] F v F' := by
  obtain ⟨n, s, hs, h⟩ := h
  rw [sg_63] at hs
  cases hs
  exact ⟨n, h⟩
set_option maxRecDepth 40000 in
theorem q_M_linksNow_0 {n : Nat} {F : fx_F} {v : fx_V} {F' : fx_F} (h : Rn n k_M_linksNow 0 [(2, 175)] [] F v F') :
  v = (0, F 178 (F 175 9)) ∧ F' = F := by
  have t := q_ok cv_63 ap_63 (hd := []) h rfl rfl
  exact t
-- TurnNetModel.nodesNow()I
theorem c_M_nodesNow {F : fx_F} {v : fx_V} {F' : fx_F} (h : Cl k_M_nodesNow [(2, 175)] F v F') : ∃ n, Rn n k_M_nodesNow 0 [(2, 175)] [] F v F' := by
  obtain ⟨n, s, hs, h⟩ := h
  rw [sg_64] at hs
  cases hs
  exact ⟨n, h⟩
set_option maxRecDepth 40000 in
theorem q_M_nodesNow_0 {n : Nat} {F : fx_F} {v : fx_V} {F' : fx_F} (h : Rn n k_M_nodesNow 0 [(2, 175)] [] F v F') :
  v = (0, F 177 (F 175 9)) ∧ F' = F := by
  have t := q_ok cv_64 ap_64 (hd := []) h rfl rfl
  exact t
-- TurnNetModel.packetsAt(I)I
theorem c_M_packetsAt {a1 : Nat} {F : fx_F} {v : fx_V} {F' : fx_F} (h : Cl k_M_packetsAt [(2, 175), (0, a1)] F v F') : ∃ n, Rn n k_M_packetsAt 0 [(2, 175), (0, a1), (3, 0), (3, 0)] [] F v F' := by
  obtain ⟨n, s, hs, h⟩ := h
  rw [sg_65] at hs
  cases hs
  exact ⟨n, h⟩
set_option maxRecDepth 40000 in
theorem q_M_packetsAt_0 {n : Nat} {a1 : Nat} {F : fx_F} {v : fx_V} {F' : fx_F} (h : Rn n k_M_packetsAt 0 [(2, 175), (0, a1), (3, 0), (3, 0)] [] F v F') :
  ∃ m, m < n ∧ Rn m k_M_packetsAt 4 [(2, 175), (0, a1), (0, 0), (0, 0)] [] F v F' := by
  have t := q_ok cv_65 ap_65 (hd := [(4, [1, 1, 1, 1])]) h rfl rfl
  exact t
set_option maxRecDepth 40000 in
theorem q_M_packetsAt_4 {n : Nat} {l1 l2 l3 : Nat} {F : fx_F} {v : fx_V} {F' : fx_F} (h : Rn n k_M_packetsAt 4 [(2, 175), (0, l1), (0, l2), (0, l3)] [] F v F') :
  (s_le 12 l3 →
   v = (0, l2) ∧ F' = F) ∧
  (s_lt l3 12 →
   ((F 176 (i_add 41 l3)) ≠ 1 →
     ∃ m, m < n ∧ Rn m k_M_packetsAt 4 [(2, 175), (0, l1), (0, i_add l2 0), (0, i_add l3 1)] [] F v F') ∧
    ((F 176 (i_add 41 l3)) = 1 →
     ((F 176 (i_add 65 l3)) ≠ l1 →
       ∃ m, m < n ∧ Rn m k_M_packetsAt 4 [(2, 175), (0, l1), (0, i_add l2 0), (0, i_add l3 1)] [] F v F') ∧
      ((F 176 (i_add 65 l3)) = l1 →
       ∃ m, m < n ∧ Rn m k_M_packetsAt 4 [(2, 175), (0, l1), (0, i_add l2 1), (0, i_add l3 1)] [] F v F'))) := by
  have t := q_ok cv_65 ap_65 (hd := [(4, [1, 1, 1, 1])]) h rfl rfl
  exact t
-- TurnNetModel.packetsNow()I
theorem c_M_packetsNow {F : fx_F} {v : fx_V} {F' : fx_F} (h : Cl k_M_packetsNow [(2, 175)] F v F') : ∃ n, Rn n k_M_packetsNow 0 [(2, 175), (3, 0), (3, 0)] [] F v F' := by
  obtain ⟨n, s, hs, h⟩ := h
  rw [sg_66] at hs
  cases hs
  exact ⟨n, h⟩
set_option maxRecDepth 40000 in
theorem q_M_packetsNow_0 {n : Nat} {F : fx_F} {v : fx_V} {F' : fx_F} (h : Rn n k_M_packetsNow 0 [(2, 175), (3, 0), (3, 0)] [] F v F') :
  ∃ m, m < n ∧ Rn m k_M_packetsNow 4 [(2, 175), (0, 0), (0, 0)] [] F v F' := by
  have t := q_ok cv_66 ap_66 (hd := [(4, [1, 1, 1])]) h rfl rfl
  exact t
set_option maxRecDepth 40000 in
theorem q_M_packetsNow_4 {n : Nat} {l1 l2 : Nat} {F : fx_F} {v : fx_V} {F' : fx_F} (h : Rn n k_M_packetsNow 4 [(2, 175), (0, l1), (0, l2)] [] F v F') :
  (s_le 12 l2 →
   v = (0, l1) ∧ F' = F) ∧
  (s_lt l2 12 →
   ∃ m, m < n ∧ Rn m k_M_packetsNow 4 [(2, 175), (0, i_add l1 (F 176 (i_add 41 l2))), (0, i_add l2 1)] [] F v F') := by
  have t := q_ok cv_66 ap_66 (hd := [(4, [1, 1, 1])]) h rfl rfl
  exact t
-- TurnNetModel.putAside()V
theorem c_M_putAside {F : fx_F} {v : fx_V} {F' : fx_F} (h : Cl k_M_putAside [(2, 175)] F v F') : ∃ n, Rn n k_M_putAside 0 [(2, 175), (3, 0)] [] F v F' := by
  obtain ⟨n, s, hs, h⟩ := h
  rw [sg_68] at hs
  cases hs
  exact ⟨n, h⟩
set_option maxRecDepth 40000 in
theorem q_M_putAside_0 {n : Nat} {F : fx_F} {v : fx_V} {F' : fx_F} (h : Rn n k_M_putAside 0 [(2, 175), (3, 0)] [] F v F') :
  ∃ m, m < n ∧ Rn m k_M_putAside 2 [(2, 175), (0, 0)] [] F v F' := by
  have t := q_ok cv_68 ap_68 (hd := [(2, [1, 1])]) h rfl rfl
  exact t
set_option maxRecDepth 40000 in
theorem q_M_putAside_2 {n : Nat} {l1 : Nat} {F : fx_F} {v : fx_V} {F' : fx_F} (h : Rn n k_M_putAside 2 [(2, 175), (0, l1)] [] F v F') :
  (s_le 103 l1 →
   v = (2, 0) ∧ F' = F) ∧
  (s_lt l1 103 →
   ∃ m, m < n ∧ Rn m k_M_putAside 2 [(2, 175), (0, i_add l1 1)] [] (fu F 199 l1 (F 176 l1)) v F') := by
  have t := q_ok cv_68 ap_68 (hd := [(2, [1, 1])]) h rfl rfl
  exact t
-- TurnNetModel.stands(I)Z
theorem c_M_stands {a1 : Nat} {F : fx_F} {v : fx_V} {F' : fx_F} (h : Cl k_M_stands [(2, 175), (0, a1)] F v F') : ∃ n, Rn n k_M_stands 0 [(2, 175), (0, a1)] [] F v F' := by
  obtain ⟨n, s, hs, h⟩ := h
  rw [sg_70] at hs
  cases hs
  exact ⟨n, h⟩
set_option maxRecDepth 40000 in
theorem q_M_stands_0 {n : Nat} {a1 : Nat} {F : fx_F} {v : fx_V} {F' : fx_F} (h : Rn n k_M_stands 0 [(2, 175), (0, a1)] [] F v F') :
  ((F 176 (i_add 0 a1)) ≠ 1 →
   v = (0, 0) ∧ F' = F) ∧
  ((F 176 (i_add 0 a1)) = 1 →
   v = (0, 1) ∧ F' = F) := by
  have t := q_ok cv_70 ap_70 (hd := []) h rfl rfl
  exact t
-- TurnNetModel.stateAt(III)I
theorem c_M_stateAt {a0 a1 a2 : Nat} {F : fx_F} {v : fx_V} {F' : fx_F} (h : Cl k_M_stateAt [(0, a0), (0, a1), (0, a2)] F v F') : ∃ n, Rn n k_M_stateAt 0 [(0, a0), (0, a1), (0, a2)] [] F v F' := by
  obtain ⟨n, s, hs, h⟩ := h
  rw [sg_71] at hs
  cases hs
  exact ⟨n, h⟩
set_option maxRecDepth 40000 in
theorem q_M_stateAt_0 {n : Nat} {a0 a1 a2 : Nat} {F : fx_F} {v : fx_V} {F' : fx_F} (h : Rn n k_M_stateAt 0 [(0, a0), (0, a1), (0, a2)] [] F v F') :
  v = (0, i_add (i_add (i_mul 20 a0) (i_mul 2 a1)) a2) ∧ F' = F := by
  have t := q_ok cv_71 ap_71 (hd := []) h rfl rfl
  exact t
-- TurnNetModel.swapAll()V
theorem c_M_swapAll {F : fx_F} {v : fx_V} {F' : fx_F} (h : Cl k_M_swapAll [(2, 175)] F v F') : ∃ n, Rn n k_M_swapAll 0 [(2, 175), (3, 0), (3, 0)] [] F v F' := by
  obtain ⟨n, s, hs, h⟩ := h
  rw [sg_72] at hs
  cases hs
  exact ⟨n, h⟩
set_option maxRecDepth 40000 in
theorem q_M_swapAll_0 {n : Nat} {F : fx_F} {v : fx_V} {F' : fx_F} (h : Rn n k_M_swapAll 0 [(2, 175), (3, 0), (3, 0)] [] F v F') :
  ∃ m, m < n ∧ Rn m k_M_swapAll 2 [(2, 175), (0, 0), (3, 0)] [] F v F' := by
  have t := q_ok cv_72 ap_72 (hd := [(2, [1, 1, 0])]) h rfl rfl
  exact t
set_option maxRecDepth 40000 in
theorem q_M_swapAll_2 {n : Nat} {l1 : Nat} {F : fx_F} {v : fx_V} {F' : fx_F} (h : Rn n k_M_swapAll 2 [(2, 175), (0, l1), (3, 0)] [] F v F') :
  (s_le 103 l1 →
   v = (2, 0) ∧ F' = F) ∧
  (s_lt l1 103 →
   ∃ m, m < n ∧ Rn m k_M_swapAll 2 [(2, 175), (0, i_add l1 1), (3, 0)] [] (fu (fu F 204 (i_add (i_mul 103 (F 175 56)) l1) (F 176 l1)) 176 l1 (F 204 (i_add (i_mul 103 (F 175 56)) l1))) v F') := by
  have t := q_ok cv_72 ap_72 (hd := [(2, [1, 1, 0])]) h rfl rfl
  exact t
-- TurnNetModel.work(III)I
theorem c_M_work {a1 a2 a3 : Nat} {F : fx_F} {v : fx_V} {F' : fx_F} (h : Cl k_M_work [(2, 175), (0, a1), (0, a2), (0, a3)] F v F') : ∃ n, Rn n k_M_work 0 [(2, 175), (0, a1), (0, a2), (0, a3)] [] F v F' := by
  obtain ⟨n, s, hs, h⟩ := h
  rw [sg_73] at hs
  cases hs
  exact ⟨n, h⟩
set_option maxRecDepth 40000 in
theorem q_M_work_0 {n : Nat} {a1 a2 a3 : Nat} {F : fx_F} {v : fx_V} {F' : fx_F} (h : Rn n k_M_work 0 [(2, 175), (0, a1), (0, a2), (0, a3)] [] F v F') :
  ((a1 < 1003 ∨ 1007 ≤ a1) →
   (a3 ≠ 0 →
     v = (0, i_rem a2 a3) ∧ F' = F) ∧
    (a3 = 0 →
     v = (0, 0) ∧ F' = F)) ∧
  ((a1 = 1003 →
   v = (0, i_add a2 a3) ∧ F' = F) ∧
  ((a1 = 1004 →
   v = (0, i_sub a2 a3) ∧ F' = F) ∧
  ((a1 = 1005 →
   v = (0, i_mul a2 a3) ∧ F' = F) ∧
  ((a1 = 1006 →
   (a3 ≠ 0 →
     v = (0, i_div a2 a3) ∧ F' = F) ∧
    (a3 = 0 →
     v = (0, 0) ∧ F' = F)) ∧ True)))) := by
  have t := q_ok cv_73 ap_73 (hd := []) h rfl rfl
  exact t
-- java/lang/Integer.bitCount(I)I
theorem c_I_bitCount {a0 : Nat} {F : fx_F} {v : fx_V} {F' : fx_F} (h : Cl k_I_bitCount [(0, a0)] F v F') : ∃ n, Rn n k_I_bitCount 0 [(0, a0)] [] F v F' := by
  obtain ⟨n, s, hs, h⟩ := h
  rw [sg_74] at hs
  cases hs
  exact ⟨n, h⟩
set_option maxRecDepth 40000 in
theorem q_I_bitCount_0 {n : Nat} {a0 : Nat} {F : fx_F} {v : fx_V} {F' : fx_F} (h : Rn n k_I_bitCount 0 [(0, a0)] [] F v F') :
  v = (0, i_and (i_add (i_add (i_and (i_add (i_add (i_and (i_sub a0 (i_and (i_ushr a0 1) 1431655765)) 858993459) (i_and (i_ushr (i_sub a0 (i_and (i_ushr a0 1) 1431655765)) 2) 858993459)) (i_ushr (i_add (i_and (i_sub a0 (i_and (i_ushr a0 1) 1431655765)) 858993459) (i_and (i_ushr (i_sub a0 (i_and (i_ushr a0 1) 1431655765)) 2) 858993459)) 4)) 252645135) (i_ushr (i_and (i_add (i_add (i_and (i_sub a0 (i_and (i_ushr a0 1) 1431655765)) 858993459) (i_and (i_ushr (i_sub a0 (i_and (i_ushr a0 1) 1431655765)) 2) 858993459)) (i_ushr (i_add (i_and (i_sub a0 (i_and (i_ushr a0 1) 1431655765)) 858993459) (i_and (i_ushr (i_sub a0 (i_and (i_ushr a0 1) 1431655765)) 2) 858993459)) 4)) 252645135) 8)) (i_ushr (i_add (i_and (i_add (i_add (i_and (i_sub a0 (i_and (i_ushr a0 1) 1431655765)) 858993459) (i_and (i_ushr (i_sub a0 (i_and (i_ushr a0 1) 1431655765)) 2) 858993459)) (i_ushr (i_add (i_and (i_sub a0 (i_and (i_ushr a0 1) 1431655765)) 858993459) (i_and (i_ushr (i_sub a0 (i_and (i_ushr a0 1) 1431655765)) 2) 858993459)) 4)) 252645135) (i_ushr (i_and (i_add (i_add (i_and (i_sub a0 (i_and (i_ushr a0 1) 1431655765)) 858993459) (i_and (i_ushr (i_sub a0 (i_and (i_ushr a0 1) 1431655765)) 2) 858993459)) (i_ushr (i_add (i_and (i_sub a0 (i_and (i_ushr a0 1) 1431655765)) 858993459) (i_and (i_ushr (i_sub a0 (i_and (i_ushr a0 1) 1431655765)) 2) 858993459)) 4)) 252645135) 8)) 16)) 63) ∧ F' = F := by
  have t := q_ok cv_74 ap_74 (hd := []) h rfl rfl
  exact t
-- TurnNet$Graph.findRow(III)Z
theorem c_Gr_findRow {a1 a2 a3 : Nat} {F : fx_F} {v : fx_V} {F' : fx_F} (h : Cl k_Gr_findRow [(2, 40), (0, a1), (0, a2), (0, a3)] F v F') : ∃ n, Rn n k_Gr_findRow 0 [(2, 40), (0, a1), (0, a2), (0, a3), (3, 0), (3, 0), (3, 0), (3, 0), (3, 0)] [] F v F' := by
  obtain ⟨n, s, hs, h⟩ := h
  rw [sg_76] at hs
  cases hs
  exact ⟨n, h⟩
set_option maxRecDepth 40000 in
theorem q_Gr_findRow_0 {n : Nat} {a1 a2 a3 : Nat} {F : fx_F} {v : fx_V} {F' : fx_F} (h : Rn n k_Gr_findRow 0 [(2, 40), (0, a1), (0, a2), (0, a3), (3, 0), (3, 0), (3, 0), (3, 0), (3, 0)] [] F v F') :
  ∃ m, m < n ∧ Rn m k_Gr_findRow 3 [(2, 40), (0, a1), (0, a2), (0, a3), (0, 0), (3, 0), (3, 0), (3, 0), (3, 0)] [] F v F' := by
  have t := q_ok cv_76 ap_76 (hd := [(3, [1, 1, 1, 1, 1, 0, 0, 0, 0]), (35, [1, 1, 1, 1, 1, 1, 0, 0, 0]), (58, [1, 1, 1, 1, 1, 1, 1, 0, 0])]) h rfl rfl
  exact t
set_option maxRecDepth 40000 in
theorem q_Gr_findRow_3 {n : Nat} {l1 l2 l3 l4 : Nat} {F : fx_F} {v : fx_V} {F' : fx_F} (h : Rn n k_Gr_findRow 3 [(2, 40), (0, l1), (0, l2), (0, l3), (0, l4), (3, 0), (3, 0), (3, 0), (3, 0)] [] F v F') :
  (s_le (F 3 0) l4 →
   ∃ m, m < n ∧ Rn m k_Gr_findRow 35 [(2, 40), (0, l1), (0, l2), (0, l3), (0, 1), (0, 1), (3, 0), (3, 0), (3, 0)] [] F v F') ∧
  (s_lt l4 (F 3 0) →
   ∃ m, m < n ∧ Rn m k_Gr_findRow 3 [(2, 40), (0, l1), (0, l2), (0, l3), (0, i_add l4 1), (3, 0), (3, 0), (3, 0), (3, 0)] [] (fu F 43 l4 4294967295) v F') := by
  have t := q_ok cv_76 ap_76 (hd := [(3, [1, 1, 1, 1, 1, 0, 0, 0, 0]), (35, [1, 1, 1, 1, 1, 1, 0, 0, 0]), (58, [1, 1, 1, 1, 1, 1, 1, 0, 0])]) h rfl rfl
  exact t
set_option maxRecDepth 40000 in
theorem q_Gr_findRow_35 {n : Nat} {l1 l2 l3 l4 l5 : Nat} {F : fx_F} {v : fx_V} {F' : fx_F} (h : Rn n k_Gr_findRow 35 [(2, 40), (0, l1), (0, l2), (0, l3), (0, l4), (0, l5), (3, 0), (3, 0), (3, 0)] [] F v F') :
  (s_le (F 3 0) l5 →
   ((F 43 l2) = 4294967295 →
     v = (0, 0) ∧ F' = F) ∧
    ((F 43 l2) ≠ 4294967295 →
     v = (0, 1) ∧ F' = F)) ∧
  (s_lt l5 (F 3 0) →
   (l4 = 0 →
     ((F 43 l2) = 4294967295 →
       v = (0, 0) ∧ F' = F) ∧
      ((F 43 l2) ≠ 4294967295 →
       v = (0, 1) ∧ F' = F)) ∧
    (l4 ≠ 0 →
     ∃ m, m < n ∧ Rn m k_Gr_findRow 58 [(2, 40), (0, l1), (0, l2), (0, l3), (0, 0), (0, l5), (0, 0), (3, 0), (3, 0)] [] F v F')) := by
  have t := q_ok cv_76 ap_76 (hd := [(3, [1, 1, 1, 1, 1, 0, 0, 0, 0]), (35, [1, 1, 1, 1, 1, 1, 0, 0, 0]), (58, [1, 1, 1, 1, 1, 1, 1, 0, 0])]) h rfl rfl
  exact t
set_option maxRecDepth 40000 in
theorem q_Gr_findRow_58 {n : Nat} {l1 l2 l3 l4 l5 l6 : Nat} {F : fx_F} {v : fx_V} {F' : fx_F} (h : Rn n k_Gr_findRow 58 [(2, 40), (0, l1), (0, l2), (0, l3), (0, l4), (0, l5), (0, l6), (3, 0), (3, 0)] [] F v F') :
  (s_le (i_mul 2 (F 3 1)) l6 →
   ∃ m, m < n ∧ Rn m k_Gr_findRow 35 [(2, 40), (0, l1), (0, l2), (0, l3), (0, l4), (0, i_add l5 1), (3, 0), (3, 0), (3, 0)] [] F v F') ∧
  (s_lt l6 (i_mul 2 (F 3 1)) →
   ((F 4 l6) = l1 →
     ((F 5 l6) = l1 →
       ∃ m, m < n ∧ Rn m k_Gr_findRow 58 [(2, 40), (0, l1), (0, l2), (0, l3), (0, l4), (0, l5), (0, i_add l6 1), (3, 0), (3, 0)] [] F v F') ∧
      ((F 5 l6) ≠ l1 →
       ((F 43 (F 5 l6)) ≠ 4294967295 →
         ∃ m, m < n ∧ Rn m k_Gr_findRow 58 [(2, 40), (0, l1), (0, l2), (0, l3), (0, l4), (0, l5), (0, i_add l6 1), (3, 0), (3, 0)] [] F v F') ∧
        ((F 43 (F 5 l6)) = 4294967295 →
         ∃ (n1 : Nat) (F1 : fx_F), Cl k_Gr_hasSpace [(2, 40), (0, l6), (0, l3)] F (0, n1) F1 ∧
          (n1 = 0 →
            ∃ m, m < n ∧ Rn m k_Gr_findRow 58 [(2, 40), (0, l1), (0, l2), (0, l3), (0, l4), (0, l5), (0, i_add l6 1), (3, 0), (3, 0)] [] F1 v F') ∧
           (n1 ≠ 0 →
            ∃ m, m < n ∧ Rn m k_Gr_findRow 58 [(2, 40), (0, l1), (0, l2), (0, l3), (0, 1), (0, l5), (0, i_add l6 1), (3, 0), (3, 0)] [] (fu F1 43 (F 5 l6) l6) v F')))) ∧
    ((F 4 l6) ≠ l1 →
     ((F 43 (F 4 l6)) = 4294967295 →
       ∃ m, m < n ∧ Rn m k_Gr_findRow 58 [(2, 40), (0, l1), (0, l2), (0, l3), (0, l4), (0, l5), (0, i_add l6 1), (3, 0), (3, 0)] [] F v F') ∧
      ((F 43 (F 4 l6)) ≠ 4294967295 →
       ((F 5 l6) = l1 →
         ∃ m, m < n ∧ Rn m k_Gr_findRow 58 [(2, 40), (0, l1), (0, l2), (0, l3), (0, l4), (0, l5), (0, i_add l6 1), (3, 0), (3, 0)] [] F v F') ∧
        ((F 5 l6) ≠ l1 →
         ((F 43 (F 5 l6)) ≠ 4294967295 →
           ∃ m, m < n ∧ Rn m k_Gr_findRow 58 [(2, 40), (0, l1), (0, l2), (0, l3), (0, l4), (0, l5), (0, i_add l6 1), (3, 0), (3, 0)] [] F v F') ∧
          ((F 43 (F 5 l6)) = 4294967295 →
           ∃ (n1 : Nat) (F1 : fx_F), Cl k_Gr_hasSpace [(2, 40), (0, l6), (0, l3)] F (0, n1) F1 ∧
            (n1 = 0 →
              ∃ m, m < n ∧ Rn m k_Gr_findRow 58 [(2, 40), (0, l1), (0, l2), (0, l3), (0, l4), (0, l5), (0, i_add l6 1), (3, 0), (3, 0)] [] F1 v F') ∧
             (n1 ≠ 0 →
              ∃ m, m < n ∧ Rn m k_Gr_findRow 58 [(2, 40), (0, l1), (0, l2), (0, l3), (0, 1), (0, l5), (0, i_add l6 1), (3, 0), (3, 0)] [] (fu F1 43 (F 5 l6) l6) v F')))))) := by
  have t := q_ok cv_76 ap_76 (hd := [(3, [1, 1, 1, 1, 1, 0, 0, 0, 0]), (35, [1, 1, 1, 1, 1, 1, 0, 0, 0]), (58, [1, 1, 1, 1, 1, 1, 1, 0, 0])]) h rfl rfl
  exact t
-- TurnNet$Graph.pairsWithout()I
theorem c_Gr_pairsWithout {F : fx_F} {v : fx_V} {F' : fx_F} (h : Cl k_Gr_pairsWithout [(2, 40)] F v F') : ∃ n, Rn n k_Gr_pairsWithout 0 [(2, 40), (3, 0), (3, 0), (3, 0)] [] F v F' := by
  obtain ⟨n, s, hs, h⟩ := h
  rw [sg_77] at hs
  cases hs
  exact ⟨n, h⟩
set_option maxRecDepth 40000 in
theorem q_Gr_pairsWithout_0 {n : Nat} {F : fx_F} {v : fx_V} {F' : fx_F} (h : Rn n k_Gr_pairsWithout 0 [(2, 40), (3, 0), (3, 0), (3, 0)] [] F v F') :
  ∃ m, m < n ∧ Rn m k_Gr_pairsWithout 4 [(2, 40), (0, 0), (0, 0), (3, 0)] [] F v F' := by
  have t := q_ok cv_77 ap_77 (hd := [(4, [1, 1, 1, 0]), (17, [1, 1, 1, 1])]) h rfl rfl
  exact t
set_option maxRecDepth 40000 in
theorem q_Gr_pairsWithout_4 {n : Nat} {l1 l2 : Nat} {F : fx_F} {v : fx_V} {F' : fx_F} (h : Rn n k_Gr_pairsWithout 4 [(2, 40), (0, l1), (0, l2), (3, 0)] [] F v F') :
  (s_le (F 3 0) l2 →
   v = (0, l1) ∧ F' = F) ∧
  (s_lt l2 (F 3 0) →
   ∃ m, m < n ∧ Rn m k_Gr_pairsWithout 17 [(2, 40), (0, l1), (0, l2), (0, 0)] [] F v F') := by
  have t := q_ok cv_77 ap_77 (hd := [(4, [1, 1, 1, 0]), (17, [1, 1, 1, 1])]) h rfl rfl
  exact t
set_option maxRecDepth 40000 in
theorem q_Gr_pairsWithout_17 {n : Nat} {l1 l2 l3 : Nat} {F : fx_F} {v : fx_V} {F' : fx_F} (h : Rn n k_Gr_pairsWithout 17 [(2, 40), (0, l1), (0, l2), (0, l3)] [] F v F') :
  (s_le (F 3 0) l3 →
   ∃ m, m < n ∧ Rn m k_Gr_pairsWithout 4 [(2, 40), (0, l1), (0, i_add l2 1), (3, 0)] [] F v F') ∧
  (s_lt l3 (F 3 0) →
   ((F 41 (i_add (i_mul l2 10) l3)) ≠ 4294967295 →
     ∃ m, m < n ∧ Rn m k_Gr_pairsWithout 17 [(2, 40), (0, l1), (0, l2), (0, i_add l3 1)] [] F v F') ∧
    ((F 41 (i_add (i_mul l2 10) l3)) = 4294967295 →
     ∃ m, m < n ∧ Rn m k_Gr_pairsWithout 17 [(2, 40), (0, i_add l1 1), (0, l2), (0, i_add l3 1)] [] F v F')) := by
  have t := q_ok cv_77 ap_77 (hd := [(4, [1, 1, 1, 0]), (17, [1, 1, 1, 1])]) h rfl rfl
  exact t
