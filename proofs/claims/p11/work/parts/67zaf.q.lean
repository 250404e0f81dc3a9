-- TurnNet.best(I)I
theorem c_T_best {a1 : Nat} {F : fx_F} {v : fx_V} {F' : fx_F} (h : Cl k_T_best [(2, 2), (0, a1)] F v F') : ∃ n, Rn n k_T_best 0 [(2, 2), (0, a1), (3, 0), (3, 0), (3, 0), (3, 0)] [] F v F' := by
  obtain ⟨n, s, hs, h⟩ := h
  rw [sg_248] at hs
  cases hs
  exact ⟨n, h⟩
set_option maxRecDepth 40000 in
theorem q_T_best_0 {n : Nat} {a1 : Nat} {F : fx_F} {v : fx_V} {F' : fx_F} (h : Rn n k_T_best 0 [(2, 2), (0, a1), (3, 0), (3, 0), (3, 0), (3, 0)] [] F v F') :
  ((F 3 0) = 0 →
   v = (0, 4294967295) ∧ F' = F) ∧
  ((F 3 0) ≠ 0 →
   (s_lt a1 0 →
     v = (0, 4294967295) ∧ F' = F) ∧
    (s_le 0 a1 →
     (s_le a1 2 →
       ∃ (n1 : Nat) (F1 : fx_F), Cl k_T_worthOf [(2, 2), (0, 0), (0, a1)] F (0, n1) F1 ∧
        ∃ m, m < n ∧ Rn m k_T_best 33 [(2, 2), (0, a1), (0, 0), (0, n1), (0, 1), (3, 0)] [] F1 v F') ∧
      (s_lt 2 a1 →
       v = (0, 4294967295) ∧ F' = F))) := by
  have t := q_ok cv_248 ap_248 (hd := [(33, [1, 1, 1, 1, 1, 0])]) h rfl rfl
  exact t
set_option maxRecDepth 40000 in
theorem q_T_best_33 {n : Nat} {l1 l2 l3 l4 : Nat} {F : fx_F} {v : fx_V} {F' : fx_F} (h : Rn n k_T_best 33 [(2, 2), (0, l1), (0, l2), (0, l3), (0, l4), (3, 0)] [] F v F') :
  (s_le (F 3 0) l4 →
   v = (0, l2) ∧ F' = F) ∧
  (s_lt l4 (F 3 0) →
   ∃ (n1 : Nat) (F1 : fx_F), Cl k_T_worthOf [(2, 2), (0, l4), (0, l1)] F (0, n1) F1 ∧
    (s_le l3 n1 →
      ∃ m, m < n ∧ Rn m k_T_best 33 [(2, 2), (0, l1), (0, l2), (0, l3), (0, i_add l4 1), (3, 0)] [] F1 v F') ∧
     (s_lt n1 l3 →
      ∃ m, m < n ∧ Rn m k_T_best 33 [(2, 2), (0, l1), (0, l4), (0, n1), (0, i_add l4 1), (3, 0)] [] F1 v F')) := by
  have t := q_ok cv_248 ap_248 (hd := [(33, [1, 1, 1, 1, 1, 0])]) h rfl rfl
  exact t
-- TurnNet.change(II)I
theorem c_T_change {a1 a2 : Nat} {F : fx_F} {v : fx_V} {F' : fx_F} (h : Cl k_T_change [(2, 2), (0, a1), (0, a2)] F v F') : ∃ n, Rn n k_T_change 0 [(2, 2), (0, a1), (0, a2), (3, 0)] [] F v F' := by
  obtain ⟨n, s, hs, h⟩ := h
  rw [sg_249] at hs
  cases hs
  exact ⟨n, h⟩
set_option maxRecDepth 40000 in
theorem q_T_change_0 {n : Nat} {a1 a2 : Nat} {F : fx_F} {v : fx_V} {F' : fx_F} (h : Rn n k_T_change 0 [(2, 2), (0, a1), (0, a2), (3, 0)] [] F v F') :
  (s_lt a1 0 →
   v = (0, 4294967295) ∧ F' = F) ∧
  (s_le 0 a1 →
   (s_le (F 3 0) a1 →
     v = (0, 4294967295) ∧ F' = F) ∧
    (s_lt a1 (F 3 0) →
     (s_lt a2 0 →
       v = (0, 4294967295) ∧ F' = F) ∧
      (s_le 0 a2 →
       (s_le a2 20 →
         ∃ F1 : fx_F, Cl k_T_planFor [(2, 2), (0, a1)] F (2, 0) F1 ∧
          (s_le 0 (F1 48 4) →
            ∃ F2 : fx_F, Cl k_Hi_keep [(2, 51), (2, F1 2 13)] F1 (2, 0) F2 ∧
             ∃ m, m < n ∧ Rn m k_T_change 54 [(2, 2), (0, a1), (0, a2), (0, 0)] [] F2 v F') ∧
           (s_lt (F1 48 4) 0 →
            v = (0, 4294967294) ∧ F' = F1)) ∧
        (s_lt 20 a2 →
         v = (0, 4294967295) ∧ F' = F)))) := by
  have t := q_ok cv_249 ap_249 (hd := [(54, [1, 1, 1, 1])]) h rfl rfl
  exact t
set_option maxRecDepth 40000 in
theorem q_T_change_54 {n : Nat} {l1 l2 l3 : Nat} {F : fx_F} {v : fx_V} {F' : fx_F} (h : Rn n k_T_change 54 [(2, 2), (0, l1), (0, l2), (0, l3)] [] F v F') :
  (s_le (F 48 4) l3 →
   v = (0, (fu F (F 2 13) 0 l1) 48 4) ∧ F' = (fu F (F 2 13) 0 l1)) ∧
  (s_lt l3 (F 48 4) →
   (s_lt l3 0 →
     ∃ (n1 : Nat) (F1 : fx_F), Cl k_T_goSteps [(2, 2), (2, (fu F (F 2 13) 1 (i_xor (F (F 2 13) 1) 0)) 2 13), (0, l2)] (fu F (F 2 13) 1 (i_xor (F (F 2 13) 1) 0)) (0, n1) F1 ∧
      ∃ m, m < n ∧ Rn m k_T_change 54 [(2, 2), (0, l1), (0, l2), (0, i_add l3 1)] [] F1 v F') ∧
    (s_le 0 l3 →
     (s_le (F 48 4) l3 →
       ∃ (n1 : Nat) (F1 : fx_F), Cl k_T_goSteps [(2, 2), (2, (fu F (F 2 13) 1 (i_xor (F (F 2 13) 1) 0)) 2 13), (0, l2)] (fu F (F 2 13) 1 (i_xor (F (F 2 13) 1) 0)) (0, n1) F1 ∧
        ∃ m, m < n ∧ Rn m k_T_change 54 [(2, 2), (0, l1), (0, l2), (0, i_add l3 1)] [] F1 v F') ∧
      (s_lt l3 (F 48 4) →
       ∃ (n1 : Nat) (F1 : fx_F), Cl k_T_goSteps [(2, 2), (2, (fu F (F 2 13) 1 (i_xor (F (F 2 13) 1) (F 49 l3))) 2 13), (0, l2)] (fu F (F 2 13) 1 (i_xor (F (F 2 13) 1) (F 49 l3))) (0, n1) F1 ∧
        ∃ m, m < n ∧ Rn m k_T_change 54 [(2, 2), (0, l1), (0, l2), (0, i_add l3 1)] [] F1 v F'))) := by
  have t := q_ok cv_249 ap_249 (hd := [(54, [1, 1, 1, 1])]) h rfl rfl
  exact t
-- TurnNet.drains()I
theorem c_T_drains {F : fx_F} {v : fx_V} {F' : fx_F} (h : Cl k_T_drains [(2, 2)] F v F') : ∃ n, Rn n k_T_drains 0 [(2, 2), (3, 0)] [] F v F' := by
  obtain ⟨n, s, hs, h⟩ := h
  rw [sg_250] at hs
  cases hs
  exact ⟨n, h⟩
set_option maxRecDepth 40000 in
theorem q_T_drains_0 {n : Nat} {F : fx_F} {v : fx_V} {F' : fx_F} (h : Rn n k_T_drains 0 [(2, 2), (3, 0)] [] F v F') :
  ∃ F1 : fx_F, Cl k_St_copyFrom [(2, 153), (2, F 2 13)] F (2, 0) F1 ∧
  ∃ (n2 : Nat) (F2 : fx_F), Cl k_T_runEmpty [(2, 2)] F1 (0, n2) F2 ∧
   ∃ (n3 : Nat) (F3 : fx_F), Cl k_St_countPackets [(2, 153)] F2 (0, n3) F3 ∧
    (n3 ≠ 0 →
      v = (0, 4294967295) ∧ F' = F3) ∧
     (n3 = 0 →
      v = (0, n2) ∧ F' = F3) := by
  have t := q_ok cv_250 ap_250 (hd := []) h rfl rfl
  exact t
-- TurnNet.phase(II)I
theorem c_T_phase {a1 a2 : Nat} {F : fx_F} {v : fx_V} {F' : fx_F} (h : Cl k_T_phase [(2, 2), (0, a1), (0, a2)] F v F') : ∃ n, Rn n k_T_phase 0 [(2, 2), (0, a1), (0, a2)] [] F v F' := by
  obtain ⟨n, s, hs, h⟩ := h
  rw [sg_251] at hs
  cases hs
  exact ⟨n, h⟩
set_option maxRecDepth 40000 in
theorem q_T_phase_0 {n : Nat} {a1 a2 : Nat} {F : fx_F} {v : fx_V} {F' : fx_F} (h : Rn n k_T_phase 0 [(2, 2), (0, a1), (0, a2)] [] F v F') :
  (s_lt a1 0 →
   v = (0, 4294967295) ∧ F' = F) ∧
  (s_le 0 a1 →
   (s_le (F 3 0) a1 →
     v = (0, 4294967295) ∧ F' = F) ∧
    (s_lt a1 (F 3 0) →
     (s_lt a2 0 →
       v = (0, 4294967295) ∧ F' = F) ∧
      (s_le 0 a2 →
       (s_le (F 3 1) a2 →
         v = (0, 4294967295) ∧ F' = F) ∧
        (s_lt a2 (F 3 1) →
         ∃ F1 : fx_F, Cl k_T_planFor [(2, 2), (0, a1)] F (2, 0) F1 ∧
          ∃ (n2 : Nat) (F2 : fx_F), Cl k_Pl_phaseOf [(2, 48), (0, a2)] F1 (0, n2) F2 ∧
           v = (0, n2) ∧ F' = F2)))) := by
  have t := q_ok cv_251 ap_251 (hd := []) h rfl rfl
  exact t
-- TurnNet.plan(II)I
theorem c_T_plan {a1 a2 : Nat} {F : fx_F} {v : fx_V} {F' : fx_F} (h : Cl k_T_plan [(2, 2), (0, a1), (0, a2)] F v F') : ∃ n, Rn n k_T_plan 0 [(2, 2), (0, a1), (0, a2)] [] F v F' := by
  obtain ⟨n, s, hs, h⟩ := h
  rw [sg_252] at hs
  cases hs
  exact ⟨n, h⟩
set_option maxRecDepth 40000 in
theorem q_T_plan_0 {n : Nat} {a1 a2 : Nat} {F : fx_F} {v : fx_V} {F' : fx_F} (h : Rn n k_T_plan 0 [(2, 2), (0, a1), (0, a2)] [] F v F') :
  (s_lt a1 0 →
   v = (0, 4294967295) ∧ F' = F) ∧
  (s_le 0 a1 →
   (s_le (F 3 0) a1 →
     v = (0, 4294967295) ∧ F' = F) ∧
    (s_lt a1 (F 3 0) →
     (s_lt a2 0 →
       v = (0, 4294967295) ∧ F' = F) ∧
      (s_le 0 a2 →
       (s_le a2 1 →
         ∃ F1 : fx_F, Cl k_T_planFor [(2, 2), (0, a1)] F (2, 0) F1 ∧
          (a2 ≠ 0 →
            v = (0, F1 48 4) ∧ F' = F1) ∧
           (a2 = 0 →
            v = (0, F1 48 3) ∧ F' = F1)) ∧
        (s_lt 1 a2 →
         v = (0, 4294967295) ∧ F' = F)))) := by
  have t := q_ok cv_252 ap_252 (hd := []) h rfl rfl
  exact t
-- TurnNet.rooted(II)I
theorem c_T_rooted {a1 a2 : Nat} {F : fx_F} {v : fx_V} {F' : fx_F} (h : Cl k_T_rooted [(2, 2), (0, a1), (0, a2)] F v F') : ∃ n, Rn n k_T_rooted 0 [(2, 2), (0, a1), (0, a2)] [] F v F' := by
  obtain ⟨n, s, hs, h⟩ := h
  rw [sg_253] at hs
  cases hs
  exact ⟨n, h⟩
set_option maxRecDepth 40000 in
theorem q_T_rooted_0 {n : Nat} {a1 a2 : Nat} {F : fx_F} {v : fx_V} {F' : fx_F} (h : Rn n k_T_rooted 0 [(2, 2), (0, a1), (0, a2)] [] F v F') :
  (s_lt a1 0 →
   v = (0, 4294967295) ∧ F' = F) ∧
  (s_le 0 a1 →
   (s_le (F 3 0) a1 →
     v = (0, 4294967295) ∧ F' = F) ∧
    (s_lt a1 (F 3 0) →
     (s_lt a2 0 →
       v = (0, 4294967295) ∧ F' = F) ∧
      (s_le 0 a2 →
       (s_le a2 2 →
         ∃ (n1 : Nat) (F1 : fx_F), Cl k_T_worthOf [(2, 2), (0, a1), (0, a2)] F (0, n1) F1 ∧
          v = (0, n1) ∧ F' = F1) ∧
        (s_lt 2 a2 →
         v = (0, 4294967295) ∧ F' = F)))) := by
  have t := q_ok cv_253 ap_253 (hd := []) h rfl rfl
  exact t
-- TurnNet.steps(I)I
theorem c_T_steps {a1 : Nat} {F : fx_F} {v : fx_V} {F' : fx_F} (h : Cl k_T_steps [(2, 2), (0, a1)] F v F') : ∃ n, Rn n k_T_steps 0 [(2, 2), (0, a1)] [] F v F' := by
  obtain ⟨n, s, hs, h⟩ := h
  rw [sg_254] at hs
  cases hs
  exact ⟨n, h⟩
set_option maxRecDepth 40000 in
theorem q_T_steps_0 {n : Nat} {a1 : Nat} {F : fx_F} {v : fx_V} {F' : fx_F} (h : Rn n k_T_steps 0 [(2, 2), (0, a1)] [] F v F') :
  ((F 3 0) = 0 →
   v = (0, 4294967295) ∧ F' = F) ∧
  ((F 3 0) ≠ 0 →
   (s_lt a1 1 →
     v = (0, 4294967295) ∧ F' = F) ∧
    (s_le 1 a1 →
     (s_le a1 50 →
       ∃ F1 : fx_F, Cl k_Hi_keep [(2, 51), (2, F 2 13)] F (2, 0) F1 ∧
        ∃ (n2 : Nat) (F2 : fx_F), Cl k_T_goSteps [(2, 2), (2, F1 2 13), (0, a1)] F1 (0, n2) F2 ∧
         v = (0, n2) ∧ F' = F2) ∧
      (s_lt 50 a1 →
       v = (0, 4294967295) ∧ F' = F))) := by
  have t := q_ok cv_254 ap_254 (hd := []) h rfl rfl
  exact t
-- TurnNet.stuck()I
theorem c_T_stuck {F : fx_F} {v : fx_V} {F' : fx_F} (h : Cl k_T_stuck [(2, 2)] F v F') : ∃ n, Rn n k_T_stuck 0 [(2, 2), (3, 0), (3, 0)] [] F v F' := by
  obtain ⟨n, s, hs, h⟩ := h
  rw [sg_255] at hs
  cases hs
  exact ⟨n, h⟩
set_option maxRecDepth 40000 in
theorem q_T_stuck_0 {n : Nat} {F : fx_F} {v : fx_V} {F' : fx_F} (h : Rn n k_T_stuck 0 [(2, 2), (3, 0), (3, 0)] [] F v F') :
  ∃ F1 : fx_F, Cl k_St_copyFrom [(2, 153), (2, F 2 13)] F (2, 0) F1 ∧
  ∃ (n2 : Nat) (F2 : fx_F), Cl k_T_runEmpty [(2, 2)] F1 (0, n2) F2 ∧
   ∃ m, m < n ∧ Rn m k_T_stuck 20 [(2, 2), (0, 0), (0, 0)] [] F2 v F' := by
  have t := q_ok cv_255 ap_255 (hd := [(20, [1, 1, 1])]) h rfl rfl
  exact t
set_option maxRecDepth 40000 in
theorem q_T_stuck_20 {n : Nat} {l1 l2 : Nat} {F : fx_F} {v : fx_V} {F' : fx_F} (h : Rn n k_T_stuck 20 [(2, 2), (0, l1), (0, l2)] [] F v F') :
  (s_le 12 l2 →
   v = (0, l1) ∧ F' = F) ∧
  (s_lt l2 12 →
   (s_lt l2 0 →
     ∃ m, m < n ∧ Rn m k_T_stuck 20 [(2, 2), (0, l1), (0, i_add l2 1)] [] F v F') ∧
    (s_le 0 l2 →
     (s_le 12 l2 →
       ∃ m, m < n ∧ Rn m k_T_stuck 20 [(2, 2), (0, l1), (0, i_add l2 1)] [] F v F') ∧
      (s_lt l2 12 →
       ((F 154 l2) = 4294967295 →
         ∃ m, m < n ∧ Rn m k_T_stuck 20 [(2, 2), (0, l1), (0, i_add l2 1)] [] F v F') ∧
        ((F 154 l2) ≠ 4294967295 →
         ∃ m, m < n ∧ Rn m k_T_stuck 20 [(2, 2), (0, i_or l1 (i_shl 1 l2)), (0, i_add l2 1)] [] F v F')))) := by
  have t := q_ok cv_255 ap_255 (hd := [(20, [1, 1, 1])]) h rfl rfl
  exact t
-- TurnNetModel.depends(II)I
theorem c_M_depends {a1 a2 : Nat} {F : fx_F} {v : fx_V} {F' : fx_F} (h : Cl k_M_depends [(2, 175), (0, a1), (0, a2)] F v F') : ∃ n, Rn n k_M_depends 0 [(2, 175), (0, a1), (0, a2)] [] F v F' := by
  obtain ⟨n, s, hs, h⟩ := h
  rw [sg_256] at hs
  cases hs
  exact ⟨n, h⟩
set_option maxRecDepth 40000 in
theorem q_M_depends_0 {n : Nat} {a1 a2 : Nat} {F : fx_F} {v : fx_V} {F' : fx_F} (h : Rn n k_M_depends 0 [(2, 175), (0, a1), (0, a2)] [] F v F') :
  (s_lt a1 0 →
   v = (0, 4294967295) ∧ F' = F) ∧
  (s_le 0 a1 →
   (s_lt (i_sub (i_mul 2 (F 178 (F 175 9))) 1) a1 →
     v = (0, 4294967295) ∧ F' = F) ∧
    (s_le a1 (i_sub (i_mul 2 (F 178 (F 175 9))) 1) →
     (s_lt a2 0 →
       v = (0, 4294967295) ∧ F' = F) ∧
      (s_le 0 a2 →
       (s_lt (i_sub (i_mul 2 (F 178 (F 175 9))) 1) a2 →
         v = (0, 4294967295) ∧ F' = F) ∧
        (s_le a2 (i_sub (i_mul 2 (F 178 (F 175 9))) 1) →
         ∃ (n1 : Nat) (F1 : fx_F), Cl k_M_isLawful [(2, 175), (0, a1), (0, a2)] F (0, n1) F1 ∧
          (n1 = 0 →
            v = (0, 0) ∧ F' = F1) ∧
           (n1 ≠ 0 →
            v = (0, 1) ∧ F' = F1))))) := by
  have t := q_ok cv_256 ap_256 (hd := []) h rfl rfl
  exact t
-- TurnNetModel.goPacket(I)Z
theorem c_M_goPacket {a1 : Nat} {F : fx_F} {v : fx_V} {F' : fx_F} (h : Cl k_M_goPacket [(2, 175), (0, a1)] F v F') : ∃ n, Rn n k_M_goPacket 0 [(2, 175), (0, a1), (3, 0)] [] F v F' := by
  obtain ⟨n, s, hs, h⟩ := h
  rw [sg_257] at hs
  cases hs
  exact ⟨n, h⟩
set_option maxRecDepth 40000 in
theorem q_M_goPacket_0 {n : Nat} {a1 : Nat} {F : fx_F} {v : fx_V} {F' : fx_F} (h : Rn n k_M_goPacket 0 [(2, 175), (0, a1), (3, 0)] [] F v F') :
  ((F 176 (i_add 65 a1)) ≠ (F 176 (i_add 53 a1)) →
   ((F 176 (i_add 65 a1)) ≠ (F 176 (i_add 53 a1)) →
     (s_lt (F 176 (i_add 77 a1)) 0 →
       (s_lt (F 196 (i_add (i_add (i_mul 20 (F 176 (i_add 53 a1))) (i_mul 2 (F 176 (i_add 65 a1)))) 0)) 0 →
         v = (0, 0) ∧ F' = F) ∧
        (s_le 0 (F 196 (i_add (i_add (i_mul 20 (F 176 (i_add 53 a1))) (i_mul 2 (F 176 (i_add 65 a1)))) 0)) →
         ∃ (n1 : Nat) (F1 : fx_F), Cl k_M_cameBy [(2, 175), (0, F 196 (i_add (i_add (i_mul 20 (F 176 (i_add 53 a1))) (i_mul 2 (F 176 (i_add 65 a1)))) 0))] F (0, n1) F1 ∧
          (s_lt n1 (F1 180 (F1 175 9)) →
            v = (0, 1) ∧ F' = (fu (fu F1 176 (i_add 65 a1) (F1 183 (i_add (i_add (i_mul 40 (F1 175 9)) (i_mul 2 (i_div (F 196 (i_add (i_add (i_mul 20 (F 176 (i_add 53 a1))) (i_mul 2 (F 176 (i_add 65 a1)))) 0)) 2))) (i_sub 1 (i_rem (F 196 (i_add (i_add (i_mul 20 (F 176 (i_add 53 a1))) (i_mul 2 (F 176 (i_add 65 a1)))) 0)) 2))))) 176 (i_add 77 a1) (F 196 (i_add (i_add (i_mul 20 (F 176 (i_add 53 a1))) (i_mul 2 (F 176 (i_add 65 a1)))) 0)))) ∧
           (s_le (F1 180 (F1 175 9)) n1 →
            v = (0, 0) ∧ F' = F1))) ∧
      (s_le 0 (F 176 (i_add 77 a1)) →
       ((F 183 (i_add (i_add (i_mul 40 (F 175 9)) (i_mul 2 (i_div (F 176 (i_add 77 a1)) 2))) (i_sub 1 (i_rem (F 176 (i_add 77 a1)) 2)))) ≠ (F 176 (i_add 20 (i_div (F 176 (i_add 77 a1)) 2))) →
         (s_lt (F 196 (i_add (i_add (i_mul 20 (F 176 (i_add 53 a1))) (i_mul 2 (F 176 (i_add 65 a1)))) 1)) 0 →
           v = (0, 0) ∧ F' = F) ∧
          (s_le 0 (F 196 (i_add (i_add (i_mul 20 (F 176 (i_add 53 a1))) (i_mul 2 (F 176 (i_add 65 a1)))) 1)) →
           ∃ (n1 : Nat) (F1 : fx_F), Cl k_M_cameBy [(2, 175), (0, F 196 (i_add (i_add (i_mul 20 (F 176 (i_add 53 a1))) (i_mul 2 (F 176 (i_add 65 a1)))) 1))] F (0, n1) F1 ∧
            (s_lt n1 (F1 180 (F1 175 9)) →
              v = (0, 1) ∧ F' = (fu (fu F1 176 (i_add 65 a1) (F1 183 (i_add (i_add (i_mul 40 (F1 175 9)) (i_mul 2 (i_div (F 196 (i_add (i_add (i_mul 20 (F 176 (i_add 53 a1))) (i_mul 2 (F 176 (i_add 65 a1)))) 1)) 2))) (i_sub 1 (i_rem (F 196 (i_add (i_add (i_mul 20 (F 176 (i_add 53 a1))) (i_mul 2 (F 176 (i_add 65 a1)))) 1)) 2))))) 176 (i_add 77 a1) (F 196 (i_add (i_add (i_mul 20 (F 176 (i_add 53 a1))) (i_mul 2 (F 176 (i_add 65 a1)))) 1)))) ∧
             (s_le (F1 180 (F1 175 9)) n1 →
              v = (0, 0) ∧ F' = F1))) ∧
        ((F 183 (i_add (i_add (i_mul 40 (F 175 9)) (i_mul 2 (i_div (F 176 (i_add 77 a1)) 2))) (i_sub 1 (i_rem (F 176 (i_add 77 a1)) 2)))) = (F 176 (i_add 20 (i_div (F 176 (i_add 77 a1)) 2))) →
         (s_lt (F 196 (i_add (i_add (i_mul 20 (F 176 (i_add 53 a1))) (i_mul 2 (F 176 (i_add 65 a1)))) 0)) 0 →
           v = (0, 0) ∧ F' = F) ∧
          (s_le 0 (F 196 (i_add (i_add (i_mul 20 (F 176 (i_add 53 a1))) (i_mul 2 (F 176 (i_add 65 a1)))) 0)) →
           ∃ (n1 : Nat) (F1 : fx_F), Cl k_M_cameBy [(2, 175), (0, F 196 (i_add (i_add (i_mul 20 (F 176 (i_add 53 a1))) (i_mul 2 (F 176 (i_add 65 a1)))) 0))] F (0, n1) F1 ∧
            (s_lt n1 (F1 180 (F1 175 9)) →
              v = (0, 1) ∧ F' = (fu (fu F1 176 (i_add 65 a1) (F1 183 (i_add (i_add (i_mul 40 (F1 175 9)) (i_mul 2 (i_div (F 196 (i_add (i_add (i_mul 20 (F 176 (i_add 53 a1))) (i_mul 2 (F 176 (i_add 65 a1)))) 0)) 2))) (i_sub 1 (i_rem (F 196 (i_add (i_add (i_mul 20 (F 176 (i_add 53 a1))) (i_mul 2 (F 176 (i_add 65 a1)))) 0)) 2))))) 176 (i_add 77 a1) (F 196 (i_add (i_add (i_mul 20 (F 176 (i_add 53 a1))) (i_mul 2 (F 176 (i_add 65 a1)))) 0)))) ∧
             (s_le (F1 180 (F1 175 9)) n1 →
              v = (0, 0) ∧ F' = F1))))) ∧
    ((F 176 (i_add 65 a1)) = (F 176 (i_add 53 a1)) →
     (s_lt 4294967295 0 →
       v = (0, 0) ∧ F' = F) ∧
      (s_le 0 4294967295 →
       ∃ (n1 : Nat) (F1 : fx_F), Cl k_M_cameBy [(2, 175), (0, 4294967295)] F (0, n1) F1 ∧
        (s_lt n1 (F1 180 (F1 175 9)) →
          v = (0, 1) ∧ F' = (fu (fu F1 176 (i_add 65 a1) (F1 183 (i_add (i_add (i_mul 40 (F1 175 9)) (i_mul 2 (i_div 4294967295 2))) (i_sub 1 (i_rem 4294967295 2))))) 176 (i_add 77 a1) 4294967295)) ∧
         (s_le (F1 180 (F1 175 9)) n1 →
          v = (0, 0) ∧ F' = F1)))) ∧
  ((F 176 (i_add 65 a1)) = (F 176 (i_add 53 a1)) →
   v = (0, 1) ∧ F' = (fu (fu F 176 (i_add 41 a1) 0) 176 101 (i_add ((fu F 176 (i_add 41 a1) 0) 176 101) 1))) := by
  have t := q_ok cv_257 ap_257 (hd := []) h rfl rfl
  exact t
-- TurnNetModel.isEither(II)Z
theorem c_M_isEither {a1 a2 : Nat} {F : fx_F} {v : fx_V} {F' : fx_F} (h : Cl k_M_isEither [(2, 175), (0, a1), (0, a2)] F v F') : ∃ n, Rn n k_M_isEither 0 [(2, 175), (0, a1), (0, a2), (3, 0), (3, 0)] [] F v F' := by
  obtain ⟨n, s, hs, h⟩ := h
  rw [sg_258] at hs
  cases hs
  exact ⟨n, h⟩
set_option maxRecDepth 40000 in
theorem q_M_isEither_0 {n : Nat} {a1 a2 : Nat} {F : fx_F} {v : fx_V} {F' : fx_F} (h : Rn n k_M_isEither 0 [(2, 175), (0, a1), (0, a2), (3, 0), (3, 0)] [] F v F') :
  ((F 202 (i_div a1 2)) = 0 →
   ((F 202 (i_div a2 2)) = 0 →
     ∃ (n1 : Nat) (F1 : fx_F), Cl k_M_isLawful [(2, 175), (0, a1), (0, a2)] F (0, n1) F1 ∧
      (n1 ≠ 0 →
        v = (0, 1) ∧ F' = F1) ∧
       (n1 = 0 →
        ∃ (n2 : Nat) (F2 : fx_F), Cl k_M_isTurn [(2, 175), (0, a1), (0, a2), (0, F 176 (i_add 20 (i_div a1 2))), (0, F 176 (i_add 20 (i_div a2 2)))] F1 (0, n2) F2 ∧
         (n2 = 0 →
           v = (0, 0) ∧ F' = F2) ∧
          (n2 ≠ 0 →
           v = (0, 1) ∧ F' = F2))) ∧
    ((F 202 (i_div a2 2)) ≠ 0 →
     ∃ (n1 : Nat) (F1 : fx_F), Cl k_M_isLawful [(2, 175), (0, a1), (0, a2)] F (0, n1) F1 ∧
      (n1 ≠ 0 →
        v = (0, 1) ∧ F' = F1) ∧
       (n1 = 0 →
        ∃ (n2 : Nat) (F2 : fx_F), Cl k_M_isTurn [(2, 175), (0, a1), (0, a2), (0, F 176 (i_add 20 (i_div a1 2))), (0, F 190 (i_div a2 2))] F1 (0, n2) F2 ∧
         (n2 = 0 →
           v = (0, 0) ∧ F' = F2) ∧
          (n2 ≠ 0 →
           v = (0, 1) ∧ F' = F2)))) ∧
  ((F 202 (i_div a1 2)) ≠ 0 →
   ((F 202 (i_div a2 2)) = 0 →
     ∃ (n1 : Nat) (F1 : fx_F), Cl k_M_isLawful [(2, 175), (0, a1), (0, a2)] F (0, n1) F1 ∧
      (n1 ≠ 0 →
        v = (0, 1) ∧ F' = F1) ∧
       (n1 = 0 →
        ∃ (n2 : Nat) (F2 : fx_F), Cl k_M_isTurn [(2, 175), (0, a1), (0, a2), (0, F 190 (i_div a1 2)), (0, F 176 (i_add 20 (i_div a2 2)))] F1 (0, n2) F2 ∧
         (n2 = 0 →
           v = (0, 0) ∧ F' = F2) ∧
          (n2 ≠ 0 →
           v = (0, 1) ∧ F' = F2))) ∧
    ((F 202 (i_div a2 2)) ≠ 0 →
     ∃ (n1 : Nat) (F1 : fx_F), Cl k_M_isLawful [(2, 175), (0, a1), (0, a2)] F (0, n1) F1 ∧
      (n1 ≠ 0 →
        v = (0, 1) ∧ F' = F1) ∧
       (n1 = 0 →
        ∃ (n2 : Nat) (F2 : fx_F), Cl k_M_isTurn [(2, 175), (0, a1), (0, a2), (0, F 190 (i_div a1 2)), (0, F 190 (i_div a2 2))] F1 (0, n2) F2 ∧
         (n2 = 0 →
           v = (0, 0) ∧ F' = F2) ∧
          (n2 ≠ 0 →
           v = (0, 1) ∧ F' = F2)))) := by
  have t := q_ok cv_258 ap_258 (hd := []) h rfl rfl
  exact t
-- TurnNetModel.isNext(III)Z
theorem c_M_isNext {a1 a2 a3 : Nat} {F : fx_F} {v : fx_V} {F' : fx_F} (h : Cl k_M_isNext [(2, 175), (0, a1), (0, a2), (0, a3)] F v F') : ∃ n, Rn n k_M_isNext 0 [(2, 175), (0, a1), (0, a2), (0, a3), (3, 0)] [] F v F' := by
  obtain ⟨n, s, hs, h⟩ := h
  rw [sg_259] at hs
  cases hs
  exact ⟨n, h⟩
set_option maxRecDepth 40000 in
theorem q_M_isNext_0 {n : Nat} {a1 a2 a3 : Nat} {F : fx_F} {v : fx_V} {F' : fx_F} (h : Rn n k_M_isNext 0 [(2, 175), (0, a1), (0, a2), (0, a3), (3, 0)] [] F v F') :
  ((F 176 (i_add 0 (i_div a2 2))) ≠ 1 →
   v = (0, 0) ∧ F' = F) ∧
  ((F 176 (i_add 0 (i_div a2 2))) = 1 →
   (a3 = 0 →
     (s_le 100000 (F 193 (i_add (i_add (i_mul 20 a1) (i_mul 2 (F 183 (i_add (i_add (i_mul 40 (F 175 9)) (i_mul 2 (i_div a2 2))) (i_rem a2 2))))) a3)) →
       v = (0, 0) ∧ F' = F) ∧
      (s_lt (F 193 (i_add (i_add (i_mul 20 a1) (i_mul 2 (F 183 (i_add (i_add (i_mul 40 (F 175 9)) (i_mul 2 (i_div a2 2))) (i_rem a2 2))))) a3)) 100000 →
       ((F 183 (i_add (i_add (i_mul 40 (F 175 9)) (i_mul 2 (i_div a2 2))) (i_sub 1 (i_rem a2 2)))) ≠ (F 176 (i_add 20 (i_div a2 2))) →
         (a3 = 1 →
           ((F 193 (i_add (i_add (i_mul 20 a1) (i_mul 2 (F 183 (i_add (i_add (i_mul 40 (F 175 9)) (i_mul 2 (i_div a2 2))) (i_rem a2 2))))) a3)) ≠ (i_add 1 (F 193 (i_add (i_add (i_mul 20 a1) (i_mul 2 (F 183 (i_add (i_add (i_mul 40 (F 175 9)) (i_mul 2 (i_div a2 2))) (i_sub 1 (i_rem a2 2)))))) 1))) →
             v = (0, 0) ∧ F' = F) ∧
            ((F 193 (i_add (i_add (i_mul 20 a1) (i_mul 2 (F 183 (i_add (i_add (i_mul 40 (F 175 9)) (i_mul 2 (i_div a2 2))) (i_rem a2 2))))) a3)) = (i_add 1 (F 193 (i_add (i_add (i_mul 20 a1) (i_mul 2 (F 183 (i_add (i_add (i_mul 40 (F 175 9)) (i_mul 2 (i_div a2 2))) (i_sub 1 (i_rem a2 2)))))) 1))) →
             v = (0, 1) ∧ F' = F)) ∧
          (a3 ≠ 1 →
           ((F 193 (i_add (i_add (i_mul 20 a1) (i_mul 2 (F 183 (i_add (i_add (i_mul 40 (F 175 9)) (i_mul 2 (i_div a2 2))) (i_rem a2 2))))) a3)) ≠ (i_add 1 (F 193 (i_add (i_add (i_mul 20 a1) (i_mul 2 (F 183 (i_add (i_add (i_mul 40 (F 175 9)) (i_mul 2 (i_div a2 2))) (i_sub 1 (i_rem a2 2)))))) 1))) →
             v = (0, 0) ∧ F' = F) ∧
            ((F 193 (i_add (i_add (i_mul 20 a1) (i_mul 2 (F 183 (i_add (i_add (i_mul 40 (F 175 9)) (i_mul 2 (i_div a2 2))) (i_rem a2 2))))) a3)) = (i_add 1 (F 193 (i_add (i_add (i_mul 20 a1) (i_mul 2 (F 183 (i_add (i_add (i_mul 40 (F 175 9)) (i_mul 2 (i_div a2 2))) (i_sub 1 (i_rem a2 2)))))) 1))) →
             v = (0, 1) ∧ F' = F))) ∧
        ((F 183 (i_add (i_add (i_mul 40 (F 175 9)) (i_mul 2 (i_div a2 2))) (i_sub 1 (i_rem a2 2)))) = (F 176 (i_add 20 (i_div a2 2))) →
         (a3 = 1 →
           ((F 193 (i_add (i_add (i_mul 20 a1) (i_mul 2 (F 183 (i_add (i_add (i_mul 40 (F 175 9)) (i_mul 2 (i_div a2 2))) (i_rem a2 2))))) a3)) ≠ (i_add 1 (F 193 (i_add (i_add (i_mul 20 a1) (i_mul 2 (F 183 (i_add (i_add (i_mul 40 (F 175 9)) (i_mul 2 (i_div a2 2))) (i_sub 1 (i_rem a2 2)))))) 1))) →
             v = (0, 0) ∧ F' = F) ∧
            ((F 193 (i_add (i_add (i_mul 20 a1) (i_mul 2 (F 183 (i_add (i_add (i_mul 40 (F 175 9)) (i_mul 2 (i_div a2 2))) (i_rem a2 2))))) a3)) = (i_add 1 (F 193 (i_add (i_add (i_mul 20 a1) (i_mul 2 (F 183 (i_add (i_add (i_mul 40 (F 175 9)) (i_mul 2 (i_div a2 2))) (i_sub 1 (i_rem a2 2)))))) 1))) →
             v = (0, 1) ∧ F' = F)) ∧
          (a3 ≠ 1 →
           ((F 193 (i_add (i_add (i_mul 20 a1) (i_mul 2 (F 183 (i_add (i_add (i_mul 40 (F 175 9)) (i_mul 2 (i_div a2 2))) (i_rem a2 2))))) a3)) ≠ (i_add 1 (F 193 (i_add (i_add (i_mul 20 a1) (i_mul 2 (F 183 (i_add (i_add (i_mul 40 (F 175 9)) (i_mul 2 (i_div a2 2))) (i_sub 1 (i_rem a2 2)))))) 0))) →
             v = (0, 0) ∧ F' = F) ∧
            ((F 193 (i_add (i_add (i_mul 20 a1) (i_mul 2 (F 183 (i_add (i_add (i_mul 40 (F 175 9)) (i_mul 2 (i_div a2 2))) (i_rem a2 2))))) a3)) = (i_add 1 (F 193 (i_add (i_add (i_mul 20 a1) (i_mul 2 (F 183 (i_add (i_add (i_mul 40 (F 175 9)) (i_mul 2 (i_div a2 2))) (i_sub 1 (i_rem a2 2)))))) 0))) →
             v = (0, 1) ∧ F' = F))))) ∧
    (a3 ≠ 0 →
     ((F 183 (i_add (i_add (i_mul 40 (F 175 9)) (i_mul 2 (i_div a2 2))) (i_sub 1 (i_rem a2 2)))) ≠ (F 176 (i_add 20 (i_div a2 2))) →
       (s_le 100000 (F 193 (i_add (i_add (i_mul 20 a1) (i_mul 2 (F 183 (i_add (i_add (i_mul 40 (F 175 9)) (i_mul 2 (i_div a2 2))) (i_rem a2 2))))) a3)) →
         v = (0, 0) ∧ F' = F) ∧
        (s_lt (F 193 (i_add (i_add (i_mul 20 a1) (i_mul 2 (F 183 (i_add (i_add (i_mul 40 (F 175 9)) (i_mul 2 (i_div a2 2))) (i_rem a2 2))))) a3)) 100000 →
         ((F 183 (i_add (i_add (i_mul 40 (F 175 9)) (i_mul 2 (i_div a2 2))) (i_sub 1 (i_rem a2 2)))) ≠ (F 176 (i_add 20 (i_div a2 2))) →
           (a3 = 1 →
             ((F 193 (i_add (i_add (i_mul 20 a1) (i_mul 2 (F 183 (i_add (i_add (i_mul 40 (F 175 9)) (i_mul 2 (i_div a2 2))) (i_rem a2 2))))) a3)) ≠ (i_add 1 (F 193 (i_add (i_add (i_mul 20 a1) (i_mul 2 (F 183 (i_add (i_add (i_mul 40 (F 175 9)) (i_mul 2 (i_div a2 2))) (i_sub 1 (i_rem a2 2)))))) 1))) →
               v = (0, 0) ∧ F' = F) ∧
              ((F 193 (i_add (i_add (i_mul 20 a1) (i_mul 2 (F 183 (i_add (i_add (i_mul 40 (F 175 9)) (i_mul 2 (i_div a2 2))) (i_rem a2 2))))) a3)) = (i_add 1 (F 193 (i_add (i_add (i_mul 20 a1) (i_mul 2 (F 183 (i_add (i_add (i_mul 40 (F 175 9)) (i_mul 2 (i_div a2 2))) (i_sub 1 (i_rem a2 2)))))) 1))) →
               v = (0, 1) ∧ F' = F)) ∧
            (a3 ≠ 1 →
             ((F 193 (i_add (i_add (i_mul 20 a1) (i_mul 2 (F 183 (i_add (i_add (i_mul 40 (F 175 9)) (i_mul 2 (i_div a2 2))) (i_rem a2 2))))) a3)) ≠ (i_add 1 (F 193 (i_add (i_add (i_mul 20 a1) (i_mul 2 (F 183 (i_add (i_add (i_mul 40 (F 175 9)) (i_mul 2 (i_div a2 2))) (i_sub 1 (i_rem a2 2)))))) 1))) →
               v = (0, 0) ∧ F' = F) ∧
              ((F 193 (i_add (i_add (i_mul 20 a1) (i_mul 2 (F 183 (i_add (i_add (i_mul 40 (F 175 9)) (i_mul 2 (i_div a2 2))) (i_rem a2 2))))) a3)) = (i_add 1 (F 193 (i_add (i_add (i_mul 20 a1) (i_mul 2 (F 183 (i_add (i_add (i_mul 40 (F 175 9)) (i_mul 2 (i_div a2 2))) (i_sub 1 (i_rem a2 2)))))) 1))) →
               v = (0, 1) ∧ F' = F))) ∧
          ((F 183 (i_add (i_add (i_mul 40 (F 175 9)) (i_mul 2 (i_div a2 2))) (i_sub 1 (i_rem a2 2)))) = (F 176 (i_add 20 (i_div a2 2))) →
           (a3 = 1 →
             ((F 193 (i_add (i_add (i_mul 20 a1) (i_mul 2 (F 183 (i_add (i_add (i_mul 40 (F 175 9)) (i_mul 2 (i_div a2 2))) (i_rem a2 2))))) a3)) ≠ (i_add 1 (F 193 (i_add (i_add (i_mul 20 a1) (i_mul 2 (F 183 (i_add (i_add (i_mul 40 (F 175 9)) (i_mul 2 (i_div a2 2))) (i_sub 1 (i_rem a2 2)))))) 1))) →
               v = (0, 0) ∧ F' = F) ∧
              ((F 193 (i_add (i_add (i_mul 20 a1) (i_mul 2 (F 183 (i_add (i_add (i_mul 40 (F 175 9)) (i_mul 2 (i_div a2 2))) (i_rem a2 2))))) a3)) = (i_add 1 (F 193 (i_add (i_add (i_mul 20 a1) (i_mul 2 (F 183 (i_add (i_add (i_mul 40 (F 175 9)) (i_mul 2 (i_div a2 2))) (i_sub 1 (i_rem a2 2)))))) 1))) →
               v = (0, 1) ∧ F' = F)) ∧
            (a3 ≠ 1 →
             ((F 193 (i_add (i_add (i_mul 20 a1) (i_mul 2 (F 183 (i_add (i_add (i_mul 40 (F 175 9)) (i_mul 2 (i_div a2 2))) (i_rem a2 2))))) a3)) ≠ (i_add 1 (F 193 (i_add (i_add (i_mul 20 a1) (i_mul 2 (F 183 (i_add (i_add (i_mul 40 (F 175 9)) (i_mul 2 (i_div a2 2))) (i_sub 1 (i_rem a2 2)))))) 0))) →
               v = (0, 0) ∧ F' = F) ∧
              ((F 193 (i_add (i_add (i_mul 20 a1) (i_mul 2 (F 183 (i_add (i_add (i_mul 40 (F 175 9)) (i_mul 2 (i_div a2 2))) (i_rem a2 2))))) a3)) = (i_add 1 (F 193 (i_add (i_add (i_mul 20 a1) (i_mul 2 (F 183 (i_add (i_add (i_mul 40 (F 175 9)) (i_mul 2 (i_div a2 2))) (i_sub 1 (i_rem a2 2)))))) 0))) →
               v = (0, 1) ∧ F' = F))))) ∧
      ((F 183 (i_add (i_add (i_mul 40 (F 175 9)) (i_mul 2 (i_div a2 2))) (i_sub 1 (i_rem a2 2)))) = (F 176 (i_add 20 (i_div a2 2))) →
       v = (0, 0) ∧ F' = F))) := by
  have t := q_ok cv_259 ap_259 (hd := []) h rfl rfl
  exact t
-- TurnNetModel.layGoal(I)V
theorem c_M_layGoal {a1 : Nat} {F : fx_F} {v : fx_V} {F' : fx_F} (h : Cl k_M_layGoal [(2, 175), (0, a1)] F v F') : ∃ n, Rn n k_M_layGoal 0 [(2, 175), (0, a1), (3, 0), (3, 0), (3, 0), (3, 0)] [] F v F' := by
  obtain ⟨n, s, hs, h⟩ := h
  rw [sg_260] at hs
  cases hs
  exact ⟨n, h⟩
set_option maxRecDepth 40000 in
theorem q_M_layGoal_0 {n : Nat} {a1 : Nat} {F : fx_F} {v : fx_V} {F' : fx_F} (h : Rn n k_M_layGoal 0 [(2, 175), (0, a1), (3, 0), (3, 0), (3, 0), (3, 0)] [] F v F') :
  ∃ m, m < n ∧ Rn m k_M_layGoal 2 [(2, 175), (0, a1), (0, 0), (3, 0), (3, 0), (3, 0)] [] F v F' := by
  have t := q_ok cv_260 ap_260 (hd := [(2, [1, 1, 1, 0, 0, 0]), (62, [1, 1, 1, 0, 0, 0]), (70, [1, 1, 1, 1, 0, 0]), (81, [1, 1, 1, 1, 1, 0])]) h rfl rfl
  exact t
set_option maxRecDepth 40000 in
theorem q_M_layGoal_2 {n : Nat} {l1 l2 : Nat} {F : fx_F} {v : fx_V} {F' : fx_F} (h : Rn n k_M_layGoal 2 [(2, 175), (0, l1), (0, l2), (3, 0), (3, 0), (3, 0)] [] F v F') :
  (s_le 10 l2 →
   ∃ m, m < n ∧ Rn m k_M_layGoal 62 [(2, 175), (0, l1), (0, 1), (3, 0), (3, 0), (3, 0)] [] F v F') ∧
  (s_lt l2 10 →
   (l2 ≠ l1 →
     (l2 ≠ l1 →
       ∃ m, m < n ∧ Rn m k_M_layGoal 2 [(2, 175), (0, l1), (0, i_add l2 1), (3, 0), (3, 0), (3, 0)] [] (fu (fu F 193 (i_add (i_add (i_mul 20 l1) (i_mul 2 l2)) 0) 100000) 193 (i_add (i_add (i_mul 20 l1) (i_mul 2 l2)) 1) 100000) v F') ∧
      (l2 = l1 →
       ∃ m, m < n ∧ Rn m k_M_layGoal 2 [(2, 175), (0, l1), (0, i_add l2 1), (3, 0), (3, 0), (3, 0)] [] (fu (fu F 193 (i_add (i_add (i_mul 20 l1) (i_mul 2 l2)) 0) 100000) 193 (i_add (i_add (i_mul 20 l1) (i_mul 2 l2)) 1) 0) v F')) ∧
    (l2 = l1 →
     (l2 ≠ l1 →
       ∃ m, m < n ∧ Rn m k_M_layGoal 2 [(2, 175), (0, l1), (0, i_add l2 1), (3, 0), (3, 0), (3, 0)] [] (fu (fu F 193 (i_add (i_add (i_mul 20 l1) (i_mul 2 l2)) 0) 0) 193 (i_add (i_add (i_mul 20 l1) (i_mul 2 l2)) 1) 100000) v F') ∧
      (l2 = l1 →
       ∃ m, m < n ∧ Rn m k_M_layGoal 2 [(2, 175), (0, l1), (0, i_add l2 1), (3, 0), (3, 0), (3, 0)] [] (fu (fu F 193 (i_add (i_add (i_mul 20 l1) (i_mul 2 l2)) 0) 0) 193 (i_add (i_add (i_mul 20 l1) (i_mul 2 l2)) 1) 0) v F'))) := by
  have t := q_ok cv_260 ap_260 (hd := [(2, [1, 1, 1, 0, 0, 0]), (62, [1, 1, 1, 0, 0, 0]), (70, [1, 1, 1, 1, 0, 0]), (81, [1, 1, 1, 1, 1, 0])]) h rfl rfl
  exact t
set_option maxRecDepth 40000 in
theorem q_M_layGoal_62 {n : Nat} {l1 l2 : Nat} {F : fx_F} {v : fx_V} {F' : fx_F} (h : Rn n k_M_layGoal 62 [(2, 175), (0, l1), (0, l2), (3, 0), (3, 0), (3, 0)] [] F v F') :
  (l2 = 0 →
   v = (2, 0) ∧ F' = F) ∧
  (l2 ≠ 0 →
   ∃ m, m < n ∧ Rn m k_M_layGoal 70 [(2, 175), (0, l1), (0, 0), (0, 0), (3, 0), (3, 0)] [] F v F') := by
  have t := q_ok cv_260 ap_260 (hd := [(2, [1, 1, 1, 0, 0, 0]), (62, [1, 1, 1, 0, 0, 0]), (70, [1, 1, 1, 1, 0, 0]), (81, [1, 1, 1, 1, 1, 0])]) h rfl rfl
  exact t
set_option maxRecDepth 40000 in
theorem q_M_layGoal_70 {n : Nat} {l1 l2 l3 : Nat} {F : fx_F} {v : fx_V} {F' : fx_F} (h : Rn n k_M_layGoal 70 [(2, 175), (0, l1), (0, l2), (0, l3), (3, 0), (3, 0)] [] F v F') :
  (s_le (i_mul 2 (F 178 (F 175 9))) l3 →
   ∃ m, m < n ∧ Rn m k_M_layGoal 62 [(2, 175), (0, l1), (0, l2), (3, 0), (3, 0), (3, 0)] [] F v F') ∧
  (s_lt l3 (i_mul 2 (F 178 (F 175 9))) →
   ∃ m, m < n ∧ Rn m k_M_layGoal 81 [(2, 175), (0, l1), (0, l2), (0, l3), (0, 0), (3, 0)] [] F v F') := by
  have t := q_ok cv_260 ap_260 (hd := [(2, [1, 1, 1, 0, 0, 0]), (62, [1, 1, 1, 0, 0, 0]), (70, [1, 1, 1, 1, 0, 0]), (81, [1, 1, 1, 1, 1, 0])]) h rfl rfl
  exact t
set_option maxRecDepth 40000 in
theorem q_M_layGoal_81 {n : Nat} {l1 l2 l3 l4 : Nat} {F : fx_F} {v : fx_V} {F' : fx_F} (h : Rn n k_M_layGoal 81 [(2, 175), (0, l1), (0, l2), (0, l3), (0, l4), (3, 0)] [] F v F') :
  (s_le 2 l4 →
   ∃ m, m < n ∧ Rn m k_M_layGoal 70 [(2, 175), (0, l1), (0, l2), (0, i_add l3 1), (3, 0), (3, 0)] [] F v F') ∧
  (s_lt l4 2 →
   ((F 176 (i_add 0 (i_div l3 2))) ≠ 1 →
     ∃ m, m < n ∧ Rn m k_M_layGoal 81 [(2, 175), (0, l1), (0, l2), (0, l3), (0, i_add l4 1), (3, 0)] [] F v F') ∧
    ((F 176 (i_add 0 (i_div l3 2))) = 1 →
     (l4 = 0 →
       ((F 183 (i_add (i_add (i_mul 40 (F 175 9)) (i_mul 2 (i_div l3 2))) (i_sub 1 (i_rem l3 2)))) ≠ (F 176 (i_add 20 (i_div l3 2))) →
         (l4 = 1 →
           (s_lt (i_add 1 (F 193 (i_add (i_add (i_mul 20 l1) (i_mul 2 (F 183 (i_add (i_add (i_mul 40 (F 175 9)) (i_mul 2 (i_div l3 2))) (i_sub 1 (i_rem l3 2)))))) 1))) (F 193 (i_add (i_add (i_mul 20 l1) (i_mul 2 (F 183 (i_add (i_add (i_mul 40 (F 175 9)) (i_mul 2 (i_div l3 2))) (i_rem l3 2))))) l4)) →
             ∃ m, m < n ∧ Rn m k_M_layGoal 81 [(2, 175), (0, l1), (0, 1), (0, l3), (0, i_add l4 1), (3, 0)] [] (fu F 193 (i_add (i_add (i_mul 20 l1) (i_mul 2 (F 183 (i_add (i_add (i_mul 40 (F 175 9)) (i_mul 2 (i_div l3 2))) (i_rem l3 2))))) l4) (i_add 1 (F 193 (i_add (i_add (i_mul 20 l1) (i_mul 2 (F 183 (i_add (i_add (i_mul 40 (F 175 9)) (i_mul 2 (i_div l3 2))) (i_sub 1 (i_rem l3 2)))))) 1)))) v F') ∧
            (s_le (F 193 (i_add (i_add (i_mul 20 l1) (i_mul 2 (F 183 (i_add (i_add (i_mul 40 (F 175 9)) (i_mul 2 (i_div l3 2))) (i_rem l3 2))))) l4)) (i_add 1 (F 193 (i_add (i_add (i_mul 20 l1) (i_mul 2 (F 183 (i_add (i_add (i_mul 40 (F 175 9)) (i_mul 2 (i_div l3 2))) (i_sub 1 (i_rem l3 2)))))) 1))) →
             ∃ m, m < n ∧ Rn m k_M_layGoal 81 [(2, 175), (0, l1), (0, l2), (0, l3), (0, i_add l4 1), (3, 0)] [] F v F')) ∧
          (l4 ≠ 1 →
           (s_lt (i_add 1 (F 193 (i_add (i_add (i_mul 20 l1) (i_mul 2 (F 183 (i_add (i_add (i_mul 40 (F 175 9)) (i_mul 2 (i_div l3 2))) (i_sub 1 (i_rem l3 2)))))) 1))) (F 193 (i_add (i_add (i_mul 20 l1) (i_mul 2 (F 183 (i_add (i_add (i_mul 40 (F 175 9)) (i_mul 2 (i_div l3 2))) (i_rem l3 2))))) l4)) →
             ∃ m, m < n ∧ Rn m k_M_layGoal 81 [(2, 175), (0, l1), (0, 1), (0, l3), (0, i_add l4 1), (3, 0)] [] (fu F 193 (i_add (i_add (i_mul 20 l1) (i_mul 2 (F 183 (i_add (i_add (i_mul 40 (F 175 9)) (i_mul 2 (i_div l3 2))) (i_rem l3 2))))) l4) (i_add 1 (F 193 (i_add (i_add (i_mul 20 l1) (i_mul 2 (F 183 (i_add (i_add (i_mul 40 (F 175 9)) (i_mul 2 (i_div l3 2))) (i_sub 1 (i_rem l3 2)))))) 1)))) v F') ∧
            (s_le (F 193 (i_add (i_add (i_mul 20 l1) (i_mul 2 (F 183 (i_add (i_add (i_mul 40 (F 175 9)) (i_mul 2 (i_div l3 2))) (i_rem l3 2))))) l4)) (i_add 1 (F 193 (i_add (i_add (i_mul 20 l1) (i_mul 2 (F 183 (i_add (i_add (i_mul 40 (F 175 9)) (i_mul 2 (i_div l3 2))) (i_sub 1 (i_rem l3 2)))))) 1))) →
             ∃ m, m < n ∧ Rn m k_M_layGoal 81 [(2, 175), (0, l1), (0, l2), (0, l3), (0, i_add l4 1), (3, 0)] [] F v F'))) ∧
        ((F 183 (i_add (i_add (i_mul 40 (F 175 9)) (i_mul 2 (i_div l3 2))) (i_sub 1 (i_rem l3 2)))) = (F 176 (i_add 20 (i_div l3 2))) →
         (l4 = 1 →
           (s_lt (i_add 1 (F 193 (i_add (i_add (i_mul 20 l1) (i_mul 2 (F 183 (i_add (i_add (i_mul 40 (F 175 9)) (i_mul 2 (i_div l3 2))) (i_sub 1 (i_rem l3 2)))))) 1))) (F 193 (i_add (i_add (i_mul 20 l1) (i_mul 2 (F 183 (i_add (i_add (i_mul 40 (F 175 9)) (i_mul 2 (i_div l3 2))) (i_rem l3 2))))) l4)) →
             ∃ m, m < n ∧ Rn m k_M_layGoal 81 [(2, 175), (0, l1), (0, 1), (0, l3), (0, i_add l4 1), (3, 0)] [] (fu F 193 (i_add (i_add (i_mul 20 l1) (i_mul 2 (F 183 (i_add (i_add (i_mul 40 (F 175 9)) (i_mul 2 (i_div l3 2))) (i_rem l3 2))))) l4) (i_add 1 (F 193 (i_add (i_add (i_mul 20 l1) (i_mul 2 (F 183 (i_add (i_add (i_mul 40 (F 175 9)) (i_mul 2 (i_div l3 2))) (i_sub 1 (i_rem l3 2)))))) 1)))) v F') ∧
            (s_le (F 193 (i_add (i_add (i_mul 20 l1) (i_mul 2 (F 183 (i_add (i_add (i_mul 40 (F 175 9)) (i_mul 2 (i_div l3 2))) (i_rem l3 2))))) l4)) (i_add 1 (F 193 (i_add (i_add (i_mul 20 l1) (i_mul 2 (F 183 (i_add (i_add (i_mul 40 (F 175 9)) (i_mul 2 (i_div l3 2))) (i_sub 1 (i_rem l3 2)))))) 1))) →
             ∃ m, m < n ∧ Rn m k_M_layGoal 81 [(2, 175), (0, l1), (0, l2), (0, l3), (0, i_add l4 1), (3, 0)] [] F v F')) ∧
          (l4 ≠ 1 →
           (s_lt (i_add 1 (F 193 (i_add (i_add (i_mul 20 l1) (i_mul 2 (F 183 (i_add (i_add (i_mul 40 (F 175 9)) (i_mul 2 (i_div l3 2))) (i_sub 1 (i_rem l3 2)))))) 0))) (F 193 (i_add (i_add (i_mul 20 l1) (i_mul 2 (F 183 (i_add (i_add (i_mul 40 (F 175 9)) (i_mul 2 (i_div l3 2))) (i_rem l3 2))))) l4)) →
             ∃ m, m < n ∧ Rn m k_M_layGoal 81 [(2, 175), (0, l1), (0, 1), (0, l3), (0, i_add l4 1), (3, 0)] [] (fu F 193 (i_add (i_add (i_mul 20 l1) (i_mul 2 (F 183 (i_add (i_add (i_mul 40 (F 175 9)) (i_mul 2 (i_div l3 2))) (i_rem l3 2))))) l4) (i_add 1 (F 193 (i_add (i_add (i_mul 20 l1) (i_mul 2 (F 183 (i_add (i_add (i_mul 40 (F 175 9)) (i_mul 2 (i_div l3 2))) (i_sub 1 (i_rem l3 2)))))) 0)))) v F') ∧
            (s_le (F 193 (i_add (i_add (i_mul 20 l1) (i_mul 2 (F 183 (i_add (i_add (i_mul 40 (F 175 9)) (i_mul 2 (i_div l3 2))) (i_rem l3 2))))) l4)) (i_add 1 (F 193 (i_add (i_add (i_mul 20 l1) (i_mul 2 (F 183 (i_add (i_add (i_mul 40 (F 175 9)) (i_mul 2 (i_div l3 2))) (i_sub 1 (i_rem l3 2)))))) 0))) →
             ∃ m, m < n ∧ Rn m k_M_layGoal 81 [(2, 175), (0, l1), (0, l2), (0, l3), (0, i_add l4 1), (3, 0)] [] F v F')))) ∧
      (l4 ≠ 0 →
       ((F 183 (i_add (i_add (i_mul 40 (F 175 9)) (i_mul 2 (i_div l3 2))) (i_sub 1 (i_rem l3 2)))) ≠ (F 176 (i_add 20 (i_div l3 2))) →
         ((F 183 (i_add (i_add (i_mul 40 (F 175 9)) (i_mul 2 (i_div l3 2))) (i_sub 1 (i_rem l3 2)))) ≠ (F 176 (i_add 20 (i_div l3 2))) →
           (l4 = 1 →
             (s_lt (i_add 1 (F 193 (i_add (i_add (i_mul 20 l1) (i_mul 2 (F 183 (i_add (i_add (i_mul 40 (F 175 9)) (i_mul 2 (i_div l3 2))) (i_sub 1 (i_rem l3 2)))))) 1))) (F 193 (i_add (i_add (i_mul 20 l1) (i_mul 2 (F 183 (i_add (i_add (i_mul 40 (F 175 9)) (i_mul 2 (i_div l3 2))) (i_rem l3 2))))) l4)) →
               ∃ m, m < n ∧ Rn m k_M_layGoal 81 [(2, 175), (0, l1), (0, 1), (0, l3), (0, i_add l4 1), (3, 0)] [] (fu F 193 (i_add (i_add (i_mul 20 l1) (i_mul 2 (F 183 (i_add (i_add (i_mul 40 (F 175 9)) (i_mul 2 (i_div l3 2))) (i_rem l3 2))))) l4) (i_add 1 (F 193 (i_add (i_add (i_mul 20 l1) (i_mul 2 (F 183 (i_add (i_add (i_mul 40 (F 175 9)) (i_mul 2 (i_div l3 2))) (i_sub 1 (i_rem l3 2)))))) 1)))) v F') ∧
              (s_le (F 193 (i_add (i_add (i_mul 20 l1) (i_mul 2 (F 183 (i_add (i_add (i_mul 40 (F 175 9)) (i_mul 2 (i_div l3 2))) (i_rem l3 2))))) l4)) (i_add 1 (F 193 (i_add (i_add (i_mul 20 l1) (i_mul 2 (F 183 (i_add (i_add (i_mul 40 (F 175 9)) (i_mul 2 (i_div l3 2))) (i_sub 1 (i_rem l3 2)))))) 1))) →
               ∃ m, m < n ∧ Rn m k_M_layGoal 81 [(2, 175), (0, l1), (0, l2), (0, l3), (0, i_add l4 1), (3, 0)] [] F v F')) ∧
            (l4 ≠ 1 →
             (s_lt (i_add 1 (F 193 (i_add (i_add (i_mul 20 l1) (i_mul 2 (F 183 (i_add (i_add (i_mul 40 (F 175 9)) (i_mul 2 (i_div l3 2))) (i_sub 1 (i_rem l3 2)))))) 1))) (F 193 (i_add (i_add (i_mul 20 l1) (i_mul 2 (F 183 (i_add (i_add (i_mul 40 (F 175 9)) (i_mul 2 (i_div l3 2))) (i_rem l3 2))))) l4)) →
               ∃ m, m < n ∧ Rn m k_M_layGoal 81 [(2, 175), (0, l1), (0, 1), (0, l3), (0, i_add l4 1), (3, 0)] [] (fu F 193 (i_add (i_add (i_mul 20 l1) (i_mul 2 (F 183 (i_add (i_add (i_mul 40 (F 175 9)) (i_mul 2 (i_div l3 2))) (i_rem l3 2))))) l4) (i_add 1 (F 193 (i_add (i_add (i_mul 20 l1) (i_mul 2 (F 183 (i_add (i_add (i_mul 40 (F 175 9)) (i_mul 2 (i_div l3 2))) (i_sub 1 (i_rem l3 2)))))) 1)))) v F') ∧
              (s_le (F 193 (i_add (i_add (i_mul 20 l1) (i_mul 2 (F 183 (i_add (i_add (i_mul 40 (F 175 9)) (i_mul 2 (i_div l3 2))) (i_rem l3 2))))) l4)) (i_add 1 (F 193 (i_add (i_add (i_mul 20 l1) (i_mul 2 (F 183 (i_add (i_add (i_mul 40 (F 175 9)) (i_mul 2 (i_div l3 2))) (i_sub 1 (i_rem l3 2)))))) 1))) →
               ∃ m, m < n ∧ Rn m k_M_layGoal 81 [(2, 175), (0, l1), (0, l2), (0, l3), (0, i_add l4 1), (3, 0)] [] F v F'))) ∧
          ((F 183 (i_add (i_add (i_mul 40 (F 175 9)) (i_mul 2 (i_div l3 2))) (i_sub 1 (i_rem l3 2)))) = (F 176 (i_add 20 (i_div l3 2))) →
           (l4 = 1 →
             (s_lt (i_add 1 (F 193 (i_add (i_add (i_mul 20 l1) (i_mul 2 (F 183 (i_add (i_add (i_mul 40 (F 175 9)) (i_mul 2 (i_div l3 2))) (i_sub 1 (i_rem l3 2)))))) 1))) (F 193 (i_add (i_add (i_mul 20 l1) (i_mul 2 (F 183 (i_add (i_add (i_mul 40 (F 175 9)) (i_mul 2 (i_div l3 2))) (i_rem l3 2))))) l4)) →
               ∃ m, m < n ∧ Rn m k_M_layGoal 81 [(2, 175), (0, l1), (0, 1), (0, l3), (0, i_add l4 1), (3, 0)] [] (fu F 193 (i_add (i_add (i_mul 20 l1) (i_mul 2 (F 183 (i_add (i_add (i_mul 40 (F 175 9)) (i_mul 2 (i_div l3 2))) (i_rem l3 2))))) l4) (i_add 1 (F 193 (i_add (i_add (i_mul 20 l1) (i_mul 2 (F 183 (i_add (i_add (i_mul 40 (F 175 9)) (i_mul 2 (i_div l3 2))) (i_sub 1 (i_rem l3 2)))))) 1)))) v F') ∧
              (s_le (F 193 (i_add (i_add (i_mul 20 l1) (i_mul 2 (F 183 (i_add (i_add (i_mul 40 (F 175 9)) (i_mul 2 (i_div l3 2))) (i_rem l3 2))))) l4)) (i_add 1 (F 193 (i_add (i_add (i_mul 20 l1) (i_mul 2 (F 183 (i_add (i_add (i_mul 40 (F 175 9)) (i_mul 2 (i_div l3 2))) (i_sub 1 (i_rem l3 2)))))) 1))) →
               ∃ m, m < n ∧ Rn m k_M_layGoal 81 [(2, 175), (0, l1), (0, l2), (0, l3), (0, i_add l4 1), (3, 0)] [] F v F')) ∧
            (l4 ≠ 1 →
             (s_lt (i_add 1 (F 193 (i_add (i_add (i_mul 20 l1) (i_mul 2 (F 183 (i_add (i_add (i_mul 40 (F 175 9)) (i_mul 2 (i_div l3 2))) (i_sub 1 (i_rem l3 2)))))) 0))) (F 193 (i_add (i_add (i_mul 20 l1) (i_mul 2 (F 183 (i_add (i_add (i_mul 40 (F 175 9)) (i_mul 2 (i_div l3 2))) (i_rem l3 2))))) l4)) →
               ∃ m, m < n ∧ Rn m k_M_layGoal 81 [(2, 175), (0, l1), (0, 1), (0, l3), (0, i_add l4 1), (3, 0)] [] (fu F 193 (i_add (i_add (i_mul 20 l1) (i_mul 2 (F 183 (i_add (i_add (i_mul 40 (F 175 9)) (i_mul 2 (i_div l3 2))) (i_rem l3 2))))) l4) (i_add 1 (F 193 (i_add (i_add (i_mul 20 l1) (i_mul 2 (F 183 (i_add (i_add (i_mul 40 (F 175 9)) (i_mul 2 (i_div l3 2))) (i_sub 1 (i_rem l3 2)))))) 0)))) v F') ∧
              (s_le (F 193 (i_add (i_add (i_mul 20 l1) (i_mul 2 (F 183 (i_add (i_add (i_mul 40 (F 175 9)) (i_mul 2 (i_div l3 2))) (i_rem l3 2))))) l4)) (i_add 1 (F 193 (i_add (i_add (i_mul 20 l1) (i_mul 2 (F 183 (i_add (i_add (i_mul 40 (F 175 9)) (i_mul 2 (i_div l3 2))) (i_sub 1 (i_rem l3 2)))))) 0))) →
               ∃ m, m < n ∧ Rn m k_M_layGoal 81 [(2, 175), (0, l1), (0, l2), (0, l3), (0, i_add l4 1), (3, 0)] [] F v F')))) ∧
        ((F 183 (i_add (i_add (i_mul 40 (F 175 9)) (i_mul 2 (i_div l3 2))) (i_sub 1 (i_rem l3 2)))) = (F 176 (i_add 20 (i_div l3 2))) →
         ∃ m, m < n ∧ Rn m k_M_layGoal 81 [(2, 175), (0, l1), (0, l2), (0, l3), (0, i_add l4 1), (3, 0)] [] F v F')))) := by
  have t := q_ok cv_260 ap_260 (hd := [(2, [1, 1, 1, 0, 0, 0]), (62, [1, 1, 1, 0, 0, 0]), (70, [1, 1, 1, 1, 0, 0]), (81, [1, 1, 1, 1, 1, 0])]) h rfl rfl
  exact t
-- TurnNetModel.layTurns()V
theorem c_M_layTurns {F : fx_F} {v : fx_V} {F' : fx_F} (h : Cl k_M_layTurns [(2, 175)] F v F') : ∃ n, Rn n k_M_layTurns 0 [(2, 175), (3, 0), (3, 0)] [] F v F' := by
  obtain ⟨n, s, hs, h⟩ := h
  rw [sg_261] at hs
  cases hs
  exact ⟨n, h⟩
set_option maxRecDepth 40000 in
theorem q_M_layTurns_0 {n : Nat} {F : fx_F} {v : fx_V} {F' : fx_F} (h : Rn n k_M_layTurns 0 [(2, 175), (3, 0), (3, 0)] [] F v F') :
  ∃ m, m < n ∧ Rn m k_M_layTurns 2 [(2, 175), (0, 0), (3, 0)] [] F v F' := by
  have t := q_ok cv_261 ap_261 (hd := [(2, [1, 1, 0]), (19, [1, 1, 1])]) h rfl rfl
  exact t
set_option maxRecDepth 40000 in
theorem q_M_layTurns_2 {n : Nat} {l1 : Nat} {F : fx_F} {v : fx_V} {F' : fx_F} (h : Rn n k_M_layTurns 2 [(2, 175), (0, l1), (3, 0)] [] F v F') :
  (s_le (i_mul 2 (F 178 (F 175 9))) l1 →
   v = (2, 0) ∧ F' = F) ∧
  (s_lt l1 (i_mul 2 (F 178 (F 175 9))) →
   ∃ m, m < n ∧ Rn m k_M_layTurns 19 [(2, 175), (0, l1), (0, 0)] [] (fu F 192 l1 0) v F') := by
  have t := q_ok cv_261 ap_261 (hd := [(2, [1, 1, 0]), (19, [1, 1, 1])]) h rfl rfl
  exact t
set_option maxRecDepth 40000 in
theorem q_M_layTurns_19 {n : Nat} {l1 l2 : Nat} {F : fx_F} {v : fx_V} {F' : fx_F} (h : Rn n k_M_layTurns 19 [(2, 175), (0, l1), (0, l2)] [] F v F') :
  (s_le (i_mul 2 (F 178 (F 175 9))) l2 →
   ∃ m, m < n ∧ Rn m k_M_layTurns 2 [(2, 175), (0, i_add l1 1), (3, 0)] [] F v F') ∧
  (s_lt l2 (i_mul 2 (F 178 (F 175 9))) →
   ∃ (n1 : Nat) (F1 : fx_F), Cl k_M_isLawful [(2, 175), (0, l1), (0, l2)] F (0, n1) F1 ∧
    (n1 = 0 →
      ∃ m, m < n ∧ Rn m k_M_layTurns 19 [(2, 175), (0, l1), (0, i_add l2 1)] [] F1 v F') ∧
     (n1 ≠ 0 →
      ∃ m, m < n ∧ Rn m k_M_layTurns 19 [(2, 175), (0, l1), (0, i_add l2 1)] [] (fu F1 192 l1 (rx_j_or (F1 192 l1) (rx_j_shl 1 l2))) v F')) := by
  have t := q_ok cv_261 ap_261 (hd := [(2, [1, 1, 0]), (19, [1, 1, 1])]) h rfl rfl
  exact t
-- TurnNetModel.orient(I)I
theorem c_M_orient {a1 : Nat} {F : fx_F} {v : fx_V} {F' : fx_F} (h : Cl k_M_orient [(2, 175), (0, a1)] F v F') : ∃ n, Rn n k_M_orient 0 [(2, 175), (0, a1), (3, 0)] [] F v F' := by
  obtain ⟨n, s, hs, h⟩ := h
  rw [sg_262] at hs
  cases hs
  exact ⟨n, h⟩
set_option maxRecDepth 40000 in
theorem q_M_orient_0 {n : Nat} {a1 : Nat} {F : fx_F} {v : fx_V} {F' : fx_F} (h : Rn n k_M_orient 0 [(2, 175), (0, a1), (3, 0)] [] F v F') :
  (s_lt a1 0 →
   v = (0, 4294967295) ∧ F' = F) ∧
  (s_le 0 a1 →
   (s_lt (i_sub (F 177 (F 175 9)) 1) a1 →
     v = (0, 4294967295) ∧ F' = F) ∧
    (s_le a1 (i_sub (F 177 (F 175 9)) 1) →
     ∃ F1 : fx_F, Cl k_M_keepAct [(2, 175)] F (2, 0) F1 ∧
      ∃ F2 : fx_F, Cl k_M_orientBy [(2, 175), (0, a1)] F1 (2, 0) F2 ∧
       ∃ (n3 : Nat) (F3 : fx_F), Cl k_M_flips [(2, 175)] F2 (0, n3) F3 ∧
        ∃ F4 : fx_F, Cl k_M_takeOver [(2, 175)] F3 (2, 0) F4 ∧
         v = (0, n3) ∧ F' = (fu F4 176 40 a1))) := by
  have t := q_ok cv_262 ap_262 (hd := []) h rfl rfl
  exact t
-- TurnNetModel.startAnew()V
theorem c_M_startAnew {F : fx_F} {v : fx_V} {F' : fx_F} (h : Cl k_M_startAnew [(2, 175)] F v F') : ∃ n, Rn n k_M_startAnew 0 [(2, 175), (3, 0)] [] F v F' := by
  obtain ⟨n, s, hs, h⟩ := h
  rw [sg_264] at hs
  cases hs
  exact ⟨n, h⟩
set_option maxRecDepth 40000 in
theorem q_M_startAnew_0 {n : Nat} {F : fx_F} {v : fx_V} {F' : fx_F} (h : Rn n k_M_startAnew 0 [(2, 175), (3, 0)] [] F v F') :
  ∃ m, m < n ∧ Rn m k_M_startAnew 2 [(2, 175), (0, 0)] [] F v F' := by
  have t := q_ok cv_264 ap_264 (hd := [(2, [1, 1]), (23, [1, 1]), (75, [1, 1]), (116, [1, 1])]) h rfl rfl
  exact t
set_option maxRecDepth 40000 in
theorem q_M_startAnew_2 {n : Nat} {l1 : Nat} {F : fx_F} {v : fx_V} {F' : fx_F} (h : Rn n k_M_startAnew 2 [(2, 175), (0, l1)] [] F v F') :
  (s_le 103 l1 →
   ∃ m, m < n ∧ Rn m k_M_startAnew 23 [(2, 175), (0, 0)] [] F v F') ∧
  (s_lt l1 103 →
   ∃ m, m < n ∧ Rn m k_M_startAnew 2 [(2, 175), (0, i_add l1 1)] [] (fu F 176 l1 0) v F') := by
  have t := q_ok cv_264 ap_264 (hd := [(2, [1, 1]), (23, [1, 1]), (75, [1, 1]), (116, [1, 1])]) h rfl rfl
  exact t
set_option maxRecDepth 40000 in
theorem q_M_startAnew_23 {n : Nat} {l1 : Nat} {F : fx_F} {v : fx_V} {F' : fx_F} (h : Rn n k_M_startAnew 23 [(2, 175), (0, l1)] [] F v F') :
  (s_le 20 l1 →
   ∃ F1 : fx_F, Cl k_M_orientBy [(2, 175), (0, F 179 (F 175 9))] (fu F 176 40 (F 179 (F 175 9))) (2, 0) F1 ∧
    ∃ m, m < n ∧ Rn m k_M_startAnew 75 [(2, 175), (0, 0)] [] F1 v F') ∧
  (s_lt l1 20 →
   ∃ m, m < n ∧ Rn m k_M_startAnew 23 [(2, 175), (0, i_add l1 1)] [] (fu F 176 (i_add 0 l1) 1) v F') := by
  have t := q_ok cv_264 ap_264 (hd := [(2, [1, 1]), (23, [1, 1]), (75, [1, 1]), (116, [1, 1])]) h rfl rfl
  exact t
set_option maxRecDepth 40000 in
theorem q_M_startAnew_75 {n : Nat} {l1 : Nat} {F : fx_F} {v : fx_V} {F' : fx_F} (h : Rn n k_M_startAnew 75 [(2, 175), (0, l1)] [] F v F') :
  (s_le (F 178 (F 175 9)) l1 →
   ∃ m, m < n ∧ Rn m k_M_startAnew 116 [(2, 175), (0, 0)] [] (fu (fu F 175 56 0) 175 57 0) v F') ∧
  (s_lt l1 (F 178 (F 175 9)) →
   ∃ m, m < n ∧ Rn m k_M_startAnew 75 [(2, 175), (0, i_add l1 1)] [] (fu F 176 (i_add 20 l1) (F 190 l1)) v F') := by
  have t := q_ok cv_264 ap_264 (hd := [(2, [1, 1]), (23, [1, 1]), (75, [1, 1]), (116, [1, 1])]) h rfl rfl
  exact t
set_option maxRecDepth 40000 in
theorem q_M_startAnew_116 {n : Nat} {l1 : Nat} {F : fx_F} {v : fx_V} {F' : fx_F} (h : Rn n k_M_startAnew 116 [(2, 175), (0, l1)] [] F v F') :
  (s_le 2 l1 →
   v = (2, 0) ∧ F' = F) ∧
  (s_lt l1 2 →
   ∃ m, m < n ∧ Rn m k_M_startAnew 116 [(2, 175), (0, i_add l1 1)] [] (fu F 206 l1 0) v F') := by
  have t := q_ok cv_264 ap_264 (hd := [(2, [1, 1]), (23, [1, 1]), (75, [1, 1]), (116, [1, 1])]) h rfl rfl
  exact t
-- TurnNetModel.isSafe()Z
theorem c_M_isSafe {F : fx_F} {v : fx_V} {F' : fx_F} (h : Cl k_M_isSafe [(2, 175)] F v F') : ∃ n, Rn n k_M_isSafe 0 [(2, 175), (3, 0), (3, 0)] [] F v F' := by
  obtain ⟨n, s, hs, h⟩ := h
  rw [sg_266] at hs
  cases hs
  exact ⟨n, h⟩
set_option maxRecDepth 40000 in
theorem q_M_isSafe_0 {n : Nat} {F : fx_F} {v : fx_V} {F' : fx_F} (h : Rn n k_M_isSafe 0 [(2, 175), (3, 0), (3, 0)] [] F v F') :
  ∃ m, m < n ∧ Rn m k_M_isSafe 2 [(2, 175), (0, 0), (3, 0)] [] F v F' := by
  have t := q_ok cv_266 ap_266 (hd := [(2, [1, 1, 0]), (19, [1, 1, 1])]) h rfl rfl
  exact t
set_option maxRecDepth 40000 in
theorem q_M_isSafe_2 {n : Nat} {l1 : Nat} {F : fx_F} {v : fx_V} {F' : fx_F} (h : Rn n k_M_isSafe 2 [(2, 175), (0, l1), (3, 0)] [] F v F') :
  (s_le (i_mul 2 (F 178 (F 175 9))) l1 →
   ∃ (n1 : Nat) (F1 : fx_F), Cl k_M_hasRing [(2, 175)] F (0, n1) F1 ∧
    (n1 ≠ 0 →
      v = (0, 0) ∧ F' = F1) ∧
     (n1 = 0 →
      v = (0, 1) ∧ F' = F1)) ∧
  (s_lt l1 (i_mul 2 (F 178 (F 175 9))) →
   ∃ m, m < n ∧ Rn m k_M_isSafe 19 [(2, 175), (0, l1), (0, 0)] [] (fu F 192 l1 0) v F') := by
  have t := q_ok cv_266 ap_266 (hd := [(2, [1, 1, 0]), (19, [1, 1, 1])]) h rfl rfl
  exact t
set_option maxRecDepth 40000 in
theorem q_M_isSafe_19 {n : Nat} {l1 l2 : Nat} {F : fx_F} {v : fx_V} {F' : fx_F} (h : Rn n k_M_isSafe 19 [(2, 175), (0, l1), (0, l2)] [] F v F') :
  (s_le (i_mul 2 (F 178 (F 175 9))) l2 →
   ∃ m, m < n ∧ Rn m k_M_isSafe 2 [(2, 175), (0, i_add l1 1), (3, 0)] [] F v F') ∧
  (s_lt l2 (i_mul 2 (F 178 (F 175 9))) →
   ∃ (n1 : Nat) (F1 : fx_F), Cl k_M_isEither [(2, 175), (0, l1), (0, l2)] F (0, n1) F1 ∧
    (n1 = 0 →
      ∃ m, m < n ∧ Rn m k_M_isSafe 19 [(2, 175), (0, l1), (0, i_add l2 1)] [] F1 v F') ∧
     (n1 ≠ 0 →
      ∃ m, m < n ∧ Rn m k_M_isSafe 19 [(2, 175), (0, l1), (0, i_add l2 1)] [] (fu F1 192 l1 (rx_j_or (F1 192 l1) (rx_j_shl 1 l2))) v F')) := by
  have t := q_ok cv_266 ap_266 (hd := [(2, [1, 1, 0]), (19, [1, 1, 1])]) h rfl rfl
  exact t
-- TurnNetModel.layCome(II)V
theorem c_M_layCome {a1 a2 : Nat} {F : fx_F} {v : fx_V} {F' : fx_F} (h : Cl k_M_layCome [(2, 175), (0, a1), (0, a2)] F v F') : ∃ n, Rn n k_M_layCome 0 [(2, 175), (0, a1), (0, a2), (3, 0), (3, 0), (3, 0)] [] F v F' := by
  obtain ⟨n, s, hs, h⟩ := h
  rw [sg_267] at hs
  cases hs
  exact ⟨n, h⟩
set_option maxRecDepth 40000 in
theorem q_M_layCome_0 {n : Nat} {a1 a2 : Nat} {F : fx_F} {v : fx_V} {F' : fx_F} (h : Rn n k_M_layCome 0 [(2, 175), (0, a1), (0, a2), (3, 0), (3, 0), (3, 0)] [] F v F') :
  ∃ m, m < n ∧ Rn m k_M_layCome 2 [(2, 175), (0, a1), (0, a2), (0, 0), (3, 0), (3, 0)] [] F v F' := by
  have t := q_ok cv_267 ap_267 (hd := [(2, [1, 1, 1, 1, 0, 0]), (39, [1, 0, 1, 1, 0, 0]), (46, [1, 0, 1, 1, 1, 0]), (58, [1, 0, 1, 1, 1, 1])]) h rfl rfl
  exact t
set_option maxRecDepth 40000 in
theorem q_M_layCome_2 {n : Nat} {l1 l2 l3 : Nat} {F : fx_F} {v : fx_V} {F' : fx_F} (h : Rn n k_M_layCome 2 [(2, 175), (0, l1), (0, l2), (0, l3), (3, 0), (3, 0)] [] F v F') :
  (s_le 20 l3 →
   ∃ m, m < n ∧ Rn m k_M_layCome 39 [(2, 175), (3, 0), (0, l2), (0, F 193 (i_add (i_add (i_mul 20 l2) (i_mul 2 l1)) 0)), (3, 0), (3, 0)] [] F v F') ∧
  (s_lt l3 20 →
   (l3 ≠ (i_mul 2 l1) →
     ∃ m, m < n ∧ Rn m k_M_layCome 2 [(2, 175), (0, l1), (0, l2), (0, i_add l3 1), (3, 0), (3, 0)] [] (fu F 195 l3 0) v F') ∧
    (l3 = (i_mul 2 l1) →
     ∃ m, m < n ∧ Rn m k_M_layCome 2 [(2, 175), (0, l1), (0, l2), (0, i_add l3 1), (3, 0), (3, 0)] [] (fu F 195 l3 1) v F')) := by
  have t := q_ok cv_267 ap_267 (hd := [(2, [1, 1, 1, 1, 0, 0]), (39, [1, 0, 1, 1, 0, 0]), (46, [1, 0, 1, 1, 1, 0]), (58, [1, 0, 1, 1, 1, 1])]) h rfl rfl
  exact t
set_option maxRecDepth 40000 in
theorem q_M_layCome_39 {n : Nat} {l2 l3 : Nat} {F : fx_F} {v : fx_V} {F' : fx_F} (h : Rn n k_M_layCome 39 [(2, 175), (3, 0), (0, l2), (0, l3), (3, 0), (3, 0)] [] F v F') :
  (s_le l3 0 →
   v = (2, 0) ∧ F' = F) ∧
  (s_lt 0 l3 →
   ∃ m, m < n ∧ Rn m k_M_layCome 46 [(2, 175), (3, 0), (0, l2), (0, l3), (0, 0), (3, 0)] [] F v F') := by
  have t := q_ok cv_267 ap_267 (hd := [(2, [1, 1, 1, 1, 0, 0]), (39, [1, 0, 1, 1, 0, 0]), (46, [1, 0, 1, 1, 1, 0]), (58, [1, 0, 1, 1, 1, 1])]) h rfl rfl
  exact t
set_option maxRecDepth 40000 in
theorem q_M_layCome_46 {n : Nat} {l2 l3 l4 : Nat} {F : fx_F} {v : fx_V} {F' : fx_F} (h : Rn n k_M_layCome 46 [(2, 175), (3, 0), (0, l2), (0, l3), (0, l4), (3, 0)] [] F v F') :
  (s_le (i_mul 2 (F 178 (F 175 9))) l4 →
   ∃ m, m < n ∧ Rn m k_M_layCome 39 [(2, 175), (3, 0), (0, l2), (0, i_add l3 4294967295), (3, 0), (3, 0)] [] F v F') ∧
  (s_lt l4 (i_mul 2 (F 178 (F 175 9))) →
   ∃ m, m < n ∧ Rn m k_M_layCome 58 [(2, 175), (3, 0), (0, l2), (0, l3), (0, l4), (0, 0)] [] F v F') := by
  have t := q_ok cv_267 ap_267 (hd := [(2, [1, 1, 1, 1, 0, 0]), (39, [1, 0, 1, 1, 0, 0]), (46, [1, 0, 1, 1, 1, 0]), (58, [1, 0, 1, 1, 1, 1])]) h rfl rfl
  exact t
set_option maxRecDepth 40000 in
theorem q_M_layCome_58 {n : Nat} {l2 l3 l4 l5 : Nat} {F : fx_F} {v : fx_V} {F' : fx_F} (h : Rn n k_M_layCome 58 [(2, 175), (3, 0), (0, l2), (0, l3), (0, l4), (0, l5)] [] F v F') :
  (s_le 2 l5 →
   ∃ m, m < n ∧ Rn m k_M_layCome 46 [(2, 175), (3, 0), (0, l2), (0, l3), (0, i_add l4 1), (3, 0)] [] F v F') ∧
  (s_lt l5 2 →
   ((F 193 (i_add (i_add (i_mul 20 l2) (i_mul 2 (F 183 (i_add (i_add (i_mul 40 (F 175 9)) (i_mul 2 (i_div l4 2))) (i_rem l4 2))))) l5)) ≠ l3 →
     ∃ m, m < n ∧ Rn m k_M_layCome 58 [(2, 175), (3, 0), (0, l2), (0, l3), (0, l4), (0, i_add l5 1)] [] F v F') ∧
    ((F 193 (i_add (i_add (i_mul 20 l2) (i_mul 2 (F 183 (i_add (i_add (i_mul 40 (F 175 9)) (i_mul 2 (i_div l4 2))) (i_rem l4 2))))) l5)) = l3 →
     ∃ (n1 : Nat) (F1 : fx_F), Cl k_M_isNext [(2, 175), (0, l2), (0, l4), (0, l5)] F (0, n1) F1 ∧
      (n1 ≠ 0 →
        ((F1 183 (i_add (i_add (i_mul 40 (F1 175 9)) (i_mul 2 (i_div l4 2))) (i_sub 1 (i_rem l4 2)))) ≠ (F1 176 (i_add 20 (i_div l4 2))) →
          (l5 = 1 →
            ∃ m, m < n ∧ Rn m k_M_layCome 58 [(2, 175), (3, 0), (0, l2), (0, l3), (0, l4), (0, i_add l5 1)] [] (fu F1 195 (i_add (i_mul 2 (F1 183 (i_add (i_add (i_mul 40 (F1 175 9)) (i_mul 2 (i_div l4 2))) (i_sub 1 (i_rem l4 2))))) 1) (rx_j_add (F1 195 (i_add (i_mul 2 (F1 183 (i_add (i_add (i_mul 40 (F1 175 9)) (i_mul 2 (i_div l4 2))) (i_sub 1 (i_rem l4 2))))) 1)) (F1 195 (i_add (i_mul 2 (F1 183 (i_add (i_add (i_mul 40 (F1 175 9)) (i_mul 2 (i_div l4 2))) (i_rem l4 2)))) l5)))) v F') ∧
           (l5 ≠ 1 →
            ∃ m, m < n ∧ Rn m k_M_layCome 58 [(2, 175), (3, 0), (0, l2), (0, l3), (0, l4), (0, i_add l5 1)] [] (fu F1 195 (i_add (i_mul 2 (F1 183 (i_add (i_add (i_mul 40 (F1 175 9)) (i_mul 2 (i_div l4 2))) (i_sub 1 (i_rem l4 2))))) 1) (rx_j_add (F1 195 (i_add (i_mul 2 (F1 183 (i_add (i_add (i_mul 40 (F1 175 9)) (i_mul 2 (i_div l4 2))) (i_sub 1 (i_rem l4 2))))) 1)) (F1 195 (i_add (i_mul 2 (F1 183 (i_add (i_add (i_mul 40 (F1 175 9)) (i_mul 2 (i_div l4 2))) (i_rem l4 2)))) l5)))) v F')) ∧
         ((F1 183 (i_add (i_add (i_mul 40 (F1 175 9)) (i_mul 2 (i_div l4 2))) (i_sub 1 (i_rem l4 2)))) = (F1 176 (i_add 20 (i_div l4 2))) →
          (l5 = 1 →
            ∃ m, m < n ∧ Rn m k_M_layCome 58 [(2, 175), (3, 0), (0, l2), (0, l3), (0, l4), (0, i_add l5 1)] [] (fu F1 195 (i_add (i_mul 2 (F1 183 (i_add (i_add (i_mul 40 (F1 175 9)) (i_mul 2 (i_div l4 2))) (i_sub 1 (i_rem l4 2))))) 1) (rx_j_add (F1 195 (i_add (i_mul 2 (F1 183 (i_add (i_add (i_mul 40 (F1 175 9)) (i_mul 2 (i_div l4 2))) (i_sub 1 (i_rem l4 2))))) 1)) (F1 195 (i_add (i_mul 2 (F1 183 (i_add (i_add (i_mul 40 (F1 175 9)) (i_mul 2 (i_div l4 2))) (i_rem l4 2)))) l5)))) v F') ∧
           (l5 ≠ 1 →
            ∃ m, m < n ∧ Rn m k_M_layCome 58 [(2, 175), (3, 0), (0, l2), (0, l3), (0, l4), (0, i_add l5 1)] [] (fu F1 195 (i_add (i_mul 2 (F1 183 (i_add (i_add (i_mul 40 (F1 175 9)) (i_mul 2 (i_div l4 2))) (i_sub 1 (i_rem l4 2))))) 0) (rx_j_add (F1 195 (i_add (i_mul 2 (F1 183 (i_add (i_add (i_mul 40 (F1 175 9)) (i_mul 2 (i_div l4 2))) (i_sub 1 (i_rem l4 2))))) 0)) (F1 195 (i_add (i_mul 2 (F1 183 (i_add (i_add (i_mul 40 (F1 175 9)) (i_mul 2 (i_div l4 2))) (i_rem l4 2)))) l5)))) v F'))) ∧
       (n1 = 0 →
        ∃ m, m < n ∧ Rn m k_M_layCome 58 [(2, 175), (3, 0), (0, l2), (0, l3), (0, l4), (0, i_add l5 1)] [] F1 v F'))) := by
  have t := q_ok cv_267 ap_267 (hd := [(2, [1, 1, 1, 1, 0, 0]), (39, [1, 0, 1, 1, 0, 0]), (46, [1, 0, 1, 1, 1, 0]), (58, [1, 0, 1, 1, 1, 1])]) h rfl rfl
  exact t
-- TurnNetModel.layGoals()V
theorem c_M_layGoals {F : fx_F} {v : fx_V} {F' : fx_F} (h : Cl k_M_layGoals [(2, 175)] F v F') : ∃ n, Rn n k_M_layGoals 0 [(2, 175), (3, 0)] [] F v F' := by
  obtain ⟨n, s, hs, h⟩ := h
  rw [sg_268] at hs
  cases hs
  exact ⟨n, h⟩
set_option maxRecDepth 40000 in
theorem q_M_layGoals_0 {n : Nat} {F : fx_F} {v : fx_V} {F' : fx_F} (h : Rn n k_M_layGoals 0 [(2, 175), (3, 0)] [] F v F') :
  ∃ m, m < n ∧ Rn m k_M_layGoals 2 [(2, 175), (0, 0)] [] F v F' := by
  have t := q_ok cv_268 ap_268 (hd := [(2, [1, 1])]) h rfl rfl
  exact t
set_option maxRecDepth 40000 in
theorem q_M_layGoals_2 {n : Nat} {l1 : Nat} {F : fx_F} {v : fx_V} {F' : fx_F} (h : Rn n k_M_layGoals 2 [(2, 175), (0, l1)] [] F v F') :
  (s_le (F 177 (F 175 9)) l1 →
   v = (2, 0) ∧ F' = F) ∧
  (s_lt l1 (F 177 (F 175 9)) →
   ∃ F1 : fx_F, Cl k_M_layGoal [(2, 175), (0, l1)] F (2, 0) F1 ∧
    ∃ m, m < n ∧ Rn m k_M_layGoals 2 [(2, 175), (0, i_add l1 1)] [] F1 v F') := by
  have t := q_ok cv_268 ap_268 (hd := [(2, [1, 1])]) h rfl rfl
  exact t
-- TurnNetModel.layOnward(I)V
theorem c_M_layOnward {a1 : Nat} {F : fx_F} {v : fx_V} {F' : fx_F} (h : Cl k_M_layOnward [(2, 175), (0, a1)] F v F') : ∃ n, Rn n k_M_layOnward 0 [(2, 175), (0, a1), (3, 0), (3, 0), (3, 0)] [] F v F' := by
  obtain ⟨n, s, hs, h⟩ := h
  rw [sg_269] at hs
  cases hs
  exact ⟨n, h⟩
set_option maxRecDepth 40000 in
theorem q_M_layOnward_0 {n : Nat} {a1 : Nat} {F : fx_F} {v : fx_V} {F' : fx_F} (h : Rn n k_M_layOnward 0 [(2, 175), (0, a1), (3, 0), (3, 0), (3, 0)] [] F v F') :
  ∃ F1 : fx_F, Cl k_M_layGoal [(2, 175), (0, a1)] F (2, 0) F1 ∧
  ∃ m, m < n ∧ Rn m k_M_layOnward 7 [(2, 175), (0, a1), (0, 0), (3, 0), (3, 0)] [] F1 v F' := by
  have t := q_ok cv_269 ap_269 (hd := [(7, [1, 1, 1, 0, 0]), (39, [1, 1, 1, 0, 0]), (47, [1, 1, 1, 1, 0]), (58, [1, 1, 1, 1, 1])]) h rfl rfl
  exact t
set_option maxRecDepth 40000 in
theorem q_M_layOnward_7 {n : Nat} {l1 l2 : Nat} {F : fx_F} {v : fx_V} {F' : fx_F} (h : Rn n k_M_layOnward 7 [(2, 175), (0, l1), (0, l2), (3, 0), (3, 0)] [] F v F') :
  (s_le 20 l2 →
   ∃ m, m < n ∧ Rn m k_M_layOnward 39 [(2, 175), (0, l1), (0, 1), (3, 0), (3, 0)] [] F v F') ∧
  (s_lt l2 20 →
   ((i_div l2 2) ≠ l1 →
     ∃ m, m < n ∧ Rn m k_M_layOnward 7 [(2, 175), (0, l1), (0, i_add l2 1), (3, 0), (3, 0)] [] (fu F 194 l2 0) v F') ∧
    ((i_div l2 2) = l1 →
     ∃ m, m < n ∧ Rn m k_M_layOnward 7 [(2, 175), (0, l1), (0, i_add l2 1), (3, 0), (3, 0)] [] (fu F 194 l2 1) v F')) := by
  have t := q_ok cv_269 ap_269 (hd := [(7, [1, 1, 1, 0, 0]), (39, [1, 1, 1, 0, 0]), (47, [1, 1, 1, 1, 0]), (58, [1, 1, 1, 1, 1])]) h rfl rfl
  exact t
set_option maxRecDepth 40000 in
theorem q_M_layOnward_39 {n : Nat} {l1 l2 : Nat} {F : fx_F} {v : fx_V} {F' : fx_F} (h : Rn n k_M_layOnward 39 [(2, 175), (0, l1), (0, l2), (3, 0), (3, 0)] [] F v F') :
  (s_lt 20 l2 →
   v = (2, 0) ∧ F' = F) ∧
  (s_le l2 20 →
   ∃ m, m < n ∧ Rn m k_M_layOnward 47 [(2, 175), (0, l1), (0, l2), (0, 0), (3, 0)] [] F v F') := by
  have t := q_ok cv_269 ap_269 (hd := [(7, [1, 1, 1, 0, 0]), (39, [1, 1, 1, 0, 0]), (47, [1, 1, 1, 1, 0]), (58, [1, 1, 1, 1, 1])]) h rfl rfl
  exact t
set_option maxRecDepth 40000 in
theorem q_M_layOnward_47 {n : Nat} {l1 l2 l3 : Nat} {F : fx_F} {v : fx_V} {F' : fx_F} (h : Rn n k_M_layOnward 47 [(2, 175), (0, l1), (0, l2), (0, l3), (3, 0)] [] F v F') :
  (s_le (i_mul 2 (F 178 (F 175 9))) l3 →
   ∃ m, m < n ∧ Rn m k_M_layOnward 39 [(2, 175), (0, l1), (0, i_add l2 1), (3, 0), (3, 0)] [] F v F') ∧
  (s_lt l3 (i_mul 2 (F 178 (F 175 9))) →
   ∃ m, m < n ∧ Rn m k_M_layOnward 58 [(2, 175), (0, l1), (0, l2), (0, l3), (0, 0)] [] F v F') := by
  have t := q_ok cv_269 ap_269 (hd := [(7, [1, 1, 1, 0, 0]), (39, [1, 1, 1, 0, 0]), (47, [1, 1, 1, 1, 0]), (58, [1, 1, 1, 1, 1])]) h rfl rfl
  exact t
set_option maxRecDepth 40000 in
theorem q_M_layOnward_58 {n : Nat} {l1 l2 l3 l4 : Nat} {F : fx_F} {v : fx_V} {F' : fx_F} (h : Rn n k_M_layOnward 58 [(2, 175), (0, l1), (0, l2), (0, l3), (0, l4)] [] F v F') :
  (s_le 2 l4 →
   ∃ m, m < n ∧ Rn m k_M_layOnward 47 [(2, 175), (0, l1), (0, l2), (0, i_add l3 1), (3, 0)] [] F v F') ∧
  (s_lt l4 2 →
   ((F 193 (i_add (i_add (i_mul 20 l1) (i_mul 2 (F 183 (i_add (i_add (i_mul 40 (F 175 9)) (i_mul 2 (i_div l3 2))) (i_rem l3 2))))) l4)) ≠ l2 →
     ∃ m, m < n ∧ Rn m k_M_layOnward 58 [(2, 175), (0, l1), (0, l2), (0, l3), (0, i_add l4 1)] [] F v F') ∧
    ((F 193 (i_add (i_add (i_mul 20 l1) (i_mul 2 (F 183 (i_add (i_add (i_mul 40 (F 175 9)) (i_mul 2 (i_div l3 2))) (i_rem l3 2))))) l4)) = l2 →
     ∃ (n1 : Nat) (F1 : fx_F), Cl k_M_isNext [(2, 175), (0, l1), (0, l3), (0, l4)] F (0, n1) F1 ∧
      (n1 ≠ 0 →
        ((F1 183 (i_add (i_add (i_mul 40 (F1 175 9)) (i_mul 2 (i_div l3 2))) (i_sub 1 (i_rem l3 2)))) ≠ (F1 176 (i_add 20 (i_div l3 2))) →
          (l4 = 1 →
            ∃ m, m < n ∧ Rn m k_M_layOnward 58 [(2, 175), (0, l1), (0, l2), (0, l3), (0, i_add l4 1)] [] (fu F1 194 (i_add (i_mul 2 (F1 183 (i_add (i_add (i_mul 40 (F1 175 9)) (i_mul 2 (i_div l3 2))) (i_rem l3 2)))) l4) (rx_j_add (F1 194 (i_add (i_mul 2 (F1 183 (i_add (i_add (i_mul 40 (F1 175 9)) (i_mul 2 (i_div l3 2))) (i_rem l3 2)))) l4)) (F1 194 (i_add (i_mul 2 (F1 183 (i_add (i_add (i_mul 40 (F1 175 9)) (i_mul 2 (i_div l3 2))) (i_sub 1 (i_rem l3 2))))) 1)))) v F') ∧
           (l4 ≠ 1 →
            ∃ m, m < n ∧ Rn m k_M_layOnward 58 [(2, 175), (0, l1), (0, l2), (0, l3), (0, i_add l4 1)] [] (fu F1 194 (i_add (i_mul 2 (F1 183 (i_add (i_add (i_mul 40 (F1 175 9)) (i_mul 2 (i_div l3 2))) (i_rem l3 2)))) l4) (rx_j_add (F1 194 (i_add (i_mul 2 (F1 183 (i_add (i_add (i_mul 40 (F1 175 9)) (i_mul 2 (i_div l3 2))) (i_rem l3 2)))) l4)) (F1 194 (i_add (i_mul 2 (F1 183 (i_add (i_add (i_mul 40 (F1 175 9)) (i_mul 2 (i_div l3 2))) (i_sub 1 (i_rem l3 2))))) 1)))) v F')) ∧
         ((F1 183 (i_add (i_add (i_mul 40 (F1 175 9)) (i_mul 2 (i_div l3 2))) (i_sub 1 (i_rem l3 2)))) = (F1 176 (i_add 20 (i_div l3 2))) →
          (l4 = 1 →
            ∃ m, m < n ∧ Rn m k_M_layOnward 58 [(2, 175), (0, l1), (0, l2), (0, l3), (0, i_add l4 1)] [] (fu F1 194 (i_add (i_mul 2 (F1 183 (i_add (i_add (i_mul 40 (F1 175 9)) (i_mul 2 (i_div l3 2))) (i_rem l3 2)))) l4) (rx_j_add (F1 194 (i_add (i_mul 2 (F1 183 (i_add (i_add (i_mul 40 (F1 175 9)) (i_mul 2 (i_div l3 2))) (i_rem l3 2)))) l4)) (F1 194 (i_add (i_mul 2 (F1 183 (i_add (i_add (i_mul 40 (F1 175 9)) (i_mul 2 (i_div l3 2))) (i_sub 1 (i_rem l3 2))))) 1)))) v F') ∧
           (l4 ≠ 1 →
            ∃ m, m < n ∧ Rn m k_M_layOnward 58 [(2, 175), (0, l1), (0, l2), (0, l3), (0, i_add l4 1)] [] (fu F1 194 (i_add (i_mul 2 (F1 183 (i_add (i_add (i_mul 40 (F1 175 9)) (i_mul 2 (i_div l3 2))) (i_rem l3 2)))) l4) (rx_j_add (F1 194 (i_add (i_mul 2 (F1 183 (i_add (i_add (i_mul 40 (F1 175 9)) (i_mul 2 (i_div l3 2))) (i_rem l3 2)))) l4)) (F1 194 (i_add (i_mul 2 (F1 183 (i_add (i_add (i_mul 40 (F1 175 9)) (i_mul 2 (i_div l3 2))) (i_sub 1 (i_rem l3 2))))) 0)))) v F'))) ∧
       (n1 = 0 →
        ∃ m, m < n ∧ Rn m k_M_layOnward 58 [(2, 175), (0, l1), (0, l2), (0, l3), (0, i_add l4 1)] [] F1 v F'))) := by
  have t := q_ok cv_269 ap_269 (hd := [(7, [1, 1, 1, 0, 0]), (39, [1, 1, 1, 0, 0]), (47, [1, 1, 1, 1, 0]), (58, [1, 1, 1, 1, 1])]) h rfl rfl
  exact t
