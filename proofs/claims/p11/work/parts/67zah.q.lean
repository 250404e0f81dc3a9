-- TurnNetModel.game(III)I
theorem c_M_game {a1 a2 a3 : Nat} {F : fx_F} {v : fx_V} {F' : fx_F} (h : Cl k_M_game [(2, 175), (0, a1), (0, a2), (0, a3)] F v F') : ∃ n, Rn n k_M_game 0 [(2, 175), (0, a1), (0, a2), (0, a3), (3, 0), (3, 0)] [] F v F' := by
  obtain ⟨n, s, hs, h⟩ := h
  rw [sg_301] at hs
  cases hs
  exact ⟨n, h⟩
set_option maxRecDepth 40000 in
theorem q_M_game_0 {n : Nat} {a1 a2 a3 : Nat} {F : fx_F} {v : fx_V} {F' : fx_F} (h : Rn n k_M_game 0 [(2, 175), (0, a1), (0, a2), (0, a3), (3, 0), (3, 0)] [] F v F') :
  ((F 177 (F 175 9)) = 0 →
   v = (0, 4294967295) ∧ F' = F) ∧
  ((F 177 (F 175 9)) ≠ 0 →
   (s_lt a1 0 →
     v = (0, 4294967295) ∧ F' = F) ∧
    (s_le 0 a1 →
     (s_lt 9999 a1 →
       v = (0, 4294967295) ∧ F' = F) ∧
      (s_le a1 9999 →
       (s_lt a2 1 →
         v = (0, 4294967295) ∧ F' = F) ∧
        (s_le 1 a2 →
         (s_lt 60 a2 →
           v = (0, 4294967295) ∧ F' = F) ∧
          (s_le a2 60 →
           (s_lt a3 0 →
             v = (0, 4294967295) ∧ F' = F) ∧
            (s_le 0 a3 →
             (s_lt 3 a3 →
               v = (0, 4294967295) ∧ F' = F) ∧
              (s_le a3 3 →
               ∃ F1 : fx_F, Cl k_M_putAside [(2, 175)] F (2, 0) F1 ∧
                ∃ m, m < n ∧ Rn m k_M_game 66 [(2, 175), (3, 0), (0, a2), (0, a3), (0, 0), (3, 0)] [] (fu (fu (fu (fu F1 175 49 a1) 175 50 0) 175 51 0) 175 52 0) v F'))))))) := by
  have t := q_ok cv_301 ap_301 (hd := [(66, [1, 0, 1, 1, 1, 0])]) h rfl rfl
  exact t
set_option maxRecDepth 40000 in
theorem q_M_game_66 {n : Nat} {l2 l3 l4 : Nat} {F : fx_F} {v : fx_V} {F' : fx_F} (h : Rn n k_M_game 66 [(2, 175), (3, 0), (0, l2), (0, l3), (0, l4), (3, 0)] [] F v F') :
  (s_le l2 l4 →
   ∃ (n1 : Nat) (F1 : fx_F), Cl k_M_packetsNow [(2, 175)] F (0, n1) F1 ∧
    ∃ F2 : fx_F, Cl k_M_bringBack [(2, 175)] F1 (2, 0) F2 ∧
     (l3 ≠ 0 →
       (l3 ≠ 1 →
         (l3 ≠ 2 →
           v = (0, F2 175 52) ∧ F' = F2) ∧
          (l3 = 2 →
           v = (0, F2 175 50) ∧ F' = F2)) ∧
        (l3 = 1 →
         v = (0, n1) ∧ F' = F2)) ∧
      (l3 = 0 →
       v = (0, i_sub (F 176 101) (F 199 101)) ∧ F' = F2)) ∧
  (s_lt l4 l2 →
   ∃ F1 : fx_F, Cl k_M_gameOnce [(2, 175)] F (2, 0) F1 ∧
    ∃ m, m < n ∧ Rn m k_M_game 66 [(2, 175), (3, 0), (0, l2), (0, l3), (0, i_add l4 1), (3, 0)] [] F1 v F') := by
  have t := q_ok cv_301 ap_301 (hd := [(66, [1, 0, 1, 1, 1, 0])]) h rfl rfl
  exact t
-- TurnNetModel.goPhases(II)I
theorem c_M_goPhases {a1 a2 : Nat} {F : fx_F} {v : fx_V} {F' : fx_F} (h : Cl k_M_goPhases [(2, 175), (0, a1), (0, a2)] F v F') : ∃ n, Rn n k_M_goPhases 0 [(2, 175), (0, a1), (0, a2), (3, 0)] [] F v F' := by
  obtain ⟨n, s, hs, h⟩ := h
  rw [sg_302] at hs
  cases hs
  exact ⟨n, h⟩
set_option maxRecDepth 40000 in
theorem q_M_goPhases_0 {n : Nat} {a1 a2 : Nat} {F : fx_F} {v : fx_V} {F' : fx_F} (h : Rn n k_M_goPhases 0 [(2, 175), (0, a1), (0, a2), (3, 0)] [] F v F') :
  ∃ F1 : fx_F, Cl k_M_orientBy [(2, 175), (0, a1)] F (2, 0) F1 ∧
  ∃ m, m < n ∧ Rn m k_M_goPhases 7 [(2, 175), (3, 0), (0, a2), (0, 0)] [] F1 v F' := by
  have t := q_ok cv_302 ap_302 (hd := [(7, [1, 0, 1, 1]), (28, [1, 0, 1, 1])]) h rfl rfl
  exact t
set_option maxRecDepth 40000 in
theorem q_M_goPhases_7 {n : Nat} {l2 l3 : Nat} {F : fx_F} {v : fx_V} {F' : fx_F} (h : Rn n k_M_goPhases 7 [(2, 175), (3, 0), (0, l2), (0, l3)] [] F v F') :
  (s_le 20 l3 →
   ∃ m, m < n ∧ Rn m k_M_goPhases 28 [(2, 175), (3, 0), (0, l2), (0, 0)] [] F v F') ∧
  (s_lt l3 20 →
   ∃ m, m < n ∧ Rn m k_M_goPhases 7 [(2, 175), (3, 0), (0, l2), (0, i_add l3 1)] [] (fu F 203 l3 4294967295) v F') := by
  have t := q_ok cv_302 ap_302 (hd := [(7, [1, 0, 1, 1]), (28, [1, 0, 1, 1])]) h rfl rfl
  exact t
set_option maxRecDepth 40000 in
theorem q_M_goPhases_28 {n : Nat} {l2 l3 : Nat} {F : fx_F} {v : fx_V} {F' : fx_F} (h : Rn n k_M_goPhases 28 [(2, 175), (3, 0), (0, l2), (0, l3)] [] F v F') :
  ∃ (n1 : Nat) (F1 : fx_F), Cl k_M_flips [(2, 175)] F (0, n1) F1 ∧
  (s_le n1 0 →
    v = (0, l3) ∧ F' = F1) ∧
   (s_lt 0 n1 →
    ∃ (n2 : Nat) (F2 : fx_F), Cl k_M_takePhase [(2, 175), (0, l3)] F1 (0, n2) F2 ∧
     (n2 ≠ 0 →
       ∃ F3 : fx_F, Cl k_M_turnTaken [(2, 175)] F2 (2, 0) F3 ∧
        ∃ (n4 : Nat) (F4 : fx_F), Cl k_M_goSteps [(2, 175), (0, l2)] F3 (0, n4) F4 ∧
         ∃ m, m < n ∧ Rn m k_M_goPhases 28 [(2, 175), (3, 0), (0, l2), (0, i_add l3 1)] [] F4 v F') ∧
      (n2 = 0 →
       v = (0, 4294967294) ∧ F' = F2)) := by
  have t := q_ok cv_302 ap_302 (hd := [(7, [1, 0, 1, 1]), (28, [1, 0, 1, 1])]) h rfl rfl
  exact t
-- TurnNetModel.rooted(II)I
theorem c_M_rooted {a1 a2 : Nat} {F : fx_F} {v : fx_V} {F' : fx_F} (h : Cl k_M_rooted [(2, 175), (0, a1), (0, a2)] F v F') : ∃ n, Rn n k_M_rooted 0 [(2, 175), (0, a1), (0, a2)] [] F v F' := by
  obtain ⟨n, s, hs, h⟩ := h
  rw [sg_303] at hs
  cases hs
  exact ⟨n, h⟩
set_option maxRecDepth 40000 in
theorem q_M_rooted_0 {n : Nat} {a1 a2 : Nat} {F : fx_F} {v : fx_V} {F' : fx_F} (h : Rn n k_M_rooted 0 [(2, 175), (0, a1), (0, a2)] [] F v F') :
  (s_lt a1 0 →
   v = (0, 4294967295) ∧ F' = F) ∧
  (s_le 0 a1 →
   (s_lt (i_sub (F 177 (F 175 9)) 1) a1 →
     v = (0, 4294967295) ∧ F' = F) ∧
    (s_le a1 (i_sub (F 177 (F 175 9)) 1) →
     (s_lt a2 0 →
       v = (0, 4294967295) ∧ F' = F) ∧
      (s_le 0 a2 →
       (s_lt 2 a2 →
         v = (0, 4294967295) ∧ F' = F) ∧
        (s_le a2 2 →
         ∃ (n1 : Nat) (F1 : fx_F), Cl k_M_rootedBy [(2, 175), (0, a1), (0, a2)] F (0, n1) F1 ∧
          v = (0, n1) ∧ F' = F1)))) := by
  have t := q_ok cv_303 ap_303 (hd := []) h rfl rfl
  exact t
-- TurnNetModel.steps(I)I
theorem c_M_steps {a1 : Nat} {F : fx_F} {v : fx_V} {F' : fx_F} (h : Cl k_M_steps [(2, 175), (0, a1)] F v F') : ∃ n, Rn n k_M_steps 0 [(2, 175), (0, a1)] [] F v F' := by
  obtain ⟨n, s, hs, h⟩ := h
  rw [sg_304] at hs
  cases hs
  exact ⟨n, h⟩
set_option maxRecDepth 40000 in
theorem q_M_steps_0 {n : Nat} {a1 : Nat} {F : fx_F} {v : fx_V} {F' : fx_F} (h : Rn n k_M_steps 0 [(2, 175), (0, a1)] [] F v F') :
  (s_lt a1 1 →
   v = (0, 4294967295) ∧ F' = F) ∧
  (s_le 1 a1 →
   (s_lt 50 a1 →
     v = (0, 4294967295) ∧ F' = F) ∧
    (s_le a1 50 →
     ((F 177 (F 175 9)) ≠ 0 →
       ∃ F1 : fx_F, Cl k_M_keepAct [(2, 175)] F (2, 0) F1 ∧
        ∃ (n2 : Nat) (F2 : fx_F), Cl k_M_goSteps [(2, 175), (0, a1)] F1 (0, n2) F2 ∧
         v = (0, n2) ∧ F' = F2) ∧
      ((F 177 (F 175 9)) = 0 →
       v = (0, 4294967295) ∧ F' = F))) := by
  have t := q_ok cv_304 ap_304 (hd := []) h rfl rfl
  exact t
-- TurnNetModel.stuck()I
theorem c_M_stuck {F : fx_F} {v : fx_V} {F' : fx_F} (h : Cl k_M_stuck [(2, 175)] F v F') : ∃ n, Rn n k_M_stuck 0 [(2, 175), (3, 0), (3, 0)] [] F v F' := by
  obtain ⟨n, s, hs, h⟩ := h
  rw [sg_305] at hs
  cases hs
  exact ⟨n, h⟩
set_option maxRecDepth 40000 in
theorem q_M_stuck_0 {n : Nat} {F : fx_F} {v : fx_V} {F' : fx_F} (h : Rn n k_M_stuck 0 [(2, 175), (3, 0), (3, 0)] [] F v F') :
  ∃ F1 : fx_F, Cl k_M_putAside [(2, 175)] F (2, 0) F1 ∧
  ∃ (n2 : Nat) (F2 : fx_F), Cl k_M_goSteps [(2, 175), (0, 200)] F1 (0, n2) F2 ∧
   (s_le 0 n2 →
     ∃ m, m < n ∧ Rn m k_M_stuck 22 [(2, 175), (0, 0), (0, 0)] [] F2 v F') ∧
    (s_lt n2 0 →
     ∃ m, m < n ∧ Rn m k_M_stuck 22 [(2, 175), (0, 4294967295), (0, 0)] [] F2 v F') := by
  have t := q_ok cv_305 ap_305 (hd := [(22, [1, 1, 1])]) h rfl rfl
  exact t
set_option maxRecDepth 40000 in
theorem q_M_stuck_22 {n : Nat} {l1 l2 : Nat} {F : fx_F} {v : fx_V} {F' : fx_F} (h : Rn n k_M_stuck 22 [(2, 175), (0, l1), (0, l2)] [] F v F') :
  (s_le 12 l2 →
   ∃ F1 : fx_F, Cl k_M_bringBack [(2, 175)] F (2, 0) F1 ∧
    v = (0, l1) ∧ F' = F1) ∧
  (s_lt l2 12 →
   ((F 176 (i_add 41 l2)) ≠ 1 →
     ∃ m, m < n ∧ Rn m k_M_stuck 22 [(2, 175), (0, l1), (0, i_add l2 1)] [] F v F') ∧
    ((F 176 (i_add 41 l2)) = 1 →
     ∃ m, m < n ∧ Rn m k_M_stuck 22 [(2, 175), (0, i_or l1 (i_shl 1 l2)), (0, i_add l2 1)] [] F v F')) := by
  have t := q_ok cv_305 ap_305 (hd := [(22, [1, 1, 1])]) h rfl rfl
  exact t
-- TurnNet$Reader.readSum(I)Z
theorem c_Rd_readSum6 {a1 : Nat} {F : fx_F} {v : fx_V} {F' : fx_F} (h : Cl k_Rd_readSum6 [(2, 10), (0, a1)] F v F') : ∃ n, Rn n k_Rd_readSum6 0 [(2, 10), (0, a1), (3, 0), (3, 0)] [] F v F' := by
  obtain ⟨n, s, hs, h⟩ := h
  rw [sg_306] at hs
  cases hs
  exact ⟨n, h⟩
set_option maxRecDepth 40000 in
theorem q_Rd_readSum6_0 {n : Nat} {a1 : Nat} {F : fx_F} {v : fx_V} {F' : fx_F} (h : Rn n k_Rd_readSum6 0 [(2, 10), (0, a1), (3, 0), (3, 0)] [] F v F') :
  ∃ (n1 : Nat) (F1 : fx_F), Cl k_Rd_readProduct6 [(2, 10), (0, a1)] F (0, n1) F1 ∧
  (n1 ≠ 0 →
    ∃ m, m < n ∧ Rn m k_Rd_readSum6 12 [(2, 10), (0, a1), (0, 0), (3, 0)] [] F1 v F') ∧
   (n1 = 0 →
    v = (0, 0) ∧ F' = F1) := by
  have t := q_ok cv_306 ap_306 (hd := [(12, [1, 1, 1, 0])]) h rfl rfl
  exact t
set_option maxRecDepth 40000 in
theorem q_Rd_readSum6_12 {n : Nat} {l1 l2 : Nat} {F : fx_F} {v : fx_V} {F' : fx_F} (h : Rn n k_Rd_readSum6 12 [(2, 10), (0, l1), (0, l2), (3, 0)] [] F v F') :
  (s_le 800 l2 →
   v = (0, 1) ∧ F' = F) ∧
  (s_lt l2 800 →
   ((F 10 7) = 43 →
     ∃ F1 : fx_F, Cl k_Rd_advance [(2, 10)] F (2, 0) F1 ∧
      ∃ (n2 : Nat) (F2 : fx_F), Cl k_Rd_readProduct6 [(2, 10), (0, l1)] F1 (0, n2) F2 ∧
       (n2 ≠ 0 →
         (s_le 80 (F2 12 5) →
           ∃ m, m < n ∧ Rn m k_Rd_readSum6 12 [(2, 10), (0, l1), (0, i_add l2 1), (3, 0)] [] F2 v F') ∧
          (s_lt (F2 12 5) 80 →
           ∃ m, m < n ∧ Rn m k_Rd_readSum6 12 [(2, 10), (0, l1), (0, i_add l2 1), (3, 0)] [] (fu (fu (fu F2 17 (F2 12 5) (F 10 7)) 18 (F2 12 5) 0) 12 5 (i_add (F2 12 5) 1)) v F')) ∧
        (n2 = 0 →
         v = (0, 0) ∧ F' = F2)) ∧
    ((F 10 7) ≠ 43 →
     ((F 10 7) ≠ 45 →
       v = (0, 1) ∧ F' = F) ∧
      ((F 10 7) = 45 →
       ∃ F1 : fx_F, Cl k_Rd_advance [(2, 10)] F (2, 0) F1 ∧
        ∃ (n2 : Nat) (F2 : fx_F), Cl k_Rd_readProduct6 [(2, 10), (0, l1)] F1 (0, n2) F2 ∧
         (n2 ≠ 0 →
           (s_le 80 (F2 12 5) →
             ∃ m, m < n ∧ Rn m k_Rd_readSum6 12 [(2, 10), (0, l1), (0, i_add l2 1), (3, 0)] [] F2 v F') ∧
            (s_lt (F2 12 5) 80 →
             ∃ m, m < n ∧ Rn m k_Rd_readSum6 12 [(2, 10), (0, l1), (0, i_add l2 1), (3, 0)] [] (fu (fu (fu F2 17 (F2 12 5) (F 10 7)) 18 (F2 12 5) 0) 12 5 (i_add (F2 12 5) 1)) v F')) ∧
          (n2 = 0 →
           v = (0, 0) ∧ F' = F2)))) := by
  have t := q_ok cv_306 ap_306 (hd := [(12, [1, 1, 1, 0])]) h rfl rfl
  exact t
-- TurnNetModel.planFor(I)I
theorem c_M_planFor {a1 : Nat} {F : fx_F} {v : fx_V} {F' : fx_F} (h : Cl k_M_planFor [(2, 175), (0, a1)] F v F') : ∃ n, Rn n k_M_planFor 0 [(2, 175), (0, a1), (3, 0)] [] F v F' := by
  obtain ⟨n, s, hs, h⟩ := h
  rw [sg_307] at hs
  cases hs
  exact ⟨n, h⟩
set_option maxRecDepth 40000 in
theorem q_M_planFor_0 {n : Nat} {a1 : Nat} {F : fx_F} {v : fx_V} {F' : fx_F} (h : Rn n k_M_planFor 0 [(2, 175), (0, a1), (3, 0)] [] F v F') :
  ∃ F1 : fx_F, Cl k_M_putAside [(2, 175)] F (2, 0) F1 ∧
  ∃ (n2 : Nat) (F2 : fx_F), Cl k_M_goPhases [(2, 175), (0, a1), (0, 0)] F1 (0, n2) F2 ∧
   ∃ F3 : fx_F, Cl k_M_bringBack [(2, 175)] F2 (2, 0) F3 ∧
    v = (0, n2) ∧ F' = F3 := by
  have t := q_ok cv_307 ap_307 (hd := []) h rfl rfl
  exact t
-- TurnNet$Reader.readUnit(I)Z
theorem c_Rd_readUnit5 {a1 : Nat} {F : fx_F} {v : fx_V} {F' : fx_F} (h : Cl k_Rd_readUnit5 [(2, 10), (0, a1)] F v F') : ∃ n, Rn n k_Rd_readUnit5 0 [(2, 10), (0, a1), (3, 0), (3, 0)] [] F v F' := by
  obtain ⟨n, s, hs, h⟩ := h
  rw [sg_308] at hs
  cases hs
  exact ⟨n, h⟩
set_option maxRecDepth 40000 in
theorem q_Rd_readUnit5_0 {n : Nat} {a1 : Nat} {F : fx_F} {v : fx_V} {F' : fx_F} (h : Rn n k_Rd_readUnit5 0 [(2, 10), (0, a1), (3, 0), (3, 0)] [] F v F') :
  ∃ (n1 : Nat) (F1 : fx_F), Cl k_Rd_unitKind [(2, 10)] F (0, n1) F1 ∧
  (n1 ≠ 0 →
    (n1 ≠ 1 →
      (s_le 40 (F1 12 4) →
        ∃ (n2 : Nat) (F2 : fx_F), Cl k_Rd_fail [(2, 10), (0, 4)] F1 (0, n2) F2 ∧
         v = (0, n2) ∧ F' = F2) ∧
       (s_lt (F1 12 4) 40 →
        (s_le a1 5 →
          ∃ F2 : fx_F, Cl k_Rd_advance [(2, 10)] (fu F1 12 4 (i_add (F1 12 4) 1)) (2, 0) F2 ∧
           (n1 ≠ 40 →
             (n1 ≠ 5 →
               (s_le 80 (F2 12 5) →
                 v = (0, 1) ∧ F' = F2) ∧
                (s_lt (F2 12 5) 80 →
                 v = (0, 1) ∧ F' = (fu (fu (fu F2 17 (F2 12 5) n1) 18 (F2 12 5) (F1 10 8)) 12 5 (i_add (F2 12 5) 1)))) ∧
              (n1 = 5 →
               ∃ (n3 : Nat) (F3 : fx_F), Cl k_Rd_readUnit6 [(2, 10), (0, i_add a1 1)] F2 (0, n3) F3 ∧
                (n3 ≠ 0 →
                  (s_le 80 (F3 12 5) →
                    v = (0, 1) ∧ F' = F3) ∧
                   (s_lt (F3 12 5) 80 →
                    v = (0, 1) ∧ F' = (fu (fu (fu F3 17 (F3 12 5) n1) 18 (F3 12 5) (F1 10 8)) 12 5 (i_add (F3 12 5) 1)))) ∧
                 (n3 = 0 →
                  v = (0, 0) ∧ F' = F3))) ∧
            (n1 = 40 →
             ∃ (n3 : Nat) (F3 : fx_F), Cl k_Rd_readSum6 [(2, 10), (0, i_add a1 1)] F2 (0, n3) F3 ∧
              (n3 = 0 →
                v = (0, 0) ∧ F' = F3) ∧
               (n3 ≠ 0 →
                ∃ (n4 : Nat) (F4 : fx_F), Cl k_Rd_readSign [(2, 10), (0, 41)] F3 (0, n4) F4 ∧
                 (n4 = 0 →
                   v = (0, 0) ∧ F' = F4) ∧
                  (n4 ≠ 0 →
                   v = (0, 1) ∧ F' = F4)))) ∧
         (s_lt 5 a1 →
          ∃ (n2 : Nat) (F2 : fx_F), Cl k_Rd_fail [(2, 10), (0, 4)] F1 (0, n2) F2 ∧
           v = (0, n2) ∧ F' = F2))) ∧
     (n1 = 1 →
      (s_le (F1 10 8) 999 →
        (s_le 40 (F1 12 4) →
          ∃ (n2 : Nat) (F2 : fx_F), Cl k_Rd_fail [(2, 10), (0, 4)] F1 (0, n2) F2 ∧
           v = (0, n2) ∧ F' = F2) ∧
         (s_lt (F1 12 4) 40 →
          (s_le a1 5 →
            ∃ F2 : fx_F, Cl k_Rd_advance [(2, 10)] (fu F1 12 4 (i_add (F1 12 4) 1)) (2, 0) F2 ∧
             (n1 ≠ 40 →
               (n1 ≠ 5 →
                 (s_le 80 (F2 12 5) →
                   v = (0, 1) ∧ F' = F2) ∧
                  (s_lt (F2 12 5) 80 →
                   v = (0, 1) ∧ F' = (fu (fu (fu F2 17 (F2 12 5) n1) 18 (F2 12 5) (F1 10 8)) 12 5 (i_add (F2 12 5) 1)))) ∧
                (n1 = 5 →
                 ∃ (n3 : Nat) (F3 : fx_F), Cl k_Rd_readUnit6 [(2, 10), (0, i_add a1 1)] F2 (0, n3) F3 ∧
                  (n3 ≠ 0 →
                    (s_le 80 (F3 12 5) →
                      v = (0, 1) ∧ F' = F3) ∧
                     (s_lt (F3 12 5) 80 →
                      v = (0, 1) ∧ F' = (fu (fu (fu F3 17 (F3 12 5) n1) 18 (F3 12 5) (F1 10 8)) 12 5 (i_add (F3 12 5) 1)))) ∧
                   (n3 = 0 →
                    v = (0, 0) ∧ F' = F3))) ∧
              (n1 = 40 →
               ∃ (n3 : Nat) (F3 : fx_F), Cl k_Rd_readSum6 [(2, 10), (0, i_add a1 1)] F2 (0, n3) F3 ∧
                (n3 = 0 →
                  v = (0, 0) ∧ F' = F3) ∧
                 (n3 ≠ 0 →
                  ∃ (n4 : Nat) (F4 : fx_F), Cl k_Rd_readSign [(2, 10), (0, 41)] F3 (0, n4) F4 ∧
                   (n4 = 0 →
                     v = (0, 0) ∧ F' = F4) ∧
                    (n4 ≠ 0 →
                     v = (0, 1) ∧ F' = F4)))) ∧
           (s_lt 5 a1 →
            ∃ (n2 : Nat) (F2 : fx_F), Cl k_Rd_fail [(2, 10), (0, 4)] F1 (0, n2) F2 ∧
             v = (0, n2) ∧ F' = F2))) ∧
       (s_lt 999 (F1 10 8) →
        ∃ (n2 : Nat) (F2 : fx_F), Cl k_Rd_fail [(2, 10), (0, 2)] F1 (0, n2) F2 ∧
         v = (0, n2) ∧ F' = F2))) ∧
   (n1 = 0 →
    ∃ (n2 : Nat) (F2 : fx_F), Cl k_Rd_fail [(2, 10), (0, 1)] F1 (0, n2) F2 ∧
     v = (0, n2) ∧ F' = F2) := by
  have t := q_ok cv_308 ap_308 (hd := []) h rfl rfl
  exact t
-- TurnNetModel.change(II)I
theorem c_M_change {a1 a2 : Nat} {F : fx_F} {v : fx_V} {F' : fx_F} (h : Cl k_M_change [(2, 175), (0, a1), (0, a2)] F v F') : ∃ n, Rn n k_M_change 0 [(2, 175), (0, a1), (0, a2), (3, 0)] [] F v F' := by
  obtain ⟨n, s, hs, h⟩ := h
  rw [sg_309] at hs
  cases hs
  exact ⟨n, h⟩
set_option maxRecDepth 40000 in
theorem q_M_change_0 {n : Nat} {a1 a2 : Nat} {F : fx_F} {v : fx_V} {F' : fx_F} (h : Rn n k_M_change 0 [(2, 175), (0, a1), (0, a2), (3, 0)] [] F v F') :
  (s_lt a1 0 →
   v = (0, 4294967295) ∧ F' = F) ∧
  (s_le 0 a1 →
   (s_lt (i_sub (F 177 (F 175 9)) 1) a1 →
     v = (0, 4294967295) ∧ F' = F) ∧
    (s_le a1 (i_sub (F 177 (F 175 9)) 1) →
     (s_lt a2 0 →
       v = (0, 4294967295) ∧ F' = F) ∧
      (s_le 0 a2 →
       (s_lt 20 a2 →
         v = (0, 4294967295) ∧ F' = F) ∧
        (s_le a2 20 →
         ∃ (n1 : Nat) (F1 : fx_F), Cl k_M_planFor [(2, 175), (0, a1)] F (0, n1) F1 ∧
          (s_le 0 n1 →
            ∃ F2 : fx_F, Cl k_M_keepAct [(2, 175)] F1 (2, 0) F2 ∧
             ∃ (n3 : Nat) (F3 : fx_F), Cl k_M_goPhases [(2, 175), (0, a1), (0, a2)] F2 (0, n3) F3 ∧
              v = (0, n3) ∧ F' = (fu F3 176 40 a1)) ∧
           (s_lt n1 0 →
            v = (0, 4294967294) ∧ F' = F1))))) := by
  have t := q_ok cv_309 ap_309 (hd := []) h rfl rfl
  exact t
-- TurnNetModel.phase(II)I
theorem c_M_phase {a1 a2 : Nat} {F : fx_F} {v : fx_V} {F' : fx_F} (h : Cl k_M_phase [(2, 175), (0, a1), (0, a2)] F v F') : ∃ n, Rn n k_M_phase 0 [(2, 175), (0, a1), (0, a2)] [] F v F' := by
  obtain ⟨n, s, hs, h⟩ := h
  rw [sg_310] at hs
  cases hs
  exact ⟨n, h⟩
set_option maxRecDepth 40000 in
theorem q_M_phase_0 {n : Nat} {a1 a2 : Nat} {F : fx_F} {v : fx_V} {F' : fx_F} (h : Rn n k_M_phase 0 [(2, 175), (0, a1), (0, a2)] [] F v F') :
  (s_lt a1 0 →
   v = (0, 4294967295) ∧ F' = F) ∧
  (s_le 0 a1 →
   (s_lt (i_sub (F 177 (F 175 9)) 1) a1 →
     v = (0, 4294967295) ∧ F' = F) ∧
    (s_le a1 (i_sub (F 177 (F 175 9)) 1) →
     (s_lt a2 0 →
       v = (0, 4294967295) ∧ F' = F) ∧
      (s_le 0 a2 →
       (s_lt (i_sub (F 178 (F 175 9)) 1) a2 →
         v = (0, 4294967295) ∧ F' = F) ∧
        (s_le a2 (i_sub (F 178 (F 175 9)) 1) →
         ∃ (n1 : Nat) (F1 : fx_F), Cl k_M_planFor [(2, 175), (0, a1)] F (0, n1) F1 ∧
          (s_le 0 n1 →
            v = (0, F1 203 a2) ∧ F' = F1) ∧
           (s_lt n1 0 →
            v = (0, 4294967295) ∧ F' = F1))))) := by
  have t := q_ok cv_310 ap_310 (hd := []) h rfl rfl
  exact t
-- TurnNetModel.plan(II)I
theorem c_M_plan {a1 a2 : Nat} {F : fx_F} {v : fx_V} {F' : fx_F} (h : Cl k_M_plan [(2, 175), (0, a1), (0, a2)] F v F') : ∃ n, Rn n k_M_plan 0 [(2, 175), (0, a1), (0, a2)] [] F v F' := by
  obtain ⟨n, s, hs, h⟩ := h
  rw [sg_311] at hs
  cases hs
  exact ⟨n, h⟩
set_option maxRecDepth 40000 in
theorem q_M_plan_0 {n : Nat} {a1 a2 : Nat} {F : fx_F} {v : fx_V} {F' : fx_F} (h : Rn n k_M_plan 0 [(2, 175), (0, a1), (0, a2)] [] F v F') :
  (s_lt a1 0 →
   v = (0, 4294967295) ∧ F' = F) ∧
  (s_le 0 a1 →
   (s_lt (i_sub (F 177 (F 175 9)) 1) a1 →
     v = (0, 4294967295) ∧ F' = F) ∧
    (s_le a1 (i_sub (F 177 (F 175 9)) 1) →
     (s_lt a2 0 →
       v = (0, 4294967295) ∧ F' = F) ∧
      (s_le 0 a2 →
       (s_lt 1 a2 →
         v = (0, 4294967295) ∧ F' = F) ∧
        (s_le a2 1 →
         (a2 ≠ 1 →
           ∃ F1 : fx_F, Cl k_M_orientBy [(2, 175), (0, a1)] F (2, 0) F1 ∧
            ∃ (n2 : Nat) (F2 : fx_F), Cl k_M_flips [(2, 175)] F1 (0, n2) F2 ∧
             v = (0, n2) ∧ F' = F2) ∧
          (a2 = 1 →
           ∃ (n1 : Nat) (F1 : fx_F), Cl k_M_planFor [(2, 175), (0, a1)] F (0, n1) F1 ∧
            v = (0, n1) ∧ F' = F1))))) := by
  have t := q_ok cv_311 ap_311 (hd := []) h rfl rfl
  exact t
-- TurnNet$Reader.readProduct(I)Z
theorem c_Rd_readProduct5 {a1 : Nat} {F : fx_F} {v : fx_V} {F' : fx_F} (h : Cl k_Rd_readProduct5 [(2, 10), (0, a1)] F v F') : ∃ n, Rn n k_Rd_readProduct5 0 [(2, 10), (0, a1), (3, 0), (3, 0)] [] F v F' := by
  obtain ⟨n, s, hs, h⟩ := h
  rw [sg_312] at hs
  cases hs
  exact ⟨n, h⟩
set_option maxRecDepth 40000 in
theorem q_Rd_readProduct5_0 {n : Nat} {a1 : Nat} {F : fx_F} {v : fx_V} {F' : fx_F} (h : Rn n k_Rd_readProduct5 0 [(2, 10), (0, a1), (3, 0), (3, 0)] [] F v F') :
  ∃ (n1 : Nat) (F1 : fx_F), Cl k_Rd_readUnit5 [(2, 10), (0, a1)] F (0, n1) F1 ∧
  (n1 ≠ 0 →
    ∃ m, m < n ∧ Rn m k_Rd_readProduct5 12 [(2, 10), (0, a1), (0, 0), (3, 0)] [] F1 v F') ∧
   (n1 = 0 →
    v = (0, 0) ∧ F' = F1) := by
  have t := q_ok cv_312 ap_312 (hd := [(12, [1, 1, 1, 0])]) h rfl rfl
  exact t
set_option maxRecDepth 40000 in
theorem q_Rd_readProduct5_12 {n : Nat} {l1 l2 : Nat} {F : fx_F} {v : fx_V} {F' : fx_F} (h : Rn n k_Rd_readProduct5 12 [(2, 10), (0, l1), (0, l2), (3, 0)] [] F v F') :
  (s_le 800 l2 →
   v = (0, 1) ∧ F' = F) ∧
  (s_lt l2 800 →
   ((F 10 7) = 42 →
     ∃ F1 : fx_F, Cl k_Rd_advance [(2, 10)] F (2, 0) F1 ∧
      ∃ (n2 : Nat) (F2 : fx_F), Cl k_Rd_readUnit5 [(2, 10), (0, l1)] F1 (0, n2) F2 ∧
       (n2 ≠ 0 →
         (s_le 80 (F2 12 5) →
           ∃ m, m < n ∧ Rn m k_Rd_readProduct5 12 [(2, 10), (0, l1), (0, i_add l2 1), (3, 0)] [] F2 v F') ∧
          (s_lt (F2 12 5) 80 →
           ∃ m, m < n ∧ Rn m k_Rd_readProduct5 12 [(2, 10), (0, l1), (0, i_add l2 1), (3, 0)] [] (fu (fu (fu F2 17 (F2 12 5) (F 10 7)) 18 (F2 12 5) 0) 12 5 (i_add (F2 12 5) 1)) v F')) ∧
        (n2 = 0 →
         v = (0, 0) ∧ F' = F2)) ∧
    ((F 10 7) ≠ 42 →
     ((F 10 7) = 47 →
       ∃ F1 : fx_F, Cl k_Rd_advance [(2, 10)] F (2, 0) F1 ∧
        ∃ (n2 : Nat) (F2 : fx_F), Cl k_Rd_readUnit5 [(2, 10), (0, l1)] F1 (0, n2) F2 ∧
         (n2 ≠ 0 →
           (s_le 80 (F2 12 5) →
             ∃ m, m < n ∧ Rn m k_Rd_readProduct5 12 [(2, 10), (0, l1), (0, i_add l2 1), (3, 0)] [] F2 v F') ∧
            (s_lt (F2 12 5) 80 →
             ∃ m, m < n ∧ Rn m k_Rd_readProduct5 12 [(2, 10), (0, l1), (0, i_add l2 1), (3, 0)] [] (fu (fu (fu F2 17 (F2 12 5) (F 10 7)) 18 (F2 12 5) 0) 12 5 (i_add (F2 12 5) 1)) v F')) ∧
          (n2 = 0 →
           v = (0, 0) ∧ F' = F2)) ∧
      ((F 10 7) ≠ 47 →
       ((F 10 7) ≠ 37 →
         v = (0, 1) ∧ F' = F) ∧
        ((F 10 7) = 37 →
         ∃ F1 : fx_F, Cl k_Rd_advance [(2, 10)] F (2, 0) F1 ∧
          ∃ (n2 : Nat) (F2 : fx_F), Cl k_Rd_readUnit5 [(2, 10), (0, l1)] F1 (0, n2) F2 ∧
           (n2 ≠ 0 →
             (s_le 80 (F2 12 5) →
               ∃ m, m < n ∧ Rn m k_Rd_readProduct5 12 [(2, 10), (0, l1), (0, i_add l2 1), (3, 0)] [] F2 v F') ∧
              (s_lt (F2 12 5) 80 →
               ∃ m, m < n ∧ Rn m k_Rd_readProduct5 12 [(2, 10), (0, l1), (0, i_add l2 1), (3, 0)] [] (fu (fu (fu F2 17 (F2 12 5) (F 10 7)) 18 (F2 12 5) 0) 12 5 (i_add (F2 12 5) 1)) v F')) ∧
            (n2 = 0 →
             v = (0, 0) ∧ F' = F2))))) := by
  have t := q_ok cv_312 ap_312 (hd := [(12, [1, 1, 1, 0])]) h rfl rfl
  exact t
-- TurnNet$Reader.readSum(I)Z
theorem c_Rd_readSum5 {a1 : Nat} {F : fx_F} {v : fx_V} {F' : fx_F} (h : Cl k_Rd_readSum5 [(2, 10), (0, a1)] F v F') : ∃ n, Rn n k_Rd_readSum5 0 [(2, 10), (0, a1), (3, 0), (3, 0)] [] F v F' := by
  obtain ⟨n, s, hs, h⟩ := h
  rw [sg_313] at hs
  cases hs
  exact ⟨n, h⟩
set_option maxRecDepth 40000 in
theorem q_Rd_readSum5_0 {n : Nat} {a1 : Nat} {F : fx_F} {v : fx_V} {F' : fx_F} (h : Rn n k_Rd_readSum5 0 [(2, 10), (0, a1), (3, 0), (3, 0)] [] F v F') :
  ∃ (n1 : Nat) (F1 : fx_F), Cl k_Rd_readProduct5 [(2, 10), (0, a1)] F (0, n1) F1 ∧
  (n1 ≠ 0 →
    ∃ m, m < n ∧ Rn m k_Rd_readSum5 12 [(2, 10), (0, a1), (0, 0), (3, 0)] [] F1 v F') ∧
   (n1 = 0 →
    v = (0, 0) ∧ F' = F1) := by
  have t := q_ok cv_313 ap_313 (hd := [(12, [1, 1, 1, 0])]) h rfl rfl
  exact t
set_option maxRecDepth 40000 in
theorem q_Rd_readSum5_12 {n : Nat} {l1 l2 : Nat} {F : fx_F} {v : fx_V} {F' : fx_F} (h : Rn n k_Rd_readSum5 12 [(2, 10), (0, l1), (0, l2), (3, 0)] [] F v F') :
  (s_le 800 l2 →
   v = (0, 1) ∧ F' = F) ∧
  (s_lt l2 800 →
   ((F 10 7) = 43 →
     ∃ F1 : fx_F, Cl k_Rd_advance [(2, 10)] F (2, 0) F1 ∧
      ∃ (n2 : Nat) (F2 : fx_F), Cl k_Rd_readProduct5 [(2, 10), (0, l1)] F1 (0, n2) F2 ∧
       (n2 ≠ 0 →
         (s_le 80 (F2 12 5) →
           ∃ m, m < n ∧ Rn m k_Rd_readSum5 12 [(2, 10), (0, l1), (0, i_add l2 1), (3, 0)] [] F2 v F') ∧
          (s_lt (F2 12 5) 80 →
           ∃ m, m < n ∧ Rn m k_Rd_readSum5 12 [(2, 10), (0, l1), (0, i_add l2 1), (3, 0)] [] (fu (fu (fu F2 17 (F2 12 5) (F 10 7)) 18 (F2 12 5) 0) 12 5 (i_add (F2 12 5) 1)) v F')) ∧
        (n2 = 0 →
         v = (0, 0) ∧ F' = F2)) ∧
    ((F 10 7) ≠ 43 →
     ((F 10 7) ≠ 45 →
       v = (0, 1) ∧ F' = F) ∧
      ((F 10 7) = 45 →
       ∃ F1 : fx_F, Cl k_Rd_advance [(2, 10)] F (2, 0) F1 ∧
        ∃ (n2 : Nat) (F2 : fx_F), Cl k_Rd_readProduct5 [(2, 10), (0, l1)] F1 (0, n2) F2 ∧
         (n2 ≠ 0 →
           (s_le 80 (F2 12 5) →
             ∃ m, m < n ∧ Rn m k_Rd_readSum5 12 [(2, 10), (0, l1), (0, i_add l2 1), (3, 0)] [] F2 v F') ∧
            (s_lt (F2 12 5) 80 →
             ∃ m, m < n ∧ Rn m k_Rd_readSum5 12 [(2, 10), (0, l1), (0, i_add l2 1), (3, 0)] [] (fu (fu (fu F2 17 (F2 12 5) (F 10 7)) 18 (F2 12 5) 0) 12 5 (i_add (F2 12 5) 1)) v F')) ∧
          (n2 = 0 →
           v = (0, 0) ∧ F' = F2)))) := by
  have t := q_ok cv_313 ap_313 (hd := [(12, [1, 1, 1, 0])]) h rfl rfl
  exact t
-- TurnNet$Reader.readUnit(I)Z
theorem c_Rd_readUnit4 {a1 : Nat} {F : fx_F} {v : fx_V} {F' : fx_F} (h : Cl k_Rd_readUnit4 [(2, 10), (0, a1)] F v F') : ∃ n, Rn n k_Rd_readUnit4 0 [(2, 10), (0, a1), (3, 0), (3, 0)] [] F v F' := by
  obtain ⟨n, s, hs, h⟩ := h
  rw [sg_314] at hs
  cases hs
  exact ⟨n, h⟩
set_option maxRecDepth 40000 in
theorem q_Rd_readUnit4_0 {n : Nat} {a1 : Nat} {F : fx_F} {v : fx_V} {F' : fx_F} (h : Rn n k_Rd_readUnit4 0 [(2, 10), (0, a1), (3, 0), (3, 0)] [] F v F') :
  ∃ (n1 : Nat) (F1 : fx_F), Cl k_Rd_unitKind [(2, 10)] F (0, n1) F1 ∧
  (n1 ≠ 0 →
    (n1 ≠ 1 →
      (s_le 40 (F1 12 4) →
        ∃ (n2 : Nat) (F2 : fx_F), Cl k_Rd_fail [(2, 10), (0, 4)] F1 (0, n2) F2 ∧
         v = (0, n2) ∧ F' = F2) ∧
       (s_lt (F1 12 4) 40 →
        (s_le a1 5 →
          ∃ F2 : fx_F, Cl k_Rd_advance [(2, 10)] (fu F1 12 4 (i_add (F1 12 4) 1)) (2, 0) F2 ∧
           (n1 ≠ 40 →
             (n1 ≠ 5 →
               (s_le 80 (F2 12 5) →
                 v = (0, 1) ∧ F' = F2) ∧
                (s_lt (F2 12 5) 80 →
                 v = (0, 1) ∧ F' = (fu (fu (fu F2 17 (F2 12 5) n1) 18 (F2 12 5) (F1 10 8)) 12 5 (i_add (F2 12 5) 1)))) ∧
              (n1 = 5 →
               ∃ (n3 : Nat) (F3 : fx_F), Cl k_Rd_readUnit5 [(2, 10), (0, i_add a1 1)] F2 (0, n3) F3 ∧
                (n3 ≠ 0 →
                  (s_le 80 (F3 12 5) →
                    v = (0, 1) ∧ F' = F3) ∧
                   (s_lt (F3 12 5) 80 →
                    v = (0, 1) ∧ F' = (fu (fu (fu F3 17 (F3 12 5) n1) 18 (F3 12 5) (F1 10 8)) 12 5 (i_add (F3 12 5) 1)))) ∧
                 (n3 = 0 →
                  v = (0, 0) ∧ F' = F3))) ∧
            (n1 = 40 →
             ∃ (n3 : Nat) (F3 : fx_F), Cl k_Rd_readSum5 [(2, 10), (0, i_add a1 1)] F2 (0, n3) F3 ∧
              (n3 = 0 →
                v = (0, 0) ∧ F' = F3) ∧
               (n3 ≠ 0 →
                ∃ (n4 : Nat) (F4 : fx_F), Cl k_Rd_readSign [(2, 10), (0, 41)] F3 (0, n4) F4 ∧
                 (n4 = 0 →
                   v = (0, 0) ∧ F' = F4) ∧
                  (n4 ≠ 0 →
                   v = (0, 1) ∧ F' = F4)))) ∧
         (s_lt 5 a1 →
          ∃ (n2 : Nat) (F2 : fx_F), Cl k_Rd_fail [(2, 10), (0, 4)] F1 (0, n2) F2 ∧
           v = (0, n2) ∧ F' = F2))) ∧
     (n1 = 1 →
      (s_le (F1 10 8) 999 →
        (s_le 40 (F1 12 4) →
          ∃ (n2 : Nat) (F2 : fx_F), Cl k_Rd_fail [(2, 10), (0, 4)] F1 (0, n2) F2 ∧
           v = (0, n2) ∧ F' = F2) ∧
         (s_lt (F1 12 4) 40 →
          (s_le a1 5 →
            ∃ F2 : fx_F, Cl k_Rd_advance [(2, 10)] (fu F1 12 4 (i_add (F1 12 4) 1)) (2, 0) F2 ∧
             (n1 ≠ 40 →
               (n1 ≠ 5 →
                 (s_le 80 (F2 12 5) →
                   v = (0, 1) ∧ F' = F2) ∧
                  (s_lt (F2 12 5) 80 →
                   v = (0, 1) ∧ F' = (fu (fu (fu F2 17 (F2 12 5) n1) 18 (F2 12 5) (F1 10 8)) 12 5 (i_add (F2 12 5) 1)))) ∧
                (n1 = 5 →
                 ∃ (n3 : Nat) (F3 : fx_F), Cl k_Rd_readUnit5 [(2, 10), (0, i_add a1 1)] F2 (0, n3) F3 ∧
                  (n3 ≠ 0 →
                    (s_le 80 (F3 12 5) →
                      v = (0, 1) ∧ F' = F3) ∧
                     (s_lt (F3 12 5) 80 →
                      v = (0, 1) ∧ F' = (fu (fu (fu F3 17 (F3 12 5) n1) 18 (F3 12 5) (F1 10 8)) 12 5 (i_add (F3 12 5) 1)))) ∧
                   (n3 = 0 →
                    v = (0, 0) ∧ F' = F3))) ∧
              (n1 = 40 →
               ∃ (n3 : Nat) (F3 : fx_F), Cl k_Rd_readSum5 [(2, 10), (0, i_add a1 1)] F2 (0, n3) F3 ∧
                (n3 = 0 →
                  v = (0, 0) ∧ F' = F3) ∧
                 (n3 ≠ 0 →
                  ∃ (n4 : Nat) (F4 : fx_F), Cl k_Rd_readSign [(2, 10), (0, 41)] F3 (0, n4) F4 ∧
                   (n4 = 0 →
                     v = (0, 0) ∧ F' = F4) ∧
                    (n4 ≠ 0 →
                     v = (0, 1) ∧ F' = F4)))) ∧
           (s_lt 5 a1 →
            ∃ (n2 : Nat) (F2 : fx_F), Cl k_Rd_fail [(2, 10), (0, 4)] F1 (0, n2) F2 ∧
             v = (0, n2) ∧ F' = F2))) ∧
       (s_lt 999 (F1 10 8) →
        ∃ (n2 : Nat) (F2 : fx_F), Cl k_Rd_fail [(2, 10), (0, 2)] F1 (0, n2) F2 ∧
         v = (0, n2) ∧ F' = F2))) ∧
   (n1 = 0 →
    ∃ (n2 : Nat) (F2 : fx_F), Cl k_Rd_fail [(2, 10), (0, 1)] F1 (0, n2) F2 ∧
     v = (0, n2) ∧ F' = F2) := by
  have t := q_ok cv_314 ap_314 (hd := []) h rfl rfl
  exact t
-- TurnNet$Reader.readProduct(I)Z
theorem c_Rd_readProduct4 {a1 : Nat} {F : fx_F} {v : fx_V} {F' : fx_F} (h : Cl k_Rd_readProduct4 [(2, 10), (0, a1)] F v F') : ∃ n, Rn n k_Rd_readProduct4 0 [(2, 10), (0, a1), (3, 0), (3, 0)] [] F v F' := by
  obtain ⟨n, s, hs, h⟩ := h
  rw [sg_315] at hs
  cases hs
  exact ⟨n, h⟩
set_option maxRecDepth 40000 in
theorem q_Rd_readProduct4_0 {n : Nat} {a1 : Nat} {F : fx_F} {v : fx_V} {F' : fx_F} (h : Rn n k_Rd_readProduct4 0 [(2, 10), (0, a1), (3, 0), (3, 0)] [] F v F') :
  ∃ (n1 : Nat) (F1 : fx_F), Cl k_Rd_readUnit4 [(2, 10), (0, a1)] F (0, n1) F1 ∧
  (n1 ≠ 0 →
    ∃ m, m < n ∧ Rn m k_Rd_readProduct4 12 [(2, 10), (0, a1), (0, 0), (3, 0)] [] F1 v F') ∧
   (n1 = 0 →
    v = (0, 0) ∧ F' = F1) := by
  have t := q_ok cv_315 ap_315 (hd := [(12, [1, 1, 1, 0])]) h rfl rfl
  exact t
set_option maxRecDepth 40000 in
theorem q_Rd_readProduct4_12 {n : Nat} {l1 l2 : Nat} {F : fx_F} {v : fx_V} {F' : fx_F} (h : Rn n k_Rd_readProduct4 12 [(2, 10), (0, l1), (0, l2), (3, 0)] [] F v F') :
  (s_le 800 l2 →
   v = (0, 1) ∧ F' = F) ∧
  (s_lt l2 800 →
   ((F 10 7) = 42 →
     ∃ F1 : fx_F, Cl k_Rd_advance [(2, 10)] F (2, 0) F1 ∧
      ∃ (n2 : Nat) (F2 : fx_F), Cl k_Rd_readUnit4 [(2, 10), (0, l1)] F1 (0, n2) F2 ∧
       (n2 ≠ 0 →
         (s_le 80 (F2 12 5) →
           ∃ m, m < n ∧ Rn m k_Rd_readProduct4 12 [(2, 10), (0, l1), (0, i_add l2 1), (3, 0)] [] F2 v F') ∧
          (s_lt (F2 12 5) 80 →
           ∃ m, m < n ∧ Rn m k_Rd_readProduct4 12 [(2, 10), (0, l1), (0, i_add l2 1), (3, 0)] [] (fu (fu (fu F2 17 (F2 12 5) (F 10 7)) 18 (F2 12 5) 0) 12 5 (i_add (F2 12 5) 1)) v F')) ∧
        (n2 = 0 →
         v = (0, 0) ∧ F' = F2)) ∧
    ((F 10 7) ≠ 42 →
     ((F 10 7) = 47 →
       ∃ F1 : fx_F, Cl k_Rd_advance [(2, 10)] F (2, 0) F1 ∧
        ∃ (n2 : Nat) (F2 : fx_F), Cl k_Rd_readUnit4 [(2, 10), (0, l1)] F1 (0, n2) F2 ∧
         (n2 ≠ 0 →
           (s_le 80 (F2 12 5) →
             ∃ m, m < n ∧ Rn m k_Rd_readProduct4 12 [(2, 10), (0, l1), (0, i_add l2 1), (3, 0)] [] F2 v F') ∧
            (s_lt (F2 12 5) 80 →
             ∃ m, m < n ∧ Rn m k_Rd_readProduct4 12 [(2, 10), (0, l1), (0, i_add l2 1), (3, 0)] [] (fu (fu (fu F2 17 (F2 12 5) (F 10 7)) 18 (F2 12 5) 0) 12 5 (i_add (F2 12 5) 1)) v F')) ∧
          (n2 = 0 →
           v = (0, 0) ∧ F' = F2)) ∧
      ((F 10 7) ≠ 47 →
       ((F 10 7) ≠ 37 →
         v = (0, 1) ∧ F' = F) ∧
        ((F 10 7) = 37 →
         ∃ F1 : fx_F, Cl k_Rd_advance [(2, 10)] F (2, 0) F1 ∧
          ∃ (n2 : Nat) (F2 : fx_F), Cl k_Rd_readUnit4 [(2, 10), (0, l1)] F1 (0, n2) F2 ∧
           (n2 ≠ 0 →
             (s_le 80 (F2 12 5) →
               ∃ m, m < n ∧ Rn m k_Rd_readProduct4 12 [(2, 10), (0, l1), (0, i_add l2 1), (3, 0)] [] F2 v F') ∧
              (s_lt (F2 12 5) 80 →
               ∃ m, m < n ∧ Rn m k_Rd_readProduct4 12 [(2, 10), (0, l1), (0, i_add l2 1), (3, 0)] [] (fu (fu (fu F2 17 (F2 12 5) (F 10 7)) 18 (F2 12 5) 0) 12 5 (i_add (F2 12 5) 1)) v F')) ∧
            (n2 = 0 →
             v = (0, 0) ∧ F' = F2))))) := by
  have t := q_ok cv_315 ap_315 (hd := [(12, [1, 1, 1, 0])]) h rfl rfl
  exact t
-- TurnNet$Reader.readSum(I)Z
theorem c_Rd_readSum4 {a1 : Nat} {F : fx_F} {v : fx_V} {F' : fx_F} (h : Cl k_Rd_readSum4 [(2, 10), (0, a1)] F v F') : ∃ n, Rn n k_Rd_readSum4 0 [(2, 10), (0, a1), (3, 0), (3, 0)] [] F v F' := by
  obtain ⟨n, s, hs, h⟩ := h
  rw [sg_316] at hs
  cases hs
  exact ⟨n, h⟩
set_option maxRecDepth 40000 in
theorem q_Rd_readSum4_0 {n : Nat} {a1 : Nat} {F : fx_F} {v : fx_V} {F' : fx_F} (h : Rn n k_Rd_readSum4 0 [(2, 10), (0, a1), (3, 0), (3, 0)] [] F v F') :
  ∃ (n1 : Nat) (F1 : fx_F), Cl k_Rd_readProduct4 [(2, 10), (0, a1)] F (0, n1) F1 ∧
  (n1 ≠ 0 →
    ∃ m, m < n ∧ Rn m k_Rd_readSum4 12 [(2, 10), (0, a1), (0, 0), (3, 0)] [] F1 v F') ∧
   (n1 = 0 →
    v = (0, 0) ∧ F' = F1) := by
  have t := q_ok cv_316 ap_316 (hd := [(12, [1, 1, 1, 0])]) h rfl rfl
  exact t
set_option maxRecDepth 40000 in
theorem q_Rd_readSum4_12 {n : Nat} {l1 l2 : Nat} {F : fx_F} {v : fx_V} {F' : fx_F} (h : Rn n k_Rd_readSum4 12 [(2, 10), (0, l1), (0, l2), (3, 0)] [] F v F') :
  (s_le 800 l2 →
   v = (0, 1) ∧ F' = F) ∧
  (s_lt l2 800 →
   ((F 10 7) = 43 →
     ∃ F1 : fx_F, Cl k_Rd_advance [(2, 10)] F (2, 0) F1 ∧
      ∃ (n2 : Nat) (F2 : fx_F), Cl k_Rd_readProduct4 [(2, 10), (0, l1)] F1 (0, n2) F2 ∧
       (n2 ≠ 0 →
         (s_le 80 (F2 12 5) →
           ∃ m, m < n ∧ Rn m k_Rd_readSum4 12 [(2, 10), (0, l1), (0, i_add l2 1), (3, 0)] [] F2 v F') ∧
          (s_lt (F2 12 5) 80 →
           ∃ m, m < n ∧ Rn m k_Rd_readSum4 12 [(2, 10), (0, l1), (0, i_add l2 1), (3, 0)] [] (fu (fu (fu F2 17 (F2 12 5) (F 10 7)) 18 (F2 12 5) 0) 12 5 (i_add (F2 12 5) 1)) v F')) ∧
        (n2 = 0 →
         v = (0, 0) ∧ F' = F2)) ∧
    ((F 10 7) ≠ 43 →
     ((F 10 7) ≠ 45 →
       v = (0, 1) ∧ F' = F) ∧
      ((F 10 7) = 45 →
       ∃ F1 : fx_F, Cl k_Rd_advance [(2, 10)] F (2, 0) F1 ∧
        ∃ (n2 : Nat) (F2 : fx_F), Cl k_Rd_readProduct4 [(2, 10), (0, l1)] F1 (0, n2) F2 ∧
         (n2 ≠ 0 →
           (s_le 80 (F2 12 5) →
             ∃ m, m < n ∧ Rn m k_Rd_readSum4 12 [(2, 10), (0, l1), (0, i_add l2 1), (3, 0)] [] F2 v F') ∧
            (s_lt (F2 12 5) 80 →
             ∃ m, m < n ∧ Rn m k_Rd_readSum4 12 [(2, 10), (0, l1), (0, i_add l2 1), (3, 0)] [] (fu (fu (fu F2 17 (F2 12 5) (F 10 7)) 18 (F2 12 5) 0) 12 5 (i_add (F2 12 5) 1)) v F')) ∧
          (n2 = 0 →
           v = (0, 0) ∧ F' = F2)))) := by
  have t := q_ok cv_316 ap_316 (hd := [(12, [1, 1, 1, 0])]) h rfl rfl
  exact t
-- TurnNet$Reader.readUnit(I)Z
theorem c_Rd_readUnit3 {a1 : Nat} {F : fx_F} {v : fx_V} {F' : fx_F} (h : Cl k_Rd_readUnit3 [(2, 10), (0, a1)] F v F') : ∃ n, Rn n k_Rd_readUnit3 0 [(2, 10), (0, a1), (3, 0), (3, 0)] [] F v F' := by
  obtain ⟨n, s, hs, h⟩ := h
  rw [sg_317] at hs
  cases hs
  exact ⟨n, h⟩
set_option maxRecDepth 40000 in
theorem q_Rd_readUnit3_0 {n : Nat} {a1 : Nat} {F : fx_F} {v : fx_V} {F' : fx_F} (h : Rn n k_Rd_readUnit3 0 [(2, 10), (0, a1), (3, 0), (3, 0)] [] F v F') :
  ∃ (n1 : Nat) (F1 : fx_F), Cl k_Rd_unitKind [(2, 10)] F (0, n1) F1 ∧
  (n1 ≠ 0 →
    (n1 ≠ 1 →
      (s_le 40 (F1 12 4) →
        ∃ (n2 : Nat) (F2 : fx_F), Cl k_Rd_fail [(2, 10), (0, 4)] F1 (0, n2) F2 ∧
         v = (0, n2) ∧ F' = F2) ∧
       (s_lt (F1 12 4) 40 →
        (s_le a1 5 →
          ∃ F2 : fx_F, Cl k_Rd_advance [(2, 10)] (fu F1 12 4 (i_add (F1 12 4) 1)) (2, 0) F2 ∧
           (n1 ≠ 40 →
             (n1 ≠ 5 →
               (s_le 80 (F2 12 5) →
                 v = (0, 1) ∧ F' = F2) ∧
                (s_lt (F2 12 5) 80 →
                 v = (0, 1) ∧ F' = (fu (fu (fu F2 17 (F2 12 5) n1) 18 (F2 12 5) (F1 10 8)) 12 5 (i_add (F2 12 5) 1)))) ∧
              (n1 = 5 →
               ∃ (n3 : Nat) (F3 : fx_F), Cl k_Rd_readUnit4 [(2, 10), (0, i_add a1 1)] F2 (0, n3) F3 ∧
                (n3 ≠ 0 →
                  (s_le 80 (F3 12 5) →
                    v = (0, 1) ∧ F' = F3) ∧
                   (s_lt (F3 12 5) 80 →
                    v = (0, 1) ∧ F' = (fu (fu (fu F3 17 (F3 12 5) n1) 18 (F3 12 5) (F1 10 8)) 12 5 (i_add (F3 12 5) 1)))) ∧
                 (n3 = 0 →
                  v = (0, 0) ∧ F' = F3))) ∧
            (n1 = 40 →
             ∃ (n3 : Nat) (F3 : fx_F), Cl k_Rd_readSum4 [(2, 10), (0, i_add a1 1)] F2 (0, n3) F3 ∧
              (n3 = 0 →
                v = (0, 0) ∧ F' = F3) ∧
               (n3 ≠ 0 →
                ∃ (n4 : Nat) (F4 : fx_F), Cl k_Rd_readSign [(2, 10), (0, 41)] F3 (0, n4) F4 ∧
                 (n4 = 0 →
                   v = (0, 0) ∧ F' = F4) ∧
                  (n4 ≠ 0 →
                   v = (0, 1) ∧ F' = F4)))) ∧
         (s_lt 5 a1 →
          ∃ (n2 : Nat) (F2 : fx_F), Cl k_Rd_fail [(2, 10), (0, 4)] F1 (0, n2) F2 ∧
           v = (0, n2) ∧ F' = F2))) ∧
     (n1 = 1 →
      (s_le (F1 10 8) 999 →
        (s_le 40 (F1 12 4) →
          ∃ (n2 : Nat) (F2 : fx_F), Cl k_Rd_fail [(2, 10), (0, 4)] F1 (0, n2) F2 ∧
           v = (0, n2) ∧ F' = F2) ∧
         (s_lt (F1 12 4) 40 →
          (s_le a1 5 →
            ∃ F2 : fx_F, Cl k_Rd_advance [(2, 10)] (fu F1 12 4 (i_add (F1 12 4) 1)) (2, 0) F2 ∧
             (n1 ≠ 40 →
               (n1 ≠ 5 →
                 (s_le 80 (F2 12 5) →
                   v = (0, 1) ∧ F' = F2) ∧
                  (s_lt (F2 12 5) 80 →
                   v = (0, 1) ∧ F' = (fu (fu (fu F2 17 (F2 12 5) n1) 18 (F2 12 5) (F1 10 8)) 12 5 (i_add (F2 12 5) 1)))) ∧
                (n1 = 5 →
                 ∃ (n3 : Nat) (F3 : fx_F), Cl k_Rd_readUnit4 [(2, 10), (0, i_add a1 1)] F2 (0, n3) F3 ∧
                  (n3 ≠ 0 →
                    (s_le 80 (F3 12 5) →
                      v = (0, 1) ∧ F' = F3) ∧
                     (s_lt (F3 12 5) 80 →
                      v = (0, 1) ∧ F' = (fu (fu (fu F3 17 (F3 12 5) n1) 18 (F3 12 5) (F1 10 8)) 12 5 (i_add (F3 12 5) 1)))) ∧
                   (n3 = 0 →
                    v = (0, 0) ∧ F' = F3))) ∧
              (n1 = 40 →
               ∃ (n3 : Nat) (F3 : fx_F), Cl k_Rd_readSum4 [(2, 10), (0, i_add a1 1)] F2 (0, n3) F3 ∧
                (n3 = 0 →
                  v = (0, 0) ∧ F' = F3) ∧
                 (n3 ≠ 0 →
                  ∃ (n4 : Nat) (F4 : fx_F), Cl k_Rd_readSign [(2, 10), (0, 41)] F3 (0, n4) F4 ∧
                   (n4 = 0 →
                     v = (0, 0) ∧ F' = F4) ∧
                    (n4 ≠ 0 →
                     v = (0, 1) ∧ F' = F4)))) ∧
           (s_lt 5 a1 →
            ∃ (n2 : Nat) (F2 : fx_F), Cl k_Rd_fail [(2, 10), (0, 4)] F1 (0, n2) F2 ∧
             v = (0, n2) ∧ F' = F2))) ∧
       (s_lt 999 (F1 10 8) →
        ∃ (n2 : Nat) (F2 : fx_F), Cl k_Rd_fail [(2, 10), (0, 2)] F1 (0, n2) F2 ∧
         v = (0, n2) ∧ F' = F2))) ∧
   (n1 = 0 →
    ∃ (n2 : Nat) (F2 : fx_F), Cl k_Rd_fail [(2, 10), (0, 1)] F1 (0, n2) F2 ∧
     v = (0, n2) ∧ F' = F2) := by
  have t := q_ok cv_317 ap_317 (hd := []) h rfl rfl
  exact t
-- TurnNet$Reader.readProduct(I)Z
theorem c_Rd_readProduct3 {a1 : Nat} {F : fx_F} {v : fx_V} {F' : fx_F} (h : Cl k_Rd_readProduct3 [(2, 10), (0, a1)] F v F') : ∃ n, Rn n k_Rd_readProduct3 0 [(2, 10), (0, a1), (3, 0), (3, 0)] [] F v F' := by
  obtain ⟨n, s, hs, h⟩ := h
  rw [sg_318] at hs
  cases hs
  exact ⟨n, h⟩
set_option maxRecDepth 40000 in
theorem q_Rd_readProduct3_0 {n : Nat} {a1 : Nat} {F : fx_F} {v : fx_V} {F' : fx_F} (h : Rn n k_Rd_readProduct3 0 [(2, 10), (0, a1), (3, 0), (3, 0)] [] F v F') :
  ∃ (n1 : Nat) (F1 : fx_F), Cl k_Rd_readUnit3 [(2, 10), (0, a1)] F (0, n1) F1 ∧
  (n1 ≠ 0 →
    ∃ m, m < n ∧ Rn m k_Rd_readProduct3 12 [(2, 10), (0, a1), (0, 0), (3, 0)] [] F1 v F') ∧
   (n1 = 0 →
    v = (0, 0) ∧ F' = F1) := by
  have t := q_ok cv_318 ap_318 (hd := [(12, [1, 1, 1, 0])]) h rfl rfl
  exact t
set_option maxRecDepth 40000 in
theorem q_Rd_readProduct3_12 {n : Nat} {l1 l2 : Nat} {F : fx_F} {v : fx_V} {F' : fx_F} (h : Rn n k_Rd_readProduct3 12 [(2, 10), (0, l1), (0, l2), (3, 0)] [] F v F') :
  (s_le 800 l2 →
   v = (0, 1) ∧ F' = F) ∧
  (s_lt l2 800 →
   ((F 10 7) = 42 →
     ∃ F1 : fx_F, Cl k_Rd_advance [(2, 10)] F (2, 0) F1 ∧
      ∃ (n2 : Nat) (F2 : fx_F), Cl k_Rd_readUnit3 [(2, 10), (0, l1)] F1 (0, n2) F2 ∧
       (n2 ≠ 0 →
         (s_le 80 (F2 12 5) →
           ∃ m, m < n ∧ Rn m k_Rd_readProduct3 12 [(2, 10), (0, l1), (0, i_add l2 1), (3, 0)] [] F2 v F') ∧
          (s_lt (F2 12 5) 80 →
           ∃ m, m < n ∧ Rn m k_Rd_readProduct3 12 [(2, 10), (0, l1), (0, i_add l2 1), (3, 0)] [] (fu (fu (fu F2 17 (F2 12 5) (F 10 7)) 18 (F2 12 5) 0) 12 5 (i_add (F2 12 5) 1)) v F')) ∧
        (n2 = 0 →
         v = (0, 0) ∧ F' = F2)) ∧
    ((F 10 7) ≠ 42 →
     ((F 10 7) = 47 →
       ∃ F1 : fx_F, Cl k_Rd_advance [(2, 10)] F (2, 0) F1 ∧
        ∃ (n2 : Nat) (F2 : fx_F), Cl k_Rd_readUnit3 [(2, 10), (0, l1)] F1 (0, n2) F2 ∧
         (n2 ≠ 0 →
           (s_le 80 (F2 12 5) →
             ∃ m, m < n ∧ Rn m k_Rd_readProduct3 12 [(2, 10), (0, l1), (0, i_add l2 1), (3, 0)] [] F2 v F') ∧
            (s_lt (F2 12 5) 80 →
             ∃ m, m < n ∧ Rn m k_Rd_readProduct3 12 [(2, 10), (0, l1), (0, i_add l2 1), (3, 0)] [] (fu (fu (fu F2 17 (F2 12 5) (F 10 7)) 18 (F2 12 5) 0) 12 5 (i_add (F2 12 5) 1)) v F')) ∧
          (n2 = 0 →
           v = (0, 0) ∧ F' = F2)) ∧
      ((F 10 7) ≠ 47 →
       ((F 10 7) ≠ 37 →
         v = (0, 1) ∧ F' = F) ∧
        ((F 10 7) = 37 →
         ∃ F1 : fx_F, Cl k_Rd_advance [(2, 10)] F (2, 0) F1 ∧
          ∃ (n2 : Nat) (F2 : fx_F), Cl k_Rd_readUnit3 [(2, 10), (0, l1)] F1 (0, n2) F2 ∧
           (n2 ≠ 0 →
             (s_le 80 (F2 12 5) →
               ∃ m, m < n ∧ Rn m k_Rd_readProduct3 12 [(2, 10), (0, l1), (0, i_add l2 1), (3, 0)] [] F2 v F') ∧
              (s_lt (F2 12 5) 80 →
               ∃ m, m < n ∧ Rn m k_Rd_readProduct3 12 [(2, 10), (0, l1), (0, i_add l2 1), (3, 0)] [] (fu (fu (fu F2 17 (F2 12 5) (F 10 7)) 18 (F2 12 5) 0) 12 5 (i_add (F2 12 5) 1)) v F')) ∧
            (n2 = 0 →
             v = (0, 0) ∧ F' = F2))))) := by
  have t := q_ok cv_318 ap_318 (hd := [(12, [1, 1, 1, 0])]) h rfl rfl
  exact t
-- TurnNet$Reader.readSum(I)Z
theorem c_Rd_readSum3 {a1 : Nat} {F : fx_F} {v : fx_V} {F' : fx_F} (h : Cl k_Rd_readSum3 [(2, 10), (0, a1)] F v F') : ∃ n, Rn n k_Rd_readSum3 0 [(2, 10), (0, a1), (3, 0), (3, 0)] [] F v F' := by
  obtain ⟨n, s, hs, h⟩ := h
  rw [sg_319] at hs
  cases hs
  exact ⟨n, h⟩
set_option maxRecDepth 40000 in
theorem q_Rd_readSum3_0 {n : Nat} {a1 : Nat} {F : fx_F} {v : fx_V} {F' : fx_F} (h : Rn n k_Rd_readSum3 0 [(2, 10), (0, a1), (3, 0), (3, 0)] [] F v F') :
  ∃ (n1 : Nat) (F1 : fx_F), Cl k_Rd_readProduct3 [(2, 10), (0, a1)] F (0, n1) F1 ∧
  (n1 ≠ 0 →
    ∃ m, m < n ∧ Rn m k_Rd_readSum3 12 [(2, 10), (0, a1), (0, 0), (3, 0)] [] F1 v F') ∧
   (n1 = 0 →
    v = (0, 0) ∧ F' = F1) := by
  have t := q_ok cv_319 ap_319 (hd := [(12, [1, 1, 1, 0])]) h rfl rfl
  exact t
set_option maxRecDepth 40000 in
theorem q_Rd_readSum3_12 {n : Nat} {l1 l2 : Nat} {F : fx_F} {v : fx_V} {F' : fx_F} (h : Rn n k_Rd_readSum3 12 [(2, 10), (0, l1), (0, l2), (3, 0)] [] F v F') :
  (s_le 800 l2 →
   v = (0, 1) ∧ F' = F) ∧
  (s_lt l2 800 →
   ((F 10 7) = 43 →
     ∃ F1 : fx_F, Cl k_Rd_advance [(2, 10)] F (2, 0) F1 ∧
      ∃ (n2 : Nat) (F2 : fx_F), Cl k_Rd_readProduct3 [(2, 10), (0, l1)] F1 (0, n2) F2 ∧
       (n2 ≠ 0 →
         (s_le 80 (F2 12 5) →
           ∃ m, m < n ∧ Rn m k_Rd_readSum3 12 [(2, 10), (0, l1), (0, i_add l2 1), (3, 0)] [] F2 v F') ∧
          (s_lt (F2 12 5) 80 →
           ∃ m, m < n ∧ Rn m k_Rd_readSum3 12 [(2, 10), (0, l1), (0, i_add l2 1), (3, 0)] [] (fu (fu (fu F2 17 (F2 12 5) (F 10 7)) 18 (F2 12 5) 0) 12 5 (i_add (F2 12 5) 1)) v F')) ∧
        (n2 = 0 →
         v = (0, 0) ∧ F' = F2)) ∧
    ((F 10 7) ≠ 43 →
     ((F 10 7) ≠ 45 →
       v = (0, 1) ∧ F' = F) ∧
      ((F 10 7) = 45 →
       ∃ F1 : fx_F, Cl k_Rd_advance [(2, 10)] F (2, 0) F1 ∧
        ∃ (n2 : Nat) (F2 : fx_F), Cl k_Rd_readProduct3 [(2, 10), (0, l1)] F1 (0, n2) F2 ∧
         (n2 ≠ 0 →
           (s_le 80 (F2 12 5) →
             ∃ m, m < n ∧ Rn m k_Rd_readSum3 12 [(2, 10), (0, l1), (0, i_add l2 1), (3, 0)] [] F2 v F') ∧
            (s_lt (F2 12 5) 80 →
             ∃ m, m < n ∧ Rn m k_Rd_readSum3 12 [(2, 10), (0, l1), (0, i_add l2 1), (3, 0)] [] (fu (fu (fu F2 17 (F2 12 5) (F 10 7)) 18 (F2 12 5) 0) 12 5 (i_add (F2 12 5) 1)) v F')) ∧
          (n2 = 0 →
           v = (0, 0) ∧ F' = F2)))) := by
  have t := q_ok cv_319 ap_319 (hd := [(12, [1, 1, 1, 0])]) h rfl rfl
  exact t
-- TurnNet$Reader.readUnit(I)Z
theorem c_Rd_readUnit2 {a1 : Nat} {F : fx_F} {v : fx_V} {F' : fx_F} (h : Cl k_Rd_readUnit2 [(2, 10), (0, a1)] F v F') : ∃ n, Rn n k_Rd_readUnit2 0 [(2, 10), (0, a1), (3, 0), (3, 0)] [] F v F' := by
  obtain ⟨n, s, hs, h⟩ := h
  rw [sg_320] at hs
  cases hs
  exact ⟨n, h⟩
set_option maxRecDepth 40000 in
theorem q_Rd_readUnit2_0 {n : Nat} {a1 : Nat} {F : fx_F} {v : fx_V} {F' : fx_F} (h : Rn n k_Rd_readUnit2 0 [(2, 10), (0, a1), (3, 0), (3, 0)] [] F v F') :
  ∃ (n1 : Nat) (F1 : fx_F), Cl k_Rd_unitKind [(2, 10)] F (0, n1) F1 ∧
  (n1 ≠ 0 →
    (n1 ≠ 1 →
      (s_le 40 (F1 12 4) →
        ∃ (n2 : Nat) (F2 : fx_F), Cl k_Rd_fail [(2, 10), (0, 4)] F1 (0, n2) F2 ∧
         v = (0, n2) ∧ F' = F2) ∧
       (s_lt (F1 12 4) 40 →
        (s_le a1 5 →
          ∃ F2 : fx_F, Cl k_Rd_advance [(2, 10)] (fu F1 12 4 (i_add (F1 12 4) 1)) (2, 0) F2 ∧
           (n1 ≠ 40 →
             (n1 ≠ 5 →
               (s_le 80 (F2 12 5) →
                 v = (0, 1) ∧ F' = F2) ∧
                (s_lt (F2 12 5) 80 →
                 v = (0, 1) ∧ F' = (fu (fu (fu F2 17 (F2 12 5) n1) 18 (F2 12 5) (F1 10 8)) 12 5 (i_add (F2 12 5) 1)))) ∧
              (n1 = 5 →
               ∃ (n3 : Nat) (F3 : fx_F), Cl k_Rd_readUnit3 [(2, 10), (0, i_add a1 1)] F2 (0, n3) F3 ∧
                (n3 ≠ 0 →
                  (s_le 80 (F3 12 5) →
                    v = (0, 1) ∧ F' = F3) ∧
                   (s_lt (F3 12 5) 80 →
                    v = (0, 1) ∧ F' = (fu (fu (fu F3 17 (F3 12 5) n1) 18 (F3 12 5) (F1 10 8)) 12 5 (i_add (F3 12 5) 1)))) ∧
                 (n3 = 0 →
                  v = (0, 0) ∧ F' = F3))) ∧
            (n1 = 40 →
             ∃ (n3 : Nat) (F3 : fx_F), Cl k_Rd_readSum3 [(2, 10), (0, i_add a1 1)] F2 (0, n3) F3 ∧
              (n3 = 0 →
                v = (0, 0) ∧ F' = F3) ∧
               (n3 ≠ 0 →
                ∃ (n4 : Nat) (F4 : fx_F), Cl k_Rd_readSign [(2, 10), (0, 41)] F3 (0, n4) F4 ∧
                 (n4 = 0 →
                   v = (0, 0) ∧ F' = F4) ∧
                  (n4 ≠ 0 →
                   v = (0, 1) ∧ F' = F4)))) ∧
         (s_lt 5 a1 →
          ∃ (n2 : Nat) (F2 : fx_F), Cl k_Rd_fail [(2, 10), (0, 4)] F1 (0, n2) F2 ∧
           v = (0, n2) ∧ F' = F2))) ∧
     (n1 = 1 →
      (s_le (F1 10 8) 999 →
        (s_le 40 (F1 12 4) →
          ∃ (n2 : Nat) (F2 : fx_F), Cl k_Rd_fail [(2, 10), (0, 4)] F1 (0, n2) F2 ∧
           v = (0, n2) ∧ F' = F2) ∧
         (s_lt (F1 12 4) 40 →
          (s_le a1 5 →
            ∃ F2 : fx_F, Cl k_Rd_advance [(2, 10)] (fu F1 12 4 (i_add (F1 12 4) 1)) (2, 0) F2 ∧
             (n1 ≠ 40 →
               (n1 ≠ 5 →
                 (s_le 80 (F2 12 5) →
                   v = (0, 1) ∧ F' = F2) ∧
                  (s_lt (F2 12 5) 80 →
                   v = (0, 1) ∧ F' = (fu (fu (fu F2 17 (F2 12 5) n1) 18 (F2 12 5) (F1 10 8)) 12 5 (i_add (F2 12 5) 1)))) ∧
                (n1 = 5 →
                 ∃ (n3 : Nat) (F3 : fx_F), Cl k_Rd_readUnit3 [(2, 10), (0, i_add a1 1)] F2 (0, n3) F3 ∧
                  (n3 ≠ 0 →
                    (s_le 80 (F3 12 5) →
                      v = (0, 1) ∧ F' = F3) ∧
                     (s_lt (F3 12 5) 80 →
                      v = (0, 1) ∧ F' = (fu (fu (fu F3 17 (F3 12 5) n1) 18 (F3 12 5) (F1 10 8)) 12 5 (i_add (F3 12 5) 1)))) ∧
                   (n3 = 0 →
                    v = (0, 0) ∧ F' = F3))) ∧
              (n1 = 40 →
               ∃ (n3 : Nat) (F3 : fx_F), Cl k_Rd_readSum3 [(2, 10), (0, i_add a1 1)] F2 (0, n3) F3 ∧
                (n3 = 0 →
                  v = (0, 0) ∧ F' = F3) ∧
                 (n3 ≠ 0 →
                  ∃ (n4 : Nat) (F4 : fx_F), Cl k_Rd_readSign [(2, 10), (0, 41)] F3 (0, n4) F4 ∧
                   (n4 = 0 →
                     v = (0, 0) ∧ F' = F4) ∧
                    (n4 ≠ 0 →
                     v = (0, 1) ∧ F' = F4)))) ∧
           (s_lt 5 a1 →
            ∃ (n2 : Nat) (F2 : fx_F), Cl k_Rd_fail [(2, 10), (0, 4)] F1 (0, n2) F2 ∧
             v = (0, n2) ∧ F' = F2))) ∧
       (s_lt 999 (F1 10 8) →
        ∃ (n2 : Nat) (F2 : fx_F), Cl k_Rd_fail [(2, 10), (0, 2)] F1 (0, n2) F2 ∧
         v = (0, n2) ∧ F' = F2))) ∧
   (n1 = 0 →
    ∃ (n2 : Nat) (F2 : fx_F), Cl k_Rd_fail [(2, 10), (0, 1)] F1 (0, n2) F2 ∧
     v = (0, n2) ∧ F' = F2) := by
  have t := q_ok cv_320 ap_320 (hd := []) h rfl rfl
  exact t
-- TurnNet$Reader.readProduct(I)Z
theorem c_Rd_readProduct2 {a1 : Nat} {F : fx_F} {v : fx_V} {F' : fx_F} (h : Cl k_Rd_readProduct2 [(2, 10), (0, a1)] F v F') : ∃ n, Rn n k_Rd_readProduct2 0 [(2, 10), (0, a1), (3, 0), (3, 0)] [] F v F' := by
  obtain ⟨n, s, hs, h⟩ := h
  rw [sg_321] at hs
  cases hs
  exact ⟨n, h⟩
set_option maxRecDepth 40000 in
theorem q_Rd_readProduct2_0 {n : Nat} {a1 : Nat} {F : fx_F} {v : fx_V} {F' : fx_F} (h : Rn n k_Rd_readProduct2 0 [(2, 10), (0, a1), (3, 0), (3, 0)] [] F v F') :
  ∃ (n1 : Nat) (F1 : fx_F), Cl k_Rd_readUnit2 [(2, 10), (0, a1)] F (0, n1) F1 ∧
  (n1 ≠ 0 →
    ∃ m, m < n ∧ Rn m k_Rd_readProduct2 12 [(2, 10), (0, a1), (0, 0), (3, 0)] [] F1 v F') ∧
   (n1 = 0 →
    v = (0, 0) ∧ F' = F1) := by
  have t := q_ok cv_321 ap_321 (hd := [(12, [1, 1, 1, 0])]) h rfl rfl
  exact t
set_option maxRecDepth 40000 in
theorem q_Rd_readProduct2_12 {n : Nat} {l1 l2 : Nat} {F : fx_F} {v : fx_V} {F' : fx_F} (h : Rn n k_Rd_readProduct2 12 [(2, 10), (0, l1), (0, l2), (3, 0)] [] F v F') :
  (s_le 800 l2 →
   v = (0, 1) ∧ F' = F) ∧
  (s_lt l2 800 →
   ((F 10 7) = 42 →
     ∃ F1 : fx_F, Cl k_Rd_advance [(2, 10)] F (2, 0) F1 ∧
      ∃ (n2 : Nat) (F2 : fx_F), Cl k_Rd_readUnit2 [(2, 10), (0, l1)] F1 (0, n2) F2 ∧
       (n2 ≠ 0 →
         (s_le 80 (F2 12 5) →
           ∃ m, m < n ∧ Rn m k_Rd_readProduct2 12 [(2, 10), (0, l1), (0, i_add l2 1), (3, 0)] [] F2 v F') ∧
          (s_lt (F2 12 5) 80 →
           ∃ m, m < n ∧ Rn m k_Rd_readProduct2 12 [(2, 10), (0, l1), (0, i_add l2 1), (3, 0)] [] (fu (fu (fu F2 17 (F2 12 5) (F 10 7)) 18 (F2 12 5) 0) 12 5 (i_add (F2 12 5) 1)) v F')) ∧
        (n2 = 0 →
         v = (0, 0) ∧ F' = F2)) ∧
    ((F 10 7) ≠ 42 →
     ((F 10 7) = 47 →
       ∃ F1 : fx_F, Cl k_Rd_advance [(2, 10)] F (2, 0) F1 ∧
        ∃ (n2 : Nat) (F2 : fx_F), Cl k_Rd_readUnit2 [(2, 10), (0, l1)] F1 (0, n2) F2 ∧
         (n2 ≠ 0 →
           (s_le 80 (F2 12 5) →
             ∃ m, m < n ∧ Rn m k_Rd_readProduct2 12 [(2, 10), (0, l1), (0, i_add l2 1), (3, 0)] [] F2 v F') ∧
            (s_lt (F2 12 5) 80 →
             ∃ m, m < n ∧ Rn m k_Rd_readProduct2 12 [(2, 10), (0, l1), (0, i_add l2 1), (3, 0)] [] (fu (fu (fu F2 17 (F2 12 5) (F 10 7)) 18 (F2 12 5) 0) 12 5 (i_add (F2 12 5) 1)) v F')) ∧
          (n2 = 0 →
           v = (0, 0) ∧ F' = F2)) ∧
      ((F 10 7) ≠ 47 →
       ((F 10 7) ≠ 37 →
         v = (0, 1) ∧ F' = F) ∧
        ((F 10 7) = 37 →
         ∃ F1 : fx_F, Cl k_Rd_advance [(2, 10)] F (2, 0) F1 ∧
          ∃ (n2 : Nat) (F2 : fx_F), Cl k_Rd_readUnit2 [(2, 10), (0, l1)] F1 (0, n2) F2 ∧
           (n2 ≠ 0 →
             (s_le 80 (F2 12 5) →
               ∃ m, m < n ∧ Rn m k_Rd_readProduct2 12 [(2, 10), (0, l1), (0, i_add l2 1), (3, 0)] [] F2 v F') ∧
              (s_lt (F2 12 5) 80 →
               ∃ m, m < n ∧ Rn m k_Rd_readProduct2 12 [(2, 10), (0, l1), (0, i_add l2 1), (3, 0)] [] (fu (fu (fu F2 17 (F2 12 5) (F 10 7)) 18 (F2 12 5) 0) 12 5 (i_add (F2 12 5) 1)) v F')) ∧
            (n2 = 0 →
             v = (0, 0) ∧ F' = F2))))) := by
  have t := q_ok cv_321 ap_321 (hd := [(12, [1, 1, 1, 0])]) h rfl rfl
  exact t
-- TurnNet$Reader.readSum(I)Z
theorem c_Rd_readSum2 {a1 : Nat} {F : fx_F} {v : fx_V} {F' : fx_F} (h : Cl k_Rd_readSum2 [(2, 10), (0, a1)] F v F') : ∃ n, Rn n k_Rd_readSum2 0 [(2, 10), (0, a1), (3, 0), (3, 0)] [] F v F' := by
  obtain ⟨n, s, hs, h⟩ := h
  rw [sg_322] at hs
  cases hs
  exact ⟨n, h⟩
set_option maxRecDepth 40000 in
theorem q_Rd_readSum2_0 {n : Nat} {a1 : Nat} {F : fx_F} {v : fx_V} {F' : fx_F} (h : Rn n k_Rd_readSum2 0 [(2, 10), (0, a1), (3, 0), (3, 0)] [] F v F') :
  ∃ (n1 : Nat) (F1 : fx_F), Cl k_Rd_readProduct2 [(2, 10), (0, a1)] F (0, n1) F1 ∧
  (n1 ≠ 0 →
    ∃ m, m < n ∧ Rn m k_Rd_readSum2 12 [(2, 10), (0, a1), (0, 0), (3, 0)] [] F1 v F') ∧
   (n1 = 0 →
    v = (0, 0) ∧ F' = F1) := by
  have t := q_ok cv_322 ap_322 (hd := [(12, [1, 1, 1, 0])]) h rfl rfl
  exact t
set_option maxRecDepth 40000 in
theorem q_Rd_readSum2_12 {n : Nat} {l1 l2 : Nat} {F : fx_F} {v : fx_V} {F' : fx_F} (h : Rn n k_Rd_readSum2 12 [(2, 10), (0, l1), (0, l2), (3, 0)] [] F v F') :
  (s_le 800 l2 →
   v = (0, 1) ∧ F' = F) ∧
  (s_lt l2 800 →
   ((F 10 7) = 43 →
     ∃ F1 : fx_F, Cl k_Rd_advance [(2, 10)] F (2, 0) F1 ∧
      ∃ (n2 : Nat) (F2 : fx_F), Cl k_Rd_readProduct2 [(2, 10), (0, l1)] F1 (0, n2) F2 ∧
       (n2 ≠ 0 →
         (s_le 80 (F2 12 5) →
           ∃ m, m < n ∧ Rn m k_Rd_readSum2 12 [(2, 10), (0, l1), (0, i_add l2 1), (3, 0)] [] F2 v F') ∧
          (s_lt (F2 12 5) 80 →
           ∃ m, m < n ∧ Rn m k_Rd_readSum2 12 [(2, 10), (0, l1), (0, i_add l2 1), (3, 0)] [] (fu (fu (fu F2 17 (F2 12 5) (F 10 7)) 18 (F2 12 5) 0) 12 5 (i_add (F2 12 5) 1)) v F')) ∧
        (n2 = 0 →
         v = (0, 0) ∧ F' = F2)) ∧
    ((F 10 7) ≠ 43 →
     ((F 10 7) ≠ 45 →
       v = (0, 1) ∧ F' = F) ∧
      ((F 10 7) = 45 →
       ∃ F1 : fx_F, Cl k_Rd_advance [(2, 10)] F (2, 0) F1 ∧
        ∃ (n2 : Nat) (F2 : fx_F), Cl k_Rd_readProduct2 [(2, 10), (0, l1)] F1 (0, n2) F2 ∧
         (n2 ≠ 0 →
           (s_le 80 (F2 12 5) →
             ∃ m, m < n ∧ Rn m k_Rd_readSum2 12 [(2, 10), (0, l1), (0, i_add l2 1), (3, 0)] [] F2 v F') ∧
            (s_lt (F2 12 5) 80 →
             ∃ m, m < n ∧ Rn m k_Rd_readSum2 12 [(2, 10), (0, l1), (0, i_add l2 1), (3, 0)] [] (fu (fu (fu F2 17 (F2 12 5) (F 10 7)) 18 (F2 12 5) 0) 12 5 (i_add (F2 12 5) 1)) v F')) ∧
          (n2 = 0 →
           v = (0, 0) ∧ F' = F2)))) := by
  have t := q_ok cv_322 ap_322 (hd := [(12, [1, 1, 1, 0])]) h rfl rfl
  exact t
-- TurnNet$Reader.readUnit(I)Z
theorem c_Rd_readUnit1 {a1 : Nat} {F : fx_F} {v : fx_V} {F' : fx_F} (h : Cl k_Rd_readUnit1 [(2, 10), (0, a1)] F v F') : ∃ n, Rn n k_Rd_readUnit1 0 [(2, 10), (0, a1), (3, 0), (3, 0)] [] F v F' := by
  obtain ⟨n, s, hs, h⟩ := h
  rw [sg_323] at hs
  cases hs
  exact ⟨n, h⟩
set_option maxRecDepth 40000 in
theorem q_Rd_readUnit1_0 {n : Nat} {a1 : Nat} {F : fx_F} {v : fx_V} {F' : fx_F} (h : Rn n k_Rd_readUnit1 0 [(2, 10), (0, a1), (3, 0), (3, 0)] [] F v F') :
  ∃ (n1 : Nat) (F1 : fx_F), Cl k_Rd_unitKind [(2, 10)] F (0, n1) F1 ∧
  (n1 ≠ 0 →
    (n1 ≠ 1 →
      (s_le 40 (F1 12 4) →
        ∃ (n2 : Nat) (F2 : fx_F), Cl k_Rd_fail [(2, 10), (0, 4)] F1 (0, n2) F2 ∧
         v = (0, n2) ∧ F' = F2) ∧
       (s_lt (F1 12 4) 40 →
        (s_le a1 5 →
          ∃ F2 : fx_F, Cl k_Rd_advance [(2, 10)] (fu F1 12 4 (i_add (F1 12 4) 1)) (2, 0) F2 ∧
           (n1 ≠ 40 →
             (n1 ≠ 5 →
               (s_le 80 (F2 12 5) →
                 v = (0, 1) ∧ F' = F2) ∧
                (s_lt (F2 12 5) 80 →
                 v = (0, 1) ∧ F' = (fu (fu (fu F2 17 (F2 12 5) n1) 18 (F2 12 5) (F1 10 8)) 12 5 (i_add (F2 12 5) 1)))) ∧
              (n1 = 5 →
               ∃ (n3 : Nat) (F3 : fx_F), Cl k_Rd_readUnit2 [(2, 10), (0, i_add a1 1)] F2 (0, n3) F3 ∧
                (n3 ≠ 0 →
                  (s_le 80 (F3 12 5) →
                    v = (0, 1) ∧ F' = F3) ∧
                   (s_lt (F3 12 5) 80 →
                    v = (0, 1) ∧ F' = (fu (fu (fu F3 17 (F3 12 5) n1) 18 (F3 12 5) (F1 10 8)) 12 5 (i_add (F3 12 5) 1)))) ∧
                 (n3 = 0 →
                  v = (0, 0) ∧ F' = F3))) ∧
            (n1 = 40 →
             ∃ (n3 : Nat) (F3 : fx_F), Cl k_Rd_readSum2 [(2, 10), (0, i_add a1 1)] F2 (0, n3) F3 ∧
              (n3 = 0 →
                v = (0, 0) ∧ F' = F3) ∧
               (n3 ≠ 0 →
                ∃ (n4 : Nat) (F4 : fx_F), Cl k_Rd_readSign [(2, 10), (0, 41)] F3 (0, n4) F4 ∧
                 (n4 = 0 →
                   v = (0, 0) ∧ F' = F4) ∧
                  (n4 ≠ 0 →
                   v = (0, 1) ∧ F' = F4)))) ∧
         (s_lt 5 a1 →
          ∃ (n2 : Nat) (F2 : fx_F), Cl k_Rd_fail [(2, 10), (0, 4)] F1 (0, n2) F2 ∧
           v = (0, n2) ∧ F' = F2))) ∧
     (n1 = 1 →
      (s_le (F1 10 8) 999 →
        (s_le 40 (F1 12 4) →
          ∃ (n2 : Nat) (F2 : fx_F), Cl k_Rd_fail [(2, 10), (0, 4)] F1 (0, n2) F2 ∧
           v = (0, n2) ∧ F' = F2) ∧
         (s_lt (F1 12 4) 40 →
          (s_le a1 5 →
            ∃ F2 : fx_F, Cl k_Rd_advance [(2, 10)] (fu F1 12 4 (i_add (F1 12 4) 1)) (2, 0) F2 ∧
             (n1 ≠ 40 →
               (n1 ≠ 5 →
                 (s_le 80 (F2 12 5) →
                   v = (0, 1) ∧ F' = F2) ∧
                  (s_lt (F2 12 5) 80 →
                   v = (0, 1) ∧ F' = (fu (fu (fu F2 17 (F2 12 5) n1) 18 (F2 12 5) (F1 10 8)) 12 5 (i_add (F2 12 5) 1)))) ∧
                (n1 = 5 →
                 ∃ (n3 : Nat) (F3 : fx_F), Cl k_Rd_readUnit2 [(2, 10), (0, i_add a1 1)] F2 (0, n3) F3 ∧
                  (n3 ≠ 0 →
                    (s_le 80 (F3 12 5) →
                      v = (0, 1) ∧ F' = F3) ∧
                     (s_lt (F3 12 5) 80 →
                      v = (0, 1) ∧ F' = (fu (fu (fu F3 17 (F3 12 5) n1) 18 (F3 12 5) (F1 10 8)) 12 5 (i_add (F3 12 5) 1)))) ∧
                   (n3 = 0 →
                    v = (0, 0) ∧ F' = F3))) ∧
              (n1 = 40 →
               ∃ (n3 : Nat) (F3 : fx_F), Cl k_Rd_readSum2 [(2, 10), (0, i_add a1 1)] F2 (0, n3) F3 ∧
                (n3 = 0 →
                  v = (0, 0) ∧ F' = F3) ∧
                 (n3 ≠ 0 →
                  ∃ (n4 : Nat) (F4 : fx_F), Cl k_Rd_readSign [(2, 10), (0, 41)] F3 (0, n4) F4 ∧
                   (n4 = 0 →
                     v = (0, 0) ∧ F' = F4) ∧
                    (n4 ≠ 0 →
                     v = (0, 1) ∧ F' = F4)))) ∧
           (s_lt 5 a1 →
            ∃ (n2 : Nat) (F2 : fx_F), Cl k_Rd_fail [(2, 10), (0, 4)] F1 (0, n2) F2 ∧
             v = (0, n2) ∧ F' = F2))) ∧
       (s_lt 999 (F1 10 8) →
        ∃ (n2 : Nat) (F2 : fx_F), Cl k_Rd_fail [(2, 10), (0, 2)] F1 (0, n2) F2 ∧
         v = (0, n2) ∧ F' = F2))) ∧
   (n1 = 0 →
    ∃ (n2 : Nat) (F2 : fx_F), Cl k_Rd_fail [(2, 10), (0, 1)] F1 (0, n2) F2 ∧
     v = (0, n2) ∧ F' = F2) := by
  have t := q_ok cv_323 ap_323 (hd := []) h rfl rfl
  exact t
-- TurnNet$Reader.readProduct(I)Z
theorem c_Rd_readProduct1 {a1 : Nat} {F : fx_F} {v : fx_V} {F' : fx_F} (h : Cl k_Rd_readProduct1 [(2, 10), (0, a1)] F v F') : ∃ n, Rn n k_Rd_readProduct1 0 [(2, 10), (0, a1), (3, 0), (3, 0)] [] F v F' := by
  obtain ⟨n, s, hs, h⟩ := h
  rw [sg_324] at hs
  cases hs
  exact ⟨n, h⟩
set_option maxRecDepth 40000 in
theorem q_Rd_readProduct1_0 {n : Nat} {a1 : Nat} {F : fx_F} {v : fx_V} {F' : fx_F} (h : Rn n k_Rd_readProduct1 0 [(2, 10), (0, a1), (3, 0), (3, 0)] [] F v F') :
  ∃ (n1 : Nat) (F1 : fx_F), Cl k_Rd_readUnit1 [(2, 10), (0, a1)] F (0, n1) F1 ∧
  (n1 ≠ 0 →
    ∃ m, m < n ∧ Rn m k_Rd_readProduct1 12 [(2, 10), (0, a1), (0, 0), (3, 0)] [] F1 v F') ∧
   (n1 = 0 →
    v = (0, 0) ∧ F' = F1) := by
  have t := q_ok cv_324 ap_324 (hd := [(12, [1, 1, 1, 0])]) h rfl rfl
  exact t
set_option maxRecDepth 40000 in
theorem q_Rd_readProduct1_12 {n : Nat} {l1 l2 : Nat} {F : fx_F} {v : fx_V} {F' : fx_F} (h : Rn n k_Rd_readProduct1 12 [(2, 10), (0, l1), (0, l2), (3, 0)] [] F v F') :
  (s_le 800 l2 →
   v = (0, 1) ∧ F' = F) ∧
  (s_lt l2 800 →
   ((F 10 7) = 42 →
     ∃ F1 : fx_F, Cl k_Rd_advance [(2, 10)] F (2, 0) F1 ∧
      ∃ (n2 : Nat) (F2 : fx_F), Cl k_Rd_readUnit1 [(2, 10), (0, l1)] F1 (0, n2) F2 ∧
       (n2 ≠ 0 →
         (s_le 80 (F2 12 5) →
           ∃ m, m < n ∧ Rn m k_Rd_readProduct1 12 [(2, 10), (0, l1), (0, i_add l2 1), (3, 0)] [] F2 v F') ∧
          (s_lt (F2 12 5) 80 →
           ∃ m, m < n ∧ Rn m k_Rd_readProduct1 12 [(2, 10), (0, l1), (0, i_add l2 1), (3, 0)] [] (fu (fu (fu F2 17 (F2 12 5) (F 10 7)) 18 (F2 12 5) 0) 12 5 (i_add (F2 12 5) 1)) v F')) ∧
        (n2 = 0 →
         v = (0, 0) ∧ F' = F2)) ∧
    ((F 10 7) ≠ 42 →
     ((F 10 7) = 47 →
       ∃ F1 : fx_F, Cl k_Rd_advance [(2, 10)] F (2, 0) F1 ∧
        ∃ (n2 : Nat) (F2 : fx_F), Cl k_Rd_readUnit1 [(2, 10), (0, l1)] F1 (0, n2) F2 ∧
         (n2 ≠ 0 →
           (s_le 80 (F2 12 5) →
             ∃ m, m < n ∧ Rn m k_Rd_readProduct1 12 [(2, 10), (0, l1), (0, i_add l2 1), (3, 0)] [] F2 v F') ∧
            (s_lt (F2 12 5) 80 →
             ∃ m, m < n ∧ Rn m k_Rd_readProduct1 12 [(2, 10), (0, l1), (0, i_add l2 1), (3, 0)] [] (fu (fu (fu F2 17 (F2 12 5) (F 10 7)) 18 (F2 12 5) 0) 12 5 (i_add (F2 12 5) 1)) v F')) ∧
          (n2 = 0 →
           v = (0, 0) ∧ F' = F2)) ∧
      ((F 10 7) ≠ 47 →
       ((F 10 7) ≠ 37 →
         v = (0, 1) ∧ F' = F) ∧
        ((F 10 7) = 37 →
         ∃ F1 : fx_F, Cl k_Rd_advance [(2, 10)] F (2, 0) F1 ∧
          ∃ (n2 : Nat) (F2 : fx_F), Cl k_Rd_readUnit1 [(2, 10), (0, l1)] F1 (0, n2) F2 ∧
           (n2 ≠ 0 →
             (s_le 80 (F2 12 5) →
               ∃ m, m < n ∧ Rn m k_Rd_readProduct1 12 [(2, 10), (0, l1), (0, i_add l2 1), (3, 0)] [] F2 v F') ∧
              (s_lt (F2 12 5) 80 →
               ∃ m, m < n ∧ Rn m k_Rd_readProduct1 12 [(2, 10), (0, l1), (0, i_add l2 1), (3, 0)] [] (fu (fu (fu F2 17 (F2 12 5) (F 10 7)) 18 (F2 12 5) 0) 12 5 (i_add (F2 12 5) 1)) v F')) ∧
            (n2 = 0 →
             v = (0, 0) ∧ F' = F2))))) := by
  have t := q_ok cv_324 ap_324 (hd := [(12, [1, 1, 1, 0])]) h rfl rfl
  exact t
