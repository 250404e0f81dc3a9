-- TurnNet$Graph.spread(LTurnNet$Net;II[II)V
theorem c_Gr_spread {a0 a1 a2 a3 a4 : Nat} {F : fx_F} {v : fx_V} {F' : fx_F} (h : Cl k_Gr_spread [(2, a0), (0, a1), (0, a2), (2, a3), (0, a4)] F v F') : ∃ n, Rn n k_Gr_spread 0 [(2, a0), (0, a1), (0, a2), (2, a3), (0, a4), (3, 0), (3, 0), (3, 0), (3, 0), (3, 0)] [] F v F' := by
  obtain ⟨n, s, hs, h⟩ := h
  rw [sg_78] at hs
  cases hs
  exact ⟨n, h⟩
set_option maxRecDepth 40000 in
theorem q_Gr_spread_0 {n : Nat} {a0 a1 a2 a3 a4 : Nat} {F : fx_F} {v : fx_V} {F' : fx_F} (h : Rn n k_Gr_spread 0 [(2, a0), (0, a1), (0, a2), (2, a3), (0, a4), (3, 0), (3, 0), (3, 0), (3, 0), (3, 0)] [] F v F') :
  (s_lt a2 0 →
   v = (2, 0) ∧ F' = F) ∧
  (s_le 0 a2 →
   (s_le (F a0 0) a2 →
     v = (2, 0) ∧ F' = F) ∧
    (s_lt a2 (F a0 0) →
     ∃ m, m < n ∧ Rn m k_Gr_spread 12 [(2, a0), (0, a1), (0, a2), (2, a3), (0, a4), (0, 0), (3, 0), (3, 0), (3, 0), (3, 0)] [] F v F')) := by
  have t := q_ok cv_78 ap_78 (hd := [(12, [1, 1, 1, 1, 1, 1, 0, 0, 0, 0]), (48, [1, 1, 0, 1, 1, 1, 1, 0, 0, 0]), (68, [1, 1, 0, 1, 1, 1, 1, 1, 0, 0])]) h rfl rfl
  exact t
set_option maxRecDepth 40000 in
theorem q_Gr_spread_12 {n : Nat} {p l1 l2 l3 l4 l5 : Nat} {F : fx_F} {v : fx_V} {F' : fx_F} (h : Rn n k_Gr_spread 12 [(2, p), (0, l1), (0, l2), (2, l3), (0, l4), (0, l5), (3, 0), (3, 0), (3, 0), (3, 0)] [] F v F') :
  (s_le (F p 0) l5 →
   ∃ m, m < n ∧ Rn m k_Gr_spread 48 [(2, p), (0, l1), (3, 0), (2, l3), (0, l4), (0, 1), (0, 1), (3, 0), (3, 0), (3, 0)] [] (fu F l3 (i_add l4 l2) 0) v F') ∧
  (s_lt l5 (F p 0) →
   ∃ m, m < n ∧ Rn m k_Gr_spread 12 [(2, p), (0, l1), (0, l2), (2, l3), (0, l4), (0, i_add l5 1), (3, 0), (3, 0), (3, 0), (3, 0)] [] (fu F l3 (i_add l4 l5) 4294967295) v F') := by
  have t := q_ok cv_78 ap_78 (hd := [(12, [1, 1, 1, 1, 1, 1, 0, 0, 0, 0]), (48, [1, 1, 0, 1, 1, 1, 1, 0, 0, 0]), (68, [1, 1, 0, 1, 1, 1, 1, 1, 0, 0])]) h rfl rfl
  exact t
set_option maxRecDepth 40000 in
theorem q_Gr_spread_48 {n : Nat} {p l1 l3 l4 l5 l6 : Nat} {F : fx_F} {v : fx_V} {F' : fx_F} (h : Rn n k_Gr_spread 48 [(2, p), (0, l1), (3, 0), (2, l3), (0, l4), (0, l5), (0, l6), (3, 0), (3, 0), (3, 0)] [] F v F') :
  (s_le (F p 0) l6 →
   v = (2, 0) ∧ F' = F) ∧
  (s_lt l6 (F p 0) →
   (l5 = 0 →
     v = (2, 0) ∧ F' = F) ∧
    (l5 ≠ 0 →
     ∃ m, m < n ∧ Rn m k_Gr_spread 68 [(2, p), (0, l1), (3, 0), (2, l3), (0, l4), (0, 0), (0, l6), (0, 0), (3, 0), (3, 0)] [] F v F')) := by
  have t := q_ok cv_78 ap_78 (hd := [(12, [1, 1, 1, 1, 1, 1, 0, 0, 0, 0]), (48, [1, 1, 0, 1, 1, 1, 1, 0, 0, 0]), (68, [1, 1, 0, 1, 1, 1, 1, 1, 0, 0])]) h rfl rfl
  exact t
set_option maxRecDepth 40000 in
theorem q_Gr_spread_68 {n : Nat} {p l1 l3 l4 l5 l6 l7 : Nat} {F : fx_F} {v : fx_V} {F' : fx_F} (h : Rn n k_Gr_spread 68 [(2, p), (0, l1), (3, 0), (2, l3), (0, l4), (0, l5), (0, l6), (0, l7), (3, 0), (3, 0)] [] F v F') :
  (s_le (i_mul 2 (F p 1)) l7 →
   ∃ m, m < n ∧ Rn m k_Gr_spread 48 [(2, p), (0, l1), (3, 0), (2, l3), (0, l4), (0, l5), (0, i_add l6 1), (3, 0), (3, 0), (3, 0)] [] F v F') ∧
  (s_lt l7 (i_mul 2 (F p 1)) →
   ((F l3 (i_add l4 (F (p + 1) l7))) ≠ (i_sub l6 1) →
     ∃ m, m < n ∧ Rn m k_Gr_spread 68 [(2, p), (0, l1), (3, 0), (2, l3), (0, l4), (0, l5), (0, l6), (0, i_add l7 1), (3, 0), (3, 0)] [] F v F') ∧
    ((F l3 (i_add l4 (F (p + 1) l7))) = (i_sub l6 1) →
     ((F l3 (i_add l4 (F (p + 2) l7))) ≠ 4294967295 →
       ∃ m, m < n ∧ Rn m k_Gr_spread 68 [(2, p), (0, l1), (3, 0), (2, l3), (0, l4), (0, l5), (0, l6), (0, i_add l7 1), (3, 0), (3, 0)] [] F v F') ∧
      ((F l3 (i_add l4 (F (p + 2) l7))) = 4294967295 →
       ((i_and (i_shr l1 (i_shr l7 1)) 1) ≠ 1 →
         ∃ m, m < n ∧ Rn m k_Gr_spread 68 [(2, p), (0, l1), (3, 0), (2, l3), (0, l4), (0, l5), (0, l6), (0, i_add l7 1), (3, 0), (3, 0)] [] F v F') ∧
        ((i_and (i_shr l1 (i_shr l7 1)) 1) = 1 →
         ∃ m, m < n ∧ Rn m k_Gr_spread 68 [(2, p), (0, l1), (3, 0), (2, l3), (0, l4), (0, 1), (0, l6), (0, i_add l7 1), (3, 0), (3, 0)] [] (fu F l3 (i_add l4 (F (p + 2) l7)) l6) v F')))) := by
  have t := q_ok cv_78 ap_78 (hd := [(12, [1, 1, 1, 1, 1, 1, 0, 0, 0, 0]), (48, [1, 1, 0, 1, 1, 1, 1, 0, 0, 0]), (68, [1, 1, 0, 1, 1, 1, 1, 1, 0, 0])]) h rfl rfl
  exact t
-- TurnNet$History.stepBack(LTurnNet$State;)LTurnNet$State;
theorem c_Hi_stepBack {a1 : Nat} {F : fx_F} {v : fx_V} {F' : fx_F} (h : Cl k_Hi_stepBack [(2, 51), (2, a1)] F v F') : ∃ n, Rn n k_Hi_stepBack 0 [(2, 51), (2, a1)] [] F v F' := by
  obtain ⟨n, s, hs, h⟩ := h
  rw [sg_79] at hs
  cases hs
  exact ⟨n, h⟩
set_option maxRecDepth 40000 in
theorem q_Hi_stepBack_0 {n : Nat} {a1 : Nat} {F : fx_F} {v : fx_V} {F' : fx_F} (h : Rn n k_Hi_stepBack 0 [(2, 51), (2, a1)] [] F v F') :
  v = (2, F 52 (i_rem (i_add (F 51 1) (i_sub (F 51 2) 1)) 20)) ∧ F' = (fu (fu (fu F 51 2 (i_sub (F 51 2) 1)) 51 3 (i_add (F 51 3) 1)) 52 (i_rem (i_add (F 51 1) (i_sub (F 51 2) 1)) 20) a1) := by
  have t := q_ok cv_79 ap_79 (hd := []) h rfl rfl
  exact t
-- TurnNet$History.stepOn(LTurnNet$State;)LTurnNet$State;
theorem c_Hi_stepOn {a1 : Nat} {F : fx_F} {v : fx_V} {F' : fx_F} (h : Cl k_Hi_stepOn [(2, 51), (2, a1)] F v F') : ∃ n, Rn n k_Hi_stepOn 0 [(2, 51), (2, a1), (3, 0)] [] F v F' := by
  obtain ⟨n, s, hs, h⟩ := h
  rw [sg_80] at hs
  cases hs
  exact ⟨n, h⟩
set_option maxRecDepth 40000 in
theorem q_Hi_stepOn_0 {n : Nat} {a1 : Nat} {F : fx_F} {v : fx_V} {F' : fx_F} (h : Rn n k_Hi_stepOn 0 [(2, 51), (2, a1), (3, 0)] [] F v F') :
  v = (2, F 52 (i_rem (i_add (F 51 1) (F 51 2)) 20)) ∧ F' = (fu (fu (fu F 52 (i_rem (i_add (F 51 1) (F 51 2)) 20) a1) 51 2 (i_add (F 51 2) 1)) 51 3 (i_sub (F 51 3) 1)) := by
  have t := q_ok cv_80 ap_80 (hd := []) h rfl rfl
  exact t
-- TurnNet$Net.hasChannel(I)Z
theorem c_Net_hasChannel {p a1 : Nat} {F : fx_F} {v : fx_V} {F' : fx_F} (h : Cl k_Net_hasChannel [(2, p), (0, a1)] F v F') : ∃ n, Rn n k_Net_hasChannel 0 [(2, p), (0, a1)] [] F v F' := by
  obtain ⟨n, s, hs, h⟩ := h
  rw [sg_82] at hs
  cases hs
  exact ⟨n, h⟩
set_option maxRecDepth 40000 in
theorem q_Net_hasChannel_0 {n : Nat} {p a1 : Nat} {F : fx_F} {v : fx_V} {F' : fx_F} (h : Rn n k_Net_hasChannel 0 [(2, p), (0, a1)] [] F v F') :
  (s_lt a1 0 →
   v = (0, 0) ∧ F' = F) ∧
  (s_le 0 a1 →
   (s_le (i_mul 2 (F p 1)) a1 →
     v = (0, 0) ∧ F' = F) ∧
    (s_lt a1 (i_mul 2 (F p 1)) →
     v = (0, 1) ∧ F' = F)) := by
  have t := q_ok cv_82 ap_82 (hd := []) h rfl rfl
  exact t
-- TurnNet$Net.joins(II)Z
theorem c_Net_joins {p a1 a2 : Nat} {F : fx_F} {v : fx_V} {F' : fx_F} (h : Cl k_Net_joins [(2, p), (0, a1), (0, a2)] F v F') : ∃ n, Rn n k_Net_joins 0 [(2, p), (0, a1), (0, a2), (3, 0)] [] F v F' := by
  obtain ⟨n, s, hs, h⟩ := h
  rw [sg_83] at hs
  cases hs
  exact ⟨n, h⟩
set_option maxRecDepth 40000 in
theorem q_Net_joins_0 {n : Nat} {p a1 a2 : Nat} {F : fx_F} {v : fx_V} {F' : fx_F} (h : Rn n k_Net_joins 0 [(2, p), (0, a1), (0, a2), (3, 0)] [] F v F') :
  ∃ m, m < n ∧ Rn m k_Net_joins 2 [(2, p), (0, a1), (0, a2), (0, 0)] [] F v F' := by
  have t := q_ok cv_83 ap_83 (hd := [(2, [1, 1, 1, 1])]) h rfl rfl
  exact t
set_option maxRecDepth 40000 in
theorem q_Net_joins_2 {n : Nat} {p l1 l2 l3 : Nat} {F : fx_F} {v : fx_V} {F' : fx_F} (h : Rn n k_Net_joins 2 [(2, p), (0, l1), (0, l2), (0, l3)] [] F v F') :
  (s_le (i_mul 2 (F p 1)) l3 →
   v = (0, 0) ∧ F' = F) ∧
  (s_lt l3 (i_mul 2 (F p 1)) →
   ((F (p + 1) l3) ≠ l1 →
     ∃ m, m < n ∧ Rn m k_Net_joins 2 [(2, p), (0, l1), (0, l2), (0, i_add l3 1)] [] F v F') ∧
    ((F (p + 1) l3) = l1 →
     ((F (p + 2) l3) ≠ l2 →
       ∃ m, m < n ∧ Rn m k_Net_joins 2 [(2, p), (0, l1), (0, l2), (0, i_add l3 1)] [] F v F') ∧
      ((F (p + 2) l3) = l2 →
       v = (0, 1) ∧ F' = F))) := by
  have t := q_ok cv_83 ap_83 (hd := [(2, [1, 1, 1, 1])]) h rfl rfl
  exact t
-- TurnNet$Net.listChannels()V
theorem c_Net_listChannels {p : Nat} {F : fx_F} {v : fx_V} {F' : fx_F} (h : Cl k_Net_listChannels [(2, p)] F v F') : ∃ n, Rn n k_Net_listChannels 0 [(2, p), (3, 0), (3, 0), (3, 0)] [] F v F' := by
  obtain ⟨n, s, hs, h⟩ := h
  rw [sg_84] at hs
  cases hs
  exact ⟨n, h⟩
set_option maxRecDepth 40000 in
theorem q_Net_listChannels_0 {n : Nat} {p : Nat} {F : fx_F} {v : fx_V} {F' : fx_F} (h : Rn n k_Net_listChannels 0 [(2, p), (3, 0), (3, 0), (3, 0)] [] F v F') :
  ∃ m, m < n ∧ Rn m k_Net_listChannels 4 [(2, p), (0, 0), (0, 0), (3, 0)] [] F v F' := by
  have t := q_ok cv_84 ap_84 (hd := [(4, [1, 1, 1, 0]), (21, [1, 1, 1, 1])]) h rfl rfl
  exact t
set_option maxRecDepth 40000 in
theorem q_Net_listChannels_4 {n : Nat} {p l1 l2 : Nat} {F : fx_F} {v : fx_V} {F' : fx_F} (h : Rn n k_Net_listChannels 4 [(2, p), (0, l1), (0, l2), (3, 0)] [] F v F') :
  (s_le (F p 0) l2 →
   v = (2, 0) ∧ F' = (fu F (p + 3) (F p 0) l1)) ∧
  (s_lt l2 (F p 0) →
   ∃ m, m < n ∧ Rn m k_Net_listChannels 21 [(2, p), (0, l1), (0, l2), (0, 0)] [] (fu F (p + 3) l2 l1) v F') := by
  have t := q_ok cv_84 ap_84 (hd := [(4, [1, 1, 1, 0]), (21, [1, 1, 1, 1])]) h rfl rfl
  exact t
set_option maxRecDepth 40000 in
theorem q_Net_listChannels_21 {n : Nat} {p l1 l2 l3 : Nat} {F : fx_F} {v : fx_V} {F' : fx_F} (h : Rn n k_Net_listChannels 21 [(2, p), (0, l1), (0, l2), (0, l3)] [] F v F') :
  (s_le (i_mul 2 (F p 1)) l3 →
   ∃ m, m < n ∧ Rn m k_Net_listChannels 4 [(2, p), (0, l1), (0, i_add l2 1), (3, 0)] [] F v F') ∧
  (s_lt l3 (i_mul 2 (F p 1)) →
   ((F (p + 1) l3) ≠ l2 →
     ∃ m, m < n ∧ Rn m k_Net_listChannels 21 [(2, p), (0, l1), (0, l2), (0, i_add l3 1)] [] F v F') ∧
    ((F (p + 1) l3) = l2 →
     ∃ m, m < n ∧ Rn m k_Net_listChannels 21 [(2, p), (0, i_add l1 1), (0, l2), (0, i_add l3 1)] [] (fu F (p + 4) l1 l3) v F')) := by
  have t := q_ok cv_84 ap_84 (hd := [(4, [1, 1, 1, 0]), (21, [1, 1, 1, 1])]) h rfl rfl
  exact t
-- TurnNet$Order.countAbove(I)I
theorem c_Or_countAbove {a1 : Nat} {F : fx_F} {v : fx_V} {F' : fx_F} (h : Cl k_Or_countAbove [(2, 19), (0, a1)] F v F') : ∃ n, Rn n k_Or_countAbove 0 [(2, 19), (0, a1), (3, 0), (3, 0)] [] F v F' := by
  obtain ⟨n, s, hs, h⟩ := h
  rw [sg_86] at hs
  cases hs
  exact ⟨n, h⟩
set_option maxRecDepth 40000 in
theorem q_Or_countAbove_0 {n : Nat} {a1 : Nat} {F : fx_F} {v : fx_V} {F' : fx_F} (h : Rn n k_Or_countAbove 0 [(2, 19), (0, a1), (3, 0), (3, 0)] [] F v F') :
  ∃ m, m < n ∧ Rn m k_Or_countAbove 4 [(2, 19), (0, a1), (0, 0), (0, 0)] [] F v F' := by
  have t := q_ok cv_86 ap_86 (hd := [(4, [1, 1, 1, 1])]) h rfl rfl
  exact t
set_option maxRecDepth 40000 in
theorem q_Or_countAbove_4 {n : Nat} {l1 l2 l3 : Nat} {F : fx_F} {v : fx_V} {F' : fx_F} (h : Rn n k_Or_countAbove 4 [(2, 19), (0, l1), (0, l2), (0, l3)] [] F v F') :
  (s_le (F 3 0) l3 →
   v = (0, l2) ∧ F' = F) ∧
  (s_lt l3 (F 3 0) →
   (s_lt (F 22 l3) (F 22 l1) →
     ∃ m, m < n ∧ Rn m k_Or_countAbove 4 [(2, 19), (0, l1), (0, i_add l2 1), (0, i_add l3 1)] [] F v F') ∧
    (s_le (F 22 l1) (F 22 l3) →
     ((F 22 l3) ≠ (F 22 l1) →
       ∃ m, m < n ∧ Rn m k_Or_countAbove 4 [(2, 19), (0, l1), (0, l2), (0, i_add l3 1)] [] F v F') ∧
      ((F 22 l3) = (F 22 l1) →
       (s_le l1 l3 →
         ∃ m, m < n ∧ Rn m k_Or_countAbove 4 [(2, 19), (0, l1), (0, l2), (0, i_add l3 1)] [] F v F') ∧
        (s_lt l3 l1 →
         ∃ m, m < n ∧ Rn m k_Or_countAbove 4 [(2, 19), (0, l1), (0, i_add l2 1), (0, i_add l3 1)] [] F v F')))) := by
  have t := q_ok cv_86 ap_86 (hd := [(4, [1, 1, 1, 1])]) h rfl rfl
  exact t
-- TurnNet$Order.countLinks(I)V
theorem c_Or_countLinks {a1 : Nat} {F : fx_F} {v : fx_V} {F' : fx_F} (h : Cl k_Or_countLinks [(2, 19), (0, a1)] F v F') : ∃ n, Rn n k_Or_countLinks 0 [(2, 19), (0, a1), (3, 0)] [] F v F' := by
  obtain ⟨n, s, hs, h⟩ := h
  rw [sg_87] at hs
  cases hs
  exact ⟨n, h⟩
set_option maxRecDepth 40000 in
theorem q_Or_countLinks_0 {n : Nat} {a1 : Nat} {F : fx_F} {v : fx_V} {F' : fx_F} (h : Rn n k_Or_countLinks 0 [(2, 19), (0, a1), (3, 0)] [] F v F') :
  ∃ m, m < n ∧ Rn m k_Or_countLinks 2 [(2, 19), (0, a1), (0, 0)] [] F v F' := by
  have t := q_ok cv_87 ap_87 (hd := [(2, [1, 1, 1]), (28, [1, 1, 1])]) h rfl rfl
  exact t
set_option maxRecDepth 40000 in
theorem q_Or_countLinks_2 {n : Nat} {l1 l2 : Nat} {F : fx_F} {v : fx_V} {F' : fx_F} (h : Rn n k_Or_countLinks 2 [(2, 19), (0, l1), (0, l2)] [] F v F') :
  (s_le (F 3 0) l2 →
   ∃ m, m < n ∧ Rn m k_Or_countLinks 28 [(2, 19), (0, l1), (0, 0)] [] F v F') ∧
  (s_lt l2 (F 3 0) →
   ∃ m, m < n ∧ Rn m k_Or_countLinks 2 [(2, 19), (0, l1), (0, i_add l2 1)] [] (fu F 21 l2 0) v F') := by
  have t := q_ok cv_87 ap_87 (hd := [(2, [1, 1, 1]), (28, [1, 1, 1])]) h rfl rfl
  exact t
set_option maxRecDepth 40000 in
theorem q_Or_countLinks_28 {n : Nat} {l1 l2 : Nat} {F : fx_F} {v : fx_V} {F' : fx_F} (h : Rn n k_Or_countLinks 28 [(2, 19), (0, l1), (0, l2)] [] F v F') :
  (s_le (i_mul 2 (F 3 1)) l2 →
   v = (2, 0) ∧ F' = F) ∧
  (s_lt l2 (i_mul 2 (F 3 1)) →
   ((i_and (i_shr l1 (i_shr l2 1)) 1) ≠ 1 →
     ∃ m, m < n ∧ Rn m k_Or_countLinks 28 [(2, 19), (0, l1), (0, i_add l2 1)] [] F v F') ∧
    ((i_and (i_shr l1 (i_shr l2 1)) 1) = 1 →
     ∃ m, m < n ∧ Rn m k_Or_countLinks 28 [(2, 19), (0, l1), (0, i_add l2 1)] [] (fu F 21 (F 4 l2) (i_add (F 21 (F 4 l2)) 1)) v F')) := by
  have t := q_ok cv_87 ap_87 (hd := [(2, [1, 1, 1]), (28, [1, 1, 1])]) h rfl rfl
  exact t
-- TurnNet$Order.evaluate(I)I
theorem c_Or_evaluate {a1 : Nat} {F : fx_F} {v : fx_V} {F' : fx_F} (h : Cl k_Or_evaluate [(2, 19), (0, a1)] F v F') : ∃ n, Rn n k_Or_evaluate 0 [(2, 19), (0, a1), (3, 0), (3, 0), (3, 0)] [] F v F' := by
  obtain ⟨n, s, hs, h⟩ := h
  rw [sg_88] at hs
  cases hs
  exact ⟨n, h⟩
set_option maxRecDepth 40000 in
theorem q_Or_evaluate_0 {n : Nat} {a1 : Nat} {F : fx_F} {v : fx_V} {F' : fx_F} (h : Rn n k_Or_evaluate 0 [(2, 19), (0, a1), (3, 0), (3, 0), (3, 0)] [] F v F') :
  ∃ m, m < n ∧ Rn m k_Or_evaluate 4 [(2, 19), (0, a1), (0, 0), (0, 0), (3, 0)] [] F v F' := by
  have t := q_ok cv_88 ap_88 (hd := [(4, [1, 1, 1, 1, 0])]) h rfl rfl
  exact t
set_option maxRecDepth 40000 in
theorem q_Or_evaluate_4 {n : Nat} {l1 l2 l3 : Nat} {F : fx_F} {v : fx_V} {F' : fx_F} (h : Rn n k_Or_evaluate 4 [(2, 19), (0, l1), (0, l2), (0, l3), (3, 0)] [] F v F') :
  (s_le (F 3 5) l3 →
   v = (0, F 23 0) ∧ F' = F) ∧
  (s_lt l3 (F 3 5) →
   ((F 8 l3) ≠ 5 →
     (s_le 5 (F 8 l3) →
       (s_lt l2 2 →
         ∃ m, m < n ∧ Rn m k_Or_evaluate 4 [(2, 19), (0, l1), (0, l2), (0, i_add l3 1), (3, 0)] [] F v F') ∧
        (s_le 2 l2 →
         (((F 8 l3) < 42 ∨ 48 ≤ (F 8 l3)) →
           ((F 23 (i_add l2 4294967295)) ≠ 0 →
             ∃ m, m < n ∧ Rn m k_Or_evaluate 4 [(2, 19), (0, l1), (0, i_add l2 4294967295), (0, i_add l3 1), (3, 0)] [] (fu F 23 (i_sub (i_add l2 4294967295) 1) (i_rem (F 23 (i_sub (i_add l2 4294967295) 1)) (F 23 (i_add l2 4294967295)))) v F') ∧
            ((F 23 (i_add l2 4294967295)) = 0 →
             ∃ m, m < n ∧ Rn m k_Or_evaluate 4 [(2, 19), (0, l1), (0, i_add l2 4294967295), (0, i_add l3 1), (3, 0)] [] (fu F 23 (i_sub (i_add l2 4294967295) 1) 0) v F')) ∧
          (((F 8 l3) = 42 →
           ∃ m, m < n ∧ Rn m k_Or_evaluate 4 [(2, 19), (0, l1), (0, i_add l2 4294967295), (0, i_add l3 1), (3, 0)] [] (fu F 23 (i_sub (i_add l2 4294967295) 1) (i_mul (F 23 (i_sub (i_add l2 4294967295) 1)) (F 23 (i_add l2 4294967295)))) v F') ∧
          (((F 8 l3) = 43 →
           ∃ m, m < n ∧ Rn m k_Or_evaluate 4 [(2, 19), (0, l1), (0, i_add l2 4294967295), (0, i_add l3 1), (3, 0)] [] (fu F 23 (i_sub (i_add l2 4294967295) 1) (i_add (F 23 (i_sub (i_add l2 4294967295) 1)) (F 23 (i_add l2 4294967295)))) v F') ∧
          (((F 8 l3) = 44 →
           ((F 23 (i_add l2 4294967295)) ≠ 0 →
             ∃ m, m < n ∧ Rn m k_Or_evaluate 4 [(2, 19), (0, l1), (0, i_add l2 4294967295), (0, i_add l3 1), (3, 0)] [] (fu F 23 (i_sub (i_add l2 4294967295) 1) (i_rem (F 23 (i_sub (i_add l2 4294967295) 1)) (F 23 (i_add l2 4294967295)))) v F') ∧
            ((F 23 (i_add l2 4294967295)) = 0 →
             ∃ m, m < n ∧ Rn m k_Or_evaluate 4 [(2, 19), (0, l1), (0, i_add l2 4294967295), (0, i_add l3 1), (3, 0)] [] (fu F 23 (i_sub (i_add l2 4294967295) 1) 0) v F')) ∧
          (((F 8 l3) = 45 →
           ∃ m, m < n ∧ Rn m k_Or_evaluate 4 [(2, 19), (0, l1), (0, i_add l2 4294967295), (0, i_add l3 1), (3, 0)] [] (fu F 23 (i_sub (i_add l2 4294967295) 1) (i_sub (F 23 (i_sub (i_add l2 4294967295) 1)) (F 23 (i_add l2 4294967295)))) v F') ∧
          (((F 8 l3) = 46 →
           ((F 23 (i_add l2 4294967295)) ≠ 0 →
             ∃ m, m < n ∧ Rn m k_Or_evaluate 4 [(2, 19), (0, l1), (0, i_add l2 4294967295), (0, i_add l3 1), (3, 0)] [] (fu F 23 (i_sub (i_add l2 4294967295) 1) (i_rem (F 23 (i_sub (i_add l2 4294967295) 1)) (F 23 (i_add l2 4294967295)))) v F') ∧
            ((F 23 (i_add l2 4294967295)) = 0 →
             ∃ m, m < n ∧ Rn m k_Or_evaluate 4 [(2, 19), (0, l1), (0, i_add l2 4294967295), (0, i_add l3 1), (3, 0)] [] (fu F 23 (i_sub (i_add l2 4294967295) 1) 0) v F')) ∧
          (((F 8 l3) = 47 →
           ((F 23 (i_add l2 4294967295)) ≠ 0 →
             ∃ m, m < n ∧ Rn m k_Or_evaluate 4 [(2, 19), (0, l1), (0, i_add l2 4294967295), (0, i_add l3 1), (3, 0)] [] (fu F 23 (i_sub (i_add l2 4294967295) 1) (i_div (F 23 (i_sub (i_add l2 4294967295) 1)) (F 23 (i_add l2 4294967295)))) v F') ∧
            ((F 23 (i_add l2 4294967295)) = 0 →
             ∃ m, m < n ∧ Rn m k_Or_evaluate 4 [(2, 19), (0, l1), (0, i_add l2 4294967295), (0, i_add l3 1), (3, 0)] [] (fu F 23 (i_sub (i_add l2 4294967295) 1) 0) v F')) ∧ True)))))))) ∧
      (s_lt (F 8 l3) 5 →
       (s_le (fx_len fx_w 23) l2 →
         ∃ m, m < n ∧ Rn m k_Or_evaluate 4 [(2, 19), (0, l1), (0, l2), (0, i_add l3 1), (3, 0)] [] F v F') ∧
        (s_lt l2 (fx_len fx_w 23) →
         (((F 8 l3) < 2 ∨ 5 ≤ (F 8 l3)) →
           ∃ m, m < n ∧ Rn m k_Or_evaluate 4 [(2, 19), (0, l1), (0, i_add l2 1), (0, i_add l3 1), (3, 0)] [] (fu F 23 l2 (F 9 l3)) v F') ∧
          (((F 8 l3) = 2 →
           ∃ m, m < n ∧ Rn m k_Or_evaluate 4 [(2, 19), (0, l1), (0, i_add l2 1), (0, i_add l3 1), (3, 0)] [] (fu F 23 l2 (F 20 l1)) v F') ∧
          (((F 8 l3) = 3 →
           ∃ m, m < n ∧ Rn m k_Or_evaluate 4 [(2, 19), (0, l1), (0, i_add l2 1), (0, i_add l3 1), (3, 0)] [] (fu F 23 l2 l1) v F') ∧
          (((F 8 l3) = 4 →
           ∃ m, m < n ∧ Rn m k_Or_evaluate 4 [(2, 19), (0, l1), (0, i_add l2 1), (0, i_add l3 1), (3, 0)] [] (fu F 23 l2 (F 21 l1)) v F') ∧ True)))))) ∧
    ((F 8 l3) = 5 →
     (s_lt l2 1 →
       ∃ m, m < n ∧ Rn m k_Or_evaluate 4 [(2, 19), (0, l1), (0, l2), (0, i_add l3 1), (3, 0)] [] F v F') ∧
      (s_le 1 l2 →
       ∃ m, m < n ∧ Rn m k_Or_evaluate 4 [(2, 19), (0, l1), (0, l2), (0, i_add l3 1), (3, 0)] [] (fu F 23 (i_sub l2 1) (i_neg (F 23 (i_sub l2 1)))) v F'))) := by
  have t := q_ok cv_88 ap_88 (hd := [(4, [1, 1, 1, 1, 0])]) h rfl rfl
  exact t
-- TurnNet$Order.upEnds()I
theorem c_Or_upEnds {F : fx_F} {v : fx_V} {F' : fx_F} (h : Cl k_Or_upEnds [(2, 19)] F v F') : ∃ n, Rn n k_Or_upEnds 0 [(2, 19), (3, 0), (3, 0)] [] F v F' := by
  obtain ⟨n, s, hs, h⟩ := h
  rw [sg_89] at hs
  cases hs
  exact ⟨n, h⟩
set_option maxRecDepth 40000 in
theorem q_Or_upEnds_0 {n : Nat} {F : fx_F} {v : fx_V} {F' : fx_F} (h : Rn n k_Or_upEnds 0 [(2, 19), (3, 0), (3, 0)] [] F v F') :
  ∃ m, m < n ∧ Rn m k_Or_upEnds 4 [(2, 19), (0, 0), (0, 0)] [] F v F' := by
  have t := q_ok cv_89 ap_89 (hd := [(4, [1, 1, 1])]) h rfl rfl
  exact t
set_option maxRecDepth 40000 in
theorem q_Or_upEnds_4 {n : Nat} {l1 l2 : Nat} {F : fx_F} {v : fx_V} {F' : fx_F} (h : Rn n k_Or_upEnds 4 [(2, 19), (0, l1), (0, l2)] [] F v F') :
  (s_le (F 3 1) l2 →
   v = (0, l1) ∧ F' = F) ∧
  (s_lt l2 (F 3 1) →
   (s_lt (F 22 (F 5 (i_mul 2 l2))) (F 22 (F 4 (i_mul 2 l2))) →
     ∃ m, m < n ∧ Rn m k_Or_upEnds 4 [(2, 19), (0, i_or l1 (i_shl 1 l2)), (0, i_add l2 1)] [] F v F') ∧
    (s_le (F 22 (F 4 (i_mul 2 l2))) (F 22 (F 5 (i_mul 2 l2))) →
     ((F 22 (F 5 (i_mul 2 l2))) ≠ (F 22 (F 4 (i_mul 2 l2))) →
       ∃ m, m < n ∧ Rn m k_Or_upEnds 4 [(2, 19), (0, l1), (0, i_add l2 1)] [] F v F') ∧
      ((F 22 (F 5 (i_mul 2 l2))) = (F 22 (F 4 (i_mul 2 l2))) →
       (s_le (F 4 (i_mul 2 l2)) (F 5 (i_mul 2 l2)) →
         ∃ m, m < n ∧ Rn m k_Or_upEnds 4 [(2, 19), (0, l1), (0, i_add l2 1)] [] F v F') ∧
        (s_lt (F 5 (i_mul 2 l2)) (F 4 (i_mul 2 l2)) →
         ∃ m, m < n ∧ Rn m k_Or_upEnds 4 [(2, 19), (0, i_or l1 (i_shl 1 l2)), (0, i_add l2 1)] [] F v F')))) := by
  have t := q_ok cv_89 ap_89 (hd := [(4, [1, 1, 1])]) h rfl rfl
  exact t
-- TurnNet$Reader.advance()V
theorem c_Rd_advance {F : fx_F} {v : fx_V} {F' : fx_F} (h : Cl k_Rd_advance [(2, 10)] F v F') : ∃ n, Rn n k_Rd_advance 0 [(2, 10), (3, 0), (3, 0)] [] F v F' := by
  obtain ⟨n, s, hs, h⟩ := h
  rw [sg_91] at hs
  cases hs
  exact ⟨n, h⟩
set_option maxRecDepth 40000 in
theorem q_Rd_advance_0 {n : Nat} {F : fx_F} {v : fx_V} {F' : fx_F} (h : Rn n k_Rd_advance 0 [(2, 10), (3, 0), (3, 0)] [] F v F') :
  (s_le (F 10 1) (F 10 5) →
   (s_lt (F 10 5) (F 10 1) →
     (s_lt (F 11 (F 10 5)) 97 →
       (s_lt (F 11 (F 10 5)) 48 →
         ((F 11 (F 10 5)) = 59 →
           v = (2, 0) ∧ F' = (fu (fu (fu (fu F 10 6 (F 10 5)) 10 8 0) 10 5 (i_add (F 10 5) 1)) 10 7 (F 11 (F 10 5)))) ∧
          ((F 11 (F 10 5)) ≠ 59 →
           ((F 11 (F 10 5)) = 40 →
             v = (2, 0) ∧ F' = (fu (fu (fu (fu F 10 6 (F 10 5)) 10 8 0) 10 5 (i_add (F 10 5) 1)) 10 7 (F 11 (F 10 5)))) ∧
            ((F 11 (F 10 5)) ≠ 40 →
             ((F 11 (F 10 5)) = 41 →
               v = (2, 0) ∧ F' = (fu (fu (fu (fu F 10 6 (F 10 5)) 10 8 0) 10 5 (i_add (F 10 5) 1)) 10 7 (F 11 (F 10 5)))) ∧
              ((F 11 (F 10 5)) ≠ 41 →
               ((F 11 (F 10 5)) = 43 →
                 v = (2, 0) ∧ F' = (fu (fu (fu (fu F 10 6 (F 10 5)) 10 8 0) 10 5 (i_add (F 10 5) 1)) 10 7 (F 11 (F 10 5)))) ∧
                ((F 11 (F 10 5)) ≠ 43 →
                 ((F 11 (F 10 5)) = 45 →
                   v = (2, 0) ∧ F' = (fu (fu (fu (fu F 10 6 (F 10 5)) 10 8 0) 10 5 (i_add (F 10 5) 1)) 10 7 (F 11 (F 10 5)))) ∧
                  ((F 11 (F 10 5)) ≠ 45 →
                   ((F 11 (F 10 5)) = 42 →
                     v = (2, 0) ∧ F' = (fu (fu (fu (fu F 10 6 (F 10 5)) 10 8 0) 10 5 (i_add (F 10 5) 1)) 10 7 (F 11 (F 10 5)))) ∧
                    ((F 11 (F 10 5)) ≠ 42 →
                     ((F 11 (F 10 5)) = 47 →
                       v = (2, 0) ∧ F' = (fu (fu (fu (fu F 10 6 (F 10 5)) 10 8 0) 10 5 (i_add (F 10 5) 1)) 10 7 (F 11 (F 10 5)))) ∧
                      ((F 11 (F 10 5)) ≠ 47 →
                       ((F 11 (F 10 5)) ≠ 37 →
                         v = (2, 0) ∧ F' = (fu (fu (fu (fu F 10 6 (F 10 5)) 10 8 0) 10 5 (i_add (F 10 5) 1)) 10 7 3)) ∧
                        ((F 11 (F 10 5)) = 37 →
                         v = (2, 0) ∧ F' = (fu (fu (fu (fu F 10 6 (F 10 5)) 10 8 0) 10 5 (i_add (F 10 5) 1)) 10 7 (F 11 (F 10 5)))))))))))) ∧
        (s_le 48 (F 11 (F 10 5)) →
         (s_lt 57 (F 11 (F 10 5)) →
           ((F 11 (F 10 5)) = 59 →
             v = (2, 0) ∧ F' = (fu (fu (fu (fu F 10 6 (F 10 5)) 10 8 0) 10 5 (i_add (F 10 5) 1)) 10 7 (F 11 (F 10 5)))) ∧
            ((F 11 (F 10 5)) ≠ 59 →
             ((F 11 (F 10 5)) = 40 →
               v = (2, 0) ∧ F' = (fu (fu (fu (fu F 10 6 (F 10 5)) 10 8 0) 10 5 (i_add (F 10 5) 1)) 10 7 (F 11 (F 10 5)))) ∧
              ((F 11 (F 10 5)) ≠ 40 →
               ((F 11 (F 10 5)) = 41 →
                 v = (2, 0) ∧ F' = (fu (fu (fu (fu F 10 6 (F 10 5)) 10 8 0) 10 5 (i_add (F 10 5) 1)) 10 7 (F 11 (F 10 5)))) ∧
                ((F 11 (F 10 5)) ≠ 41 →
                 ((F 11 (F 10 5)) = 43 →
                   v = (2, 0) ∧ F' = (fu (fu (fu (fu F 10 6 (F 10 5)) 10 8 0) 10 5 (i_add (F 10 5) 1)) 10 7 (F 11 (F 10 5)))) ∧
                  ((F 11 (F 10 5)) ≠ 43 →
                   ((F 11 (F 10 5)) = 45 →
                     v = (2, 0) ∧ F' = (fu (fu (fu (fu F 10 6 (F 10 5)) 10 8 0) 10 5 (i_add (F 10 5) 1)) 10 7 (F 11 (F 10 5)))) ∧
                    ((F 11 (F 10 5)) ≠ 45 →
                     ((F 11 (F 10 5)) = 42 →
                       v = (2, 0) ∧ F' = (fu (fu (fu (fu F 10 6 (F 10 5)) 10 8 0) 10 5 (i_add (F 10 5) 1)) 10 7 (F 11 (F 10 5)))) ∧
                      ((F 11 (F 10 5)) ≠ 42 →
                       ((F 11 (F 10 5)) = 47 →
                         v = (2, 0) ∧ F' = (fu (fu (fu (fu F 10 6 (F 10 5)) 10 8 0) 10 5 (i_add (F 10 5) 1)) 10 7 (F 11 (F 10 5)))) ∧
                        ((F 11 (F 10 5)) ≠ 47 →
                         ((F 11 (F 10 5)) ≠ 37 →
                           v = (2, 0) ∧ F' = (fu (fu (fu (fu F 10 6 (F 10 5)) 10 8 0) 10 5 (i_add (F 10 5) 1)) 10 7 3)) ∧
                          ((F 11 (F 10 5)) = 37 →
                           v = (2, 0) ∧ F' = (fu (fu (fu (fu F 10 6 (F 10 5)) 10 8 0) 10 5 (i_add (F 10 5) 1)) 10 7 (F 11 (F 10 5)))))))))))) ∧
          (s_le (F 11 (F 10 5)) 57 →
           ∃ m, m < n ∧ Rn m k_Rd_advance 196 [(2, 10), (3, 0), (3, 0)] [] (fu (fu (fu (fu (fu F 10 6 (F 10 5)) 10 8 0) 10 5 (i_add (F 10 5) 1)) 10 7 2) 10 8 (i_sub (F 11 (F 10 5)) 48)) v F'))) ∧
      (s_le 97 (F 11 (F 10 5)) →
       (s_lt 122 (F 11 (F 10 5)) →
         (s_lt (F 11 (F 10 5)) 48 →
           ((F 11 (F 10 5)) = 59 →
             v = (2, 0) ∧ F' = (fu (fu (fu (fu F 10 6 (F 10 5)) 10 8 0) 10 5 (i_add (F 10 5) 1)) 10 7 (F 11 (F 10 5)))) ∧
            ((F 11 (F 10 5)) ≠ 59 →
             ((F 11 (F 10 5)) = 40 →
               v = (2, 0) ∧ F' = (fu (fu (fu (fu F 10 6 (F 10 5)) 10 8 0) 10 5 (i_add (F 10 5) 1)) 10 7 (F 11 (F 10 5)))) ∧
              ((F 11 (F 10 5)) ≠ 40 →
               ((F 11 (F 10 5)) = 41 →
                 v = (2, 0) ∧ F' = (fu (fu (fu (fu F 10 6 (F 10 5)) 10 8 0) 10 5 (i_add (F 10 5) 1)) 10 7 (F 11 (F 10 5)))) ∧
                ((F 11 (F 10 5)) ≠ 41 →
                 ((F 11 (F 10 5)) = 43 →
                   v = (2, 0) ∧ F' = (fu (fu (fu (fu F 10 6 (F 10 5)) 10 8 0) 10 5 (i_add (F 10 5) 1)) 10 7 (F 11 (F 10 5)))) ∧
                  ((F 11 (F 10 5)) ≠ 43 →
                   ((F 11 (F 10 5)) = 45 →
                     v = (2, 0) ∧ F' = (fu (fu (fu (fu F 10 6 (F 10 5)) 10 8 0) 10 5 (i_add (F 10 5) 1)) 10 7 (F 11 (F 10 5)))) ∧
                    ((F 11 (F 10 5)) ≠ 45 →
                     ((F 11 (F 10 5)) = 42 →
                       v = (2, 0) ∧ F' = (fu (fu (fu (fu F 10 6 (F 10 5)) 10 8 0) 10 5 (i_add (F 10 5) 1)) 10 7 (F 11 (F 10 5)))) ∧
                      ((F 11 (F 10 5)) ≠ 42 →
                       ((F 11 (F 10 5)) = 47 →
                         v = (2, 0) ∧ F' = (fu (fu (fu (fu F 10 6 (F 10 5)) 10 8 0) 10 5 (i_add (F 10 5) 1)) 10 7 (F 11 (F 10 5)))) ∧
                        ((F 11 (F 10 5)) ≠ 47 →
                         ((F 11 (F 10 5)) ≠ 37 →
                           v = (2, 0) ∧ F' = (fu (fu (fu (fu F 10 6 (F 10 5)) 10 8 0) 10 5 (i_add (F 10 5) 1)) 10 7 3)) ∧
                          ((F 11 (F 10 5)) = 37 →
                           v = (2, 0) ∧ F' = (fu (fu (fu (fu F 10 6 (F 10 5)) 10 8 0) 10 5 (i_add (F 10 5) 1)) 10 7 (F 11 (F 10 5)))))))))))) ∧
          (s_le 48 (F 11 (F 10 5)) →
           (s_lt 57 (F 11 (F 10 5)) →
             ((F 11 (F 10 5)) = 59 →
               v = (2, 0) ∧ F' = (fu (fu (fu (fu F 10 6 (F 10 5)) 10 8 0) 10 5 (i_add (F 10 5) 1)) 10 7 (F 11 (F 10 5)))) ∧
              ((F 11 (F 10 5)) ≠ 59 →
               ((F 11 (F 10 5)) = 40 →
                 v = (2, 0) ∧ F' = (fu (fu (fu (fu F 10 6 (F 10 5)) 10 8 0) 10 5 (i_add (F 10 5) 1)) 10 7 (F 11 (F 10 5)))) ∧
                ((F 11 (F 10 5)) ≠ 40 →
                 ((F 11 (F 10 5)) = 41 →
                   v = (2, 0) ∧ F' = (fu (fu (fu (fu F 10 6 (F 10 5)) 10 8 0) 10 5 (i_add (F 10 5) 1)) 10 7 (F 11 (F 10 5)))) ∧
                  ((F 11 (F 10 5)) ≠ 41 →
                   ((F 11 (F 10 5)) = 43 →
                     v = (2, 0) ∧ F' = (fu (fu (fu (fu F 10 6 (F 10 5)) 10 8 0) 10 5 (i_add (F 10 5) 1)) 10 7 (F 11 (F 10 5)))) ∧
                    ((F 11 (F 10 5)) ≠ 43 →
                     ((F 11 (F 10 5)) = 45 →
                       v = (2, 0) ∧ F' = (fu (fu (fu (fu F 10 6 (F 10 5)) 10 8 0) 10 5 (i_add (F 10 5) 1)) 10 7 (F 11 (F 10 5)))) ∧
                      ((F 11 (F 10 5)) ≠ 45 →
                       ((F 11 (F 10 5)) = 42 →
                         v = (2, 0) ∧ F' = (fu (fu (fu (fu F 10 6 (F 10 5)) 10 8 0) 10 5 (i_add (F 10 5) 1)) 10 7 (F 11 (F 10 5)))) ∧
                        ((F 11 (F 10 5)) ≠ 42 →
                         ((F 11 (F 10 5)) = 47 →
                           v = (2, 0) ∧ F' = (fu (fu (fu (fu F 10 6 (F 10 5)) 10 8 0) 10 5 (i_add (F 10 5) 1)) 10 7 (F 11 (F 10 5)))) ∧
                          ((F 11 (F 10 5)) ≠ 47 →
                           ((F 11 (F 10 5)) ≠ 37 →
                             v = (2, 0) ∧ F' = (fu (fu (fu (fu F 10 6 (F 10 5)) 10 8 0) 10 5 (i_add (F 10 5) 1)) 10 7 3)) ∧
                            ((F 11 (F 10 5)) = 37 →
                             v = (2, 0) ∧ F' = (fu (fu (fu (fu F 10 6 (F 10 5)) 10 8 0) 10 5 (i_add (F 10 5) 1)) 10 7 (F 11 (F 10 5)))))))))))) ∧
            (s_le (F 11 (F 10 5)) 57 →
             ∃ m, m < n ∧ Rn m k_Rd_advance 196 [(2, 10), (3, 0), (3, 0)] [] (fu (fu (fu (fu (fu F 10 6 (F 10 5)) 10 8 0) 10 5 (i_add (F 10 5) 1)) 10 7 2) 10 8 (i_sub (F 11 (F 10 5)) 48)) v F'))) ∧
        (s_le (F 11 (F 10 5)) 122 →
         ∃ m, m < n ∧ Rn m k_Rd_advance 119 [(2, 10), (3, 0), (3, 0)] [] (fu (fu (fu (fu F 10 6 (F 10 5)) 10 8 0) 10 5 (i_add (F 10 5) 1)) 10 7 1) v F'))) ∧
    (s_le (F 10 1) (F 10 5) →
     v = (2, 0) ∧ F' = (fu (fu (fu F 10 6 (F 10 5)) 10 8 0) 10 7 0))) ∧
  (s_lt (F 10 5) (F 10 1) →
   ((F 11 (F 10 5)) = 32 →
     ∃ m, m < n ∧ Rn m k_Rd_advance 0 [(2, 10), (3, 0), (3, 0)] [] (fu F 10 5 (i_add (F 10 5) 1)) v F') ∧
    ((F 11 (F 10 5)) ≠ 32 →
     ((F 11 (F 10 5)) ≠ 10 →
       (s_lt (F 10 5) (F 10 1) →
         (s_lt (F 11 (F 10 5)) 97 →
           (s_lt (F 11 (F 10 5)) 48 →
             ((F 11 (F 10 5)) = 59 →
               v = (2, 0) ∧ F' = (fu (fu (fu (fu F 10 6 (F 10 5)) 10 8 0) 10 5 (i_add (F 10 5) 1)) 10 7 (F 11 (F 10 5)))) ∧
              ((F 11 (F 10 5)) ≠ 59 →
               ((F 11 (F 10 5)) = 40 →
                 v = (2, 0) ∧ F' = (fu (fu (fu (fu F 10 6 (F 10 5)) 10 8 0) 10 5 (i_add (F 10 5) 1)) 10 7 (F 11 (F 10 5)))) ∧
                ((F 11 (F 10 5)) ≠ 40 →
                 ((F 11 (F 10 5)) = 41 →
                   v = (2, 0) ∧ F' = (fu (fu (fu (fu F 10 6 (F 10 5)) 10 8 0) 10 5 (i_add (F 10 5) 1)) 10 7 (F 11 (F 10 5)))) ∧
                  ((F 11 (F 10 5)) ≠ 41 →
                   ((F 11 (F 10 5)) = 43 →
                     v = (2, 0) ∧ F' = (fu (fu (fu (fu F 10 6 (F 10 5)) 10 8 0) 10 5 (i_add (F 10 5) 1)) 10 7 (F 11 (F 10 5)))) ∧
                    ((F 11 (F 10 5)) ≠ 43 →
                     ((F 11 (F 10 5)) = 45 →
                       v = (2, 0) ∧ F' = (fu (fu (fu (fu F 10 6 (F 10 5)) 10 8 0) 10 5 (i_add (F 10 5) 1)) 10 7 (F 11 (F 10 5)))) ∧
                      ((F 11 (F 10 5)) ≠ 45 →
                       ((F 11 (F 10 5)) = 42 →
                         v = (2, 0) ∧ F' = (fu (fu (fu (fu F 10 6 (F 10 5)) 10 8 0) 10 5 (i_add (F 10 5) 1)) 10 7 (F 11 (F 10 5)))) ∧
                        ((F 11 (F 10 5)) ≠ 42 →
                         ((F 11 (F 10 5)) = 47 →
                           v = (2, 0) ∧ F' = (fu (fu (fu (fu F 10 6 (F 10 5)) 10 8 0) 10 5 (i_add (F 10 5) 1)) 10 7 (F 11 (F 10 5)))) ∧
                          ((F 11 (F 10 5)) ≠ 47 →
                           ((F 11 (F 10 5)) ≠ 37 →
                             v = (2, 0) ∧ F' = (fu (fu (fu (fu F 10 6 (F 10 5)) 10 8 0) 10 5 (i_add (F 10 5) 1)) 10 7 3)) ∧
                            ((F 11 (F 10 5)) = 37 →
                             v = (2, 0) ∧ F' = (fu (fu (fu (fu F 10 6 (F 10 5)) 10 8 0) 10 5 (i_add (F 10 5) 1)) 10 7 (F 11 (F 10 5)))))))))))) ∧
            (s_le 48 (F 11 (F 10 5)) →
             (s_lt 57 (F 11 (F 10 5)) →
               ((F 11 (F 10 5)) = 59 →
                 v = (2, 0) ∧ F' = (fu (fu (fu (fu F 10 6 (F 10 5)) 10 8 0) 10 5 (i_add (F 10 5) 1)) 10 7 (F 11 (F 10 5)))) ∧
                ((F 11 (F 10 5)) ≠ 59 →
                 ((F 11 (F 10 5)) = 40 →
                   v = (2, 0) ∧ F' = (fu (fu (fu (fu F 10 6 (F 10 5)) 10 8 0) 10 5 (i_add (F 10 5) 1)) 10 7 (F 11 (F 10 5)))) ∧
                  ((F 11 (F 10 5)) ≠ 40 →
                   ((F 11 (F 10 5)) = 41 →
                     v = (2, 0) ∧ F' = (fu (fu (fu (fu F 10 6 (F 10 5)) 10 8 0) 10 5 (i_add (F 10 5) 1)) 10 7 (F 11 (F 10 5)))) ∧
                    ((F 11 (F 10 5)) ≠ 41 →
                     ((F 11 (F 10 5)) = 43 →
                       v = (2, 0) ∧ F' = (fu (fu (fu (fu F 10 6 (F 10 5)) 10 8 0) 10 5 (i_add (F 10 5) 1)) 10 7 (F 11 (F 10 5)))) ∧
                      ((F 11 (F 10 5)) ≠ 43 →
                       ((F 11 (F 10 5)) = 45 →
                         v = (2, 0) ∧ F' = (fu (fu (fu (fu F 10 6 (F 10 5)) 10 8 0) 10 5 (i_add (F 10 5) 1)) 10 7 (F 11 (F 10 5)))) ∧
                        ((F 11 (F 10 5)) ≠ 45 →
                         ((F 11 (F 10 5)) = 42 →
                           v = (2, 0) ∧ F' = (fu (fu (fu (fu F 10 6 (F 10 5)) 10 8 0) 10 5 (i_add (F 10 5) 1)) 10 7 (F 11 (F 10 5)))) ∧
                          ((F 11 (F 10 5)) ≠ 42 →
                           ((F 11 (F 10 5)) = 47 →
                             v = (2, 0) ∧ F' = (fu (fu (fu (fu F 10 6 (F 10 5)) 10 8 0) 10 5 (i_add (F 10 5) 1)) 10 7 (F 11 (F 10 5)))) ∧
                            ((F 11 (F 10 5)) ≠ 47 →
                             ((F 11 (F 10 5)) ≠ 37 →
                               v = (2, 0) ∧ F' = (fu (fu (fu (fu F 10 6 (F 10 5)) 10 8 0) 10 5 (i_add (F 10 5) 1)) 10 7 3)) ∧
                              ((F 11 (F 10 5)) = 37 →
                               v = (2, 0) ∧ F' = (fu (fu (fu (fu F 10 6 (F 10 5)) 10 8 0) 10 5 (i_add (F 10 5) 1)) 10 7 (F 11 (F 10 5)))))))))))) ∧
              (s_le (F 11 (F 10 5)) 57 →
               ∃ m, m < n ∧ Rn m k_Rd_advance 196 [(2, 10), (3, 0), (3, 0)] [] (fu (fu (fu (fu (fu F 10 6 (F 10 5)) 10 8 0) 10 5 (i_add (F 10 5) 1)) 10 7 2) 10 8 (i_sub (F 11 (F 10 5)) 48)) v F'))) ∧
          (s_le 97 (F 11 (F 10 5)) →
           (s_lt 122 (F 11 (F 10 5)) →
             (s_lt (F 11 (F 10 5)) 48 →
               ((F 11 (F 10 5)) = 59 →
                 v = (2, 0) ∧ F' = (fu (fu (fu (fu F 10 6 (F 10 5)) 10 8 0) 10 5 (i_add (F 10 5) 1)) 10 7 (F 11 (F 10 5)))) ∧
                ((F 11 (F 10 5)) ≠ 59 →
                 ((F 11 (F 10 5)) = 40 →
                   v = (2, 0) ∧ F' = (fu (fu (fu (fu F 10 6 (F 10 5)) 10 8 0) 10 5 (i_add (F 10 5) 1)) 10 7 (F 11 (F 10 5)))) ∧
                  ((F 11 (F 10 5)) ≠ 40 →
                   ((F 11 (F 10 5)) = 41 →
                     v = (2, 0) ∧ F' = (fu (fu (fu (fu F 10 6 (F 10 5)) 10 8 0) 10 5 (i_add (F 10 5) 1)) 10 7 (F 11 (F 10 5)))) ∧
                    ((F 11 (F 10 5)) ≠ 41 →
                     ((F 11 (F 10 5)) = 43 →
                       v = (2, 0) ∧ F' = (fu (fu (fu (fu F 10 6 (F 10 5)) 10 8 0) 10 5 (i_add (F 10 5) 1)) 10 7 (F 11 (F 10 5)))) ∧
                      ((F 11 (F 10 5)) ≠ 43 →
                       ((F 11 (F 10 5)) = 45 →
                         v = (2, 0) ∧ F' = (fu (fu (fu (fu F 10 6 (F 10 5)) 10 8 0) 10 5 (i_add (F 10 5) 1)) 10 7 (F 11 (F 10 5)))) ∧
                        ((F 11 (F 10 5)) ≠ 45 →
                         ((F 11 (F 10 5)) = 42 →
                           v = (2, 0) ∧ F' = (fu (fu (fu (fu F 10 6 (F 10 5)) 10 8 0) 10 5 (i_add (F 10 5) 1)) 10 7 (F 11 (F 10 5)))) ∧
                          ((F 11 (F 10 5)) ≠ 42 →
                           ((F 11 (F 10 5)) = 47 →
                             v = (2, 0) ∧ F' = (fu (fu (fu (fu F 10 6 (F 10 5)) 10 8 0) 10 5 (i_add (F 10 5) 1)) 10 7 (F 11 (F 10 5)))) ∧
                            ((F 11 (F 10 5)) ≠ 47 →
                             ((F 11 (F 10 5)) ≠ 37 →
                               v = (2, 0) ∧ F' = (fu (fu (fu (fu F 10 6 (F 10 5)) 10 8 0) 10 5 (i_add (F 10 5) 1)) 10 7 3)) ∧
                              ((F 11 (F 10 5)) = 37 →
                               v = (2, 0) ∧ F' = (fu (fu (fu (fu F 10 6 (F 10 5)) 10 8 0) 10 5 (i_add (F 10 5) 1)) 10 7 (F 11 (F 10 5)))))))))))) ∧
              (s_le 48 (F 11 (F 10 5)) →
               (s_lt 57 (F 11 (F 10 5)) →
                 ((F 11 (F 10 5)) = 59 →
                   v = (2, 0) ∧ F' = (fu (fu (fu (fu F 10 6 (F 10 5)) 10 8 0) 10 5 (i_add (F 10 5) 1)) 10 7 (F 11 (F 10 5)))) ∧
                  ((F 11 (F 10 5)) ≠ 59 →
                   ((F 11 (F 10 5)) = 40 →
                     v = (2, 0) ∧ F' = (fu (fu (fu (fu F 10 6 (F 10 5)) 10 8 0) 10 5 (i_add (F 10 5) 1)) 10 7 (F 11 (F 10 5)))) ∧
                    ((F 11 (F 10 5)) ≠ 40 →
                     ((F 11 (F 10 5)) = 41 →
                       v = (2, 0) ∧ F' = (fu (fu (fu (fu F 10 6 (F 10 5)) 10 8 0) 10 5 (i_add (F 10 5) 1)) 10 7 (F 11 (F 10 5)))) ∧
                      ((F 11 (F 10 5)) ≠ 41 →
                       ((F 11 (F 10 5)) = 43 →
                         v = (2, 0) ∧ F' = (fu (fu (fu (fu F 10 6 (F 10 5)) 10 8 0) 10 5 (i_add (F 10 5) 1)) 10 7 (F 11 (F 10 5)))) ∧
                        ((F 11 (F 10 5)) ≠ 43 →
                         ((F 11 (F 10 5)) = 45 →
                           v = (2, 0) ∧ F' = (fu (fu (fu (fu F 10 6 (F 10 5)) 10 8 0) 10 5 (i_add (F 10 5) 1)) 10 7 (F 11 (F 10 5)))) ∧
                          ((F 11 (F 10 5)) ≠ 45 →
                           ((F 11 (F 10 5)) = 42 →
                             v = (2, 0) ∧ F' = (fu (fu (fu (fu F 10 6 (F 10 5)) 10 8 0) 10 5 (i_add (F 10 5) 1)) 10 7 (F 11 (F 10 5)))) ∧
                            ((F 11 (F 10 5)) ≠ 42 →
                             ((F 11 (F 10 5)) = 47 →
                               v = (2, 0) ∧ F' = (fu (fu (fu (fu F 10 6 (F 10 5)) 10 8 0) 10 5 (i_add (F 10 5) 1)) 10 7 (F 11 (F 10 5)))) ∧
                              ((F 11 (F 10 5)) ≠ 47 →
                               ((F 11 (F 10 5)) ≠ 37 →
                                 v = (2, 0) ∧ F' = (fu (fu (fu (fu F 10 6 (F 10 5)) 10 8 0) 10 5 (i_add (F 10 5) 1)) 10 7 3)) ∧
                                ((F 11 (F 10 5)) = 37 →
                                 v = (2, 0) ∧ F' = (fu (fu (fu (fu F 10 6 (F 10 5)) 10 8 0) 10 5 (i_add (F 10 5) 1)) 10 7 (F 11 (F 10 5)))))))))))) ∧
                (s_le (F 11 (F 10 5)) 57 →
                 ∃ m, m < n ∧ Rn m k_Rd_advance 196 [(2, 10), (3, 0), (3, 0)] [] (fu (fu (fu (fu (fu F 10 6 (F 10 5)) 10 8 0) 10 5 (i_add (F 10 5) 1)) 10 7 2) 10 8 (i_sub (F 11 (F 10 5)) 48)) v F'))) ∧
            (s_le (F 11 (F 10 5)) 122 →
             ∃ m, m < n ∧ Rn m k_Rd_advance 119 [(2, 10), (3, 0), (3, 0)] [] (fu (fu (fu (fu F 10 6 (F 10 5)) 10 8 0) 10 5 (i_add (F 10 5) 1)) 10 7 1) v F'))) ∧
        (s_le (F 10 1) (F 10 5) →
         v = (2, 0) ∧ F' = (fu (fu (fu F 10 6 (F 10 5)) 10 8 0) 10 7 0))) ∧
      ((F 11 (F 10 5)) = 10 →
       ∃ m, m < n ∧ Rn m k_Rd_advance 0 [(2, 10), (3, 0), (3, 0)] [] (fu F 10 5 (i_add (F 10 5) 1)) v F'))) := by
  have t := q_ok cv_91 ap_91 (hd := [(0, [1, 0, 0]), (119, [1, 0, 0]), (196, [1, 0, 0])]) h rfl rfl
  exact t
set_option maxRecDepth 40000 in
theorem q_Rd_advance_196 {n : Nat} {F : fx_F} {v : fx_V} {F' : fx_F} (h : Rn n k_Rd_advance 196 [(2, 10), (3, 0), (3, 0)] [] F v F') :
  (s_le (F 10 1) (F 10 5) →
   v = (2, 0) ∧ F' = F) ∧
  (s_lt (F 10 5) (F 10 1) →
   (s_lt (F 11 (F 10 5)) 48 →
     v = (2, 0) ∧ F' = F) ∧
    (s_le 48 (F 11 (F 10 5)) →
     (s_lt 57 (F 11 (F 10 5)) →
       v = (2, 0) ∧ F' = F) ∧
      (s_le (F 11 (F 10 5)) 57 →
       ∃ m, m < n ∧ Rn m k_Rd_advance 196 [(2, 10), (3, 0), (3, 0)] [] (fu (fu F 10 8 (i_min (i_sub (i_add (i_mul 10 (F 10 8)) (F 11 (F 10 5))) 48) 100000)) 10 5 (i_add (F 10 5) 1)) v F'))) := by
  have t := q_ok cv_91 ap_91 (hd := [(0, [1, 0, 0]), (119, [1, 0, 0]), (196, [1, 0, 0])]) h rfl rfl
  exact t
set_option maxRecDepth 40000 in
theorem q_Rd_advance_119 {n : Nat} {F : fx_F} {v : fx_V} {F' : fx_F} (h : Rn n k_Rd_advance 119 [(2, 10), (3, 0), (3, 0)] [] F v F') :
  (s_le (F 10 1) (F 10 5) →
   v = (2, 0) ∧ F' = F) ∧
  (s_lt (F 10 5) (F 10 1) →
   (s_lt (F 11 (F 10 5)) 97 →
     v = (2, 0) ∧ F' = F) ∧
    (s_le 97 (F 11 (F 10 5)) →
     (s_lt 122 (F 11 (F 10 5)) →
       v = (2, 0) ∧ F' = F) ∧
      (s_le (F 11 (F 10 5)) 122 →
       ∃ m, m < n ∧ Rn m k_Rd_advance 119 [(2, 10), (3, 0), (3, 0)] [] (fu F 10 5 (i_add (F 10 5) 1)) v F'))) := by
  have t := q_ok cv_91 ap_91 (hd := [(0, [1, 0, 0]), (119, [1, 0, 0]), (196, [1, 0, 0])]) h rfl rfl
  exact t
-- TurnNet$Routes.entryBehind(II)I
theorem c_Ro_entryBehind {p a1 a2 : Nat} {F : fx_F} {v : fx_V} {F' : fx_F} (h : Cl k_Ro_entryBehind [(2, p), (0, a1), (0, a2)] F v F') : ∃ n, Rn n k_Ro_entryBehind 0 [(2, p), (0, a1), (0, a2)] [] F v F' := by
  obtain ⟨n, s, hs, h⟩ := h
  rw [sg_93] at hs
  cases hs
  exact ⟨n, h⟩
set_option maxRecDepth 40000 in
theorem q_Ro_entryBehind_0 {n : Nat} {p a1 a2 : Nat} {F : fx_F} {v : fx_V} {F' : fx_F} (h : Rn n k_Ro_entryBehind 0 [(2, p), (0, a1), (0, a2)] [] F v F') :
  v = (0, F (p + 2) (i_add (i_mul a1 20) (i_add (i_mul 2 (F 5 a2)) (F (p + 5) a2)))) ∧ F' = F := by
  have t := q_ok cv_93 ap_93 (hd := []) h rfl rfl
  exact t
-- TurnNet$Routes.growLevel(II)Z
theorem c_Ro_growLevel {p a1 a2 : Nat} {F : fx_F} {v : fx_V} {F' : fx_F} (h : Cl k_Ro_growLevel [(2, p), (0, a1), (0, a2)] F v F') : ∃ n, Rn n k_Ro_growLevel 0 [(2, p), (0, a1), (0, a2), (3, 0), (3, 0), (3, 0), (3, 0)] [] F v F' := by
  obtain ⟨n, s, hs, h⟩ := h
  rw [sg_94] at hs
  cases hs
  exact ⟨n, h⟩
set_option maxRecDepth 40000 in
theorem q_Ro_growLevel_0 {n : Nat} {p a1 a2 : Nat} {F : fx_F} {v : fx_V} {F' : fx_F} (h : Rn n k_Ro_growLevel 0 [(2, p), (0, a1), (0, a2), (3, 0), (3, 0), (3, 0), (3, 0)] [] F v F') :
  ∃ m, m < n ∧ Rn m k_Ro_growLevel 5 [(2, p), (0, a1), (0, a2), (0, 0), (0, 0), (3, 0), (3, 0)] [] F v F' := by
  have t := q_ok cv_94 ap_94 (hd := [(5, [1, 1, 1, 1, 1, 0, 0])]) h rfl rfl
  exact t
set_option maxRecDepth 40000 in
theorem q_Ro_growLevel_5 {n : Nat} {p l1 l2 l3 l4 : Nat} {F : fx_F} {v : fx_V} {F' : fx_F} (h : Rn n k_Ro_growLevel 5 [(2, p), (0, l1), (0, l2), (0, l3), (0, l4), (3, 0), (3, 0)] [] F v F') :
  (s_le (i_mul 2 (F 3 1)) l4 →
   v = (0, l3) ∧ F' = F) ∧
  (s_lt l4 (i_mul 2 (F 3 1)) →
   ((i_and (i_shr (F p 2) (i_shr l4 1)) 1) ≠ 1 →
     ∃ m, m < n ∧ Rn m k_Ro_growLevel 5 [(2, p), (0, l1), (0, l2), (0, l3), (0, i_add l4 1), (3, 0), (3, 0)] [] F v F') ∧
    ((i_and (i_shr (F p 2) (i_shr l4 1)) 1) = 1 →
     ((F (p + 5) l4) ≠ 0 →
       ((F (p + 1) (i_add l1 (i_mul 2 (F 4 l4)))) ≠ 4294967295 →
         (l3 = 0 →
           ((F (p + 1) (i_add (i_add l1 (i_mul 2 (F 4 l4))) 1)) ≠ 4294967295 →
             ∃ m, m < n ∧ Rn m k_Ro_growLevel 5 [(2, p), (0, l1), (0, l2), (0, 0), (0, i_add l4 1), (3, 0), (3, 0)] [] F v F') ∧
            ((F (p + 1) (i_add (i_add l1 (i_mul 2 (F 4 l4))) 1)) = 4294967295 →
             ((F (p + 1) (i_add (i_add l1 (i_mul 2 (F 5 l4))) 1)) = (i_sub l2 1) →
               ∃ m, m < n ∧ Rn m k_Ro_growLevel 5 [(2, p), (0, l1), (0, l2), (0, 1), (0, i_add l4 1), (3, 0), (3, 0)] [] (fu F (p + 1) (i_add (i_add l1 (i_mul 2 (F 4 l4))) 1) l2) v F') ∧
              ((F (p + 1) (i_add (i_add l1 (i_mul 2 (F 5 l4))) 1)) ≠ (i_sub l2 1) →
               ∃ m, m < n ∧ Rn m k_Ro_growLevel 5 [(2, p), (0, l1), (0, l2), (0, 0), (0, i_add l4 1), (3, 0), (3, 0)] [] F v F'))) ∧
          (l3 ≠ 0 →
           ((F (p + 1) (i_add (i_add l1 (i_mul 2 (F 4 l4))) 1)) ≠ 4294967295 →
             ∃ m, m < n ∧ Rn m k_Ro_growLevel 5 [(2, p), (0, l1), (0, l2), (0, 1), (0, i_add l4 1), (3, 0), (3, 0)] [] F v F') ∧
            ((F (p + 1) (i_add (i_add l1 (i_mul 2 (F 4 l4))) 1)) = 4294967295 →
             ((F (p + 1) (i_add (i_add l1 (i_mul 2 (F 5 l4))) 1)) = (i_sub l2 1) →
               ∃ m, m < n ∧ Rn m k_Ro_growLevel 5 [(2, p), (0, l1), (0, l2), (0, 1), (0, i_add l4 1), (3, 0), (3, 0)] [] (fu F (p + 1) (i_add (i_add l1 (i_mul 2 (F 4 l4))) 1) l2) v F') ∧
              ((F (p + 1) (i_add (i_add l1 (i_mul 2 (F 5 l4))) 1)) ≠ (i_sub l2 1) →
               ∃ m, m < n ∧ Rn m k_Ro_growLevel 5 [(2, p), (0, l1), (0, l2), (0, 1), (0, i_add l4 1), (3, 0), (3, 0)] [] F v F')))) ∧
        ((F (p + 1) (i_add l1 (i_mul 2 (F 4 l4)))) = 4294967295 →
         ((F (p + 1) (i_add (i_add l1 (i_mul 2 (F 5 l4))) 1)) = (i_sub l2 1) →
           (((fu F (p + 1) (i_add l1 (i_mul 2 (F 4 l4))) l2) (p + 1) (i_add (i_add l1 (i_mul 2 (F 4 l4))) 1)) ≠ 4294967295 →
             ∃ m, m < n ∧ Rn m k_Ro_growLevel 5 [(2, p), (0, l1), (0, l2), (0, 1), (0, i_add l4 1), (3, 0), (3, 0)] [] (fu F (p + 1) (i_add l1 (i_mul 2 (F 4 l4))) l2) v F') ∧
            (((fu F (p + 1) (i_add l1 (i_mul 2 (F 4 l4))) l2) (p + 1) (i_add (i_add l1 (i_mul 2 (F 4 l4))) 1)) = 4294967295 →
             (((fu F (p + 1) (i_add l1 (i_mul 2 (F 4 l4))) l2) (p + 1) (i_add (i_add l1 (i_mul 2 (F 5 l4))) 1)) = (i_sub l2 1) →
               ∃ m, m < n ∧ Rn m k_Ro_growLevel 5 [(2, p), (0, l1), (0, l2), (0, 1), (0, i_add l4 1), (3, 0), (3, 0)] [] (fu (fu F (p + 1) (i_add l1 (i_mul 2 (F 4 l4))) l2) (p + 1) (i_add (i_add l1 (i_mul 2 (F 4 l4))) 1) l2) v F') ∧
              (((fu F (p + 1) (i_add l1 (i_mul 2 (F 4 l4))) l2) (p + 1) (i_add (i_add l1 (i_mul 2 (F 5 l4))) 1)) ≠ (i_sub l2 1) →
               ∃ m, m < n ∧ Rn m k_Ro_growLevel 5 [(2, p), (0, l1), (0, l2), (0, 1), (0, i_add l4 1), (3, 0), (3, 0)] [] (fu F (p + 1) (i_add l1 (i_mul 2 (F 4 l4))) l2) v F'))) ∧
          ((F (p + 1) (i_add (i_add l1 (i_mul 2 (F 5 l4))) 1)) ≠ (i_sub l2 1) →
           (l3 = 0 →
             ((F (p + 1) (i_add (i_add l1 (i_mul 2 (F 4 l4))) 1)) ≠ 4294967295 →
               ∃ m, m < n ∧ Rn m k_Ro_growLevel 5 [(2, p), (0, l1), (0, l2), (0, 0), (0, i_add l4 1), (3, 0), (3, 0)] [] F v F') ∧
              ((F (p + 1) (i_add (i_add l1 (i_mul 2 (F 4 l4))) 1)) = 4294967295 →
               ((F (p + 1) (i_add (i_add l1 (i_mul 2 (F 5 l4))) 1)) = (i_sub l2 1) →
                 ∃ m, m < n ∧ Rn m k_Ro_growLevel 5 [(2, p), (0, l1), (0, l2), (0, 1), (0, i_add l4 1), (3, 0), (3, 0)] [] (fu F (p + 1) (i_add (i_add l1 (i_mul 2 (F 4 l4))) 1) l2) v F') ∧
                ((F (p + 1) (i_add (i_add l1 (i_mul 2 (F 5 l4))) 1)) ≠ (i_sub l2 1) →
                 ∃ m, m < n ∧ Rn m k_Ro_growLevel 5 [(2, p), (0, l1), (0, l2), (0, 0), (0, i_add l4 1), (3, 0), (3, 0)] [] F v F'))) ∧
            (l3 ≠ 0 →
             ((F (p + 1) (i_add (i_add l1 (i_mul 2 (F 4 l4))) 1)) ≠ 4294967295 →
               ∃ m, m < n ∧ Rn m k_Ro_growLevel 5 [(2, p), (0, l1), (0, l2), (0, 1), (0, i_add l4 1), (3, 0), (3, 0)] [] F v F') ∧
              ((F (p + 1) (i_add (i_add l1 (i_mul 2 (F 4 l4))) 1)) = 4294967295 →
               ((F (p + 1) (i_add (i_add l1 (i_mul 2 (F 5 l4))) 1)) = (i_sub l2 1) →
                 ∃ m, m < n ∧ Rn m k_Ro_growLevel 5 [(2, p), (0, l1), (0, l2), (0, 1), (0, i_add l4 1), (3, 0), (3, 0)] [] (fu F (p + 1) (i_add (i_add l1 (i_mul 2 (F 4 l4))) 1) l2) v F') ∧
                ((F (p + 1) (i_add (i_add l1 (i_mul 2 (F 5 l4))) 1)) ≠ (i_sub l2 1) →
                 ∃ m, m < n ∧ Rn m k_Ro_growLevel 5 [(2, p), (0, l1), (0, l2), (0, 1), (0, i_add l4 1), (3, 0), (3, 0)] [] F v F')))))) ∧
      ((F (p + 5) l4) = 0 →
       ((F (p + 1) (i_add l1 (i_mul 2 (F 4 l4)))) ≠ 4294967295 →
         (l3 = 0 →
           ∃ m, m < n ∧ Rn m k_Ro_growLevel 5 [(2, p), (0, l1), (0, l2), (0, 0), (0, i_add l4 1), (3, 0), (3, 0)] [] F v F') ∧
          (l3 ≠ 0 →
           ∃ m, m < n ∧ Rn m k_Ro_growLevel 5 [(2, p), (0, l1), (0, l2), (0, 1), (0, i_add l4 1), (3, 0), (3, 0)] [] F v F')) ∧
        ((F (p + 1) (i_add l1 (i_mul 2 (F 4 l4)))) = 4294967295 →
         ((F (p + 1) (i_add l1 (i_mul 2 (F 5 l4)))) = (i_sub l2 1) →
           ∃ m, m < n ∧ Rn m k_Ro_growLevel 5 [(2, p), (0, l1), (0, l2), (0, 1), (0, i_add l4 1), (3, 0), (3, 0)] [] (fu F (p + 1) (i_add l1 (i_mul 2 (F 4 l4))) l2) v F') ∧
          ((F (p + 1) (i_add l1 (i_mul 2 (F 5 l4)))) ≠ (i_sub l2 1) →
           (l3 = 0 →
             ∃ m, m < n ∧ Rn m k_Ro_growLevel 5 [(2, p), (0, l1), (0, l2), (0, 0), (0, i_add l4 1), (3, 0), (3, 0)] [] F v F') ∧
            (l3 ≠ 0 →
             ∃ m, m < n ∧ Rn m k_Ro_growLevel 5 [(2, p), (0, l1), (0, l2), (0, 1), (0, i_add l4 1), (3, 0), (3, 0)] [] F v F')))))) := by
  have t := q_ok cv_94 ap_94 (hd := [(5, [1, 1, 1, 1, 1, 0, 0])]) h rfl rfl
  exact t
-- TurnNet$Routes.heaviestChannel()I
theorem c_Ro_heaviestChannel {p : Nat} {F : fx_F} {v : fx_V} {F' : fx_F} (h : Cl k_Ro_heaviestChannel [(2, p)] F v F') : ∃ n, Rn n k_Ro_heaviestChannel 0 [(2, p), (3, 0), (3, 0)] [] F v F' := by
  obtain ⟨n, s, hs, h⟩ := h
  rw [sg_95] at hs
  cases hs
  exact ⟨n, h⟩
set_option maxRecDepth 40000 in
theorem q_Ro_heaviestChannel_0 {n : Nat} {p : Nat} {F : fx_F} {v : fx_V} {F' : fx_F} (h : Rn n k_Ro_heaviestChannel 0 [(2, p), (3, 0), (3, 0)] [] F v F') :
  ∃ m, m < n ∧ Rn m k_Ro_heaviestChannel 4 [(2, p), (0, 0), (0, 1)] [] F v F' := by
  have t := q_ok cv_95 ap_95 (hd := [(4, [1, 1, 1])]) h rfl rfl
  exact t
set_option maxRecDepth 40000 in
theorem q_Ro_heaviestChannel_4 {n : Nat} {p l1 l2 : Nat} {F : fx_F} {v : fx_V} {F' : fx_F} (h : Rn n k_Ro_heaviestChannel 4 [(2, p), (0, l1), (0, l2)] [] F v F') :
  (s_le (i_mul 2 (F 3 1)) l2 →
   v = (0, l1) ∧ F' = F) ∧
  (s_lt l2 (i_mul 2 (F 3 1)) →
   (s_le (F (p + 4) l2) (F (p + 4) l1) →
     ∃ m, m < n ∧ Rn m k_Ro_heaviestChannel 4 [(2, p), (0, l1), (0, i_add l2 1)] [] F v F') ∧
    (s_lt (F (p + 4) l1) (F (p + 4) l2) →
     ∃ m, m < n ∧ Rn m k_Ro_heaviestChannel 4 [(2, p), (0, l2), (0, i_add l2 1)] [] F v F')) := by
  have t := q_ok cv_95 ap_95 (hd := [(4, [1, 1, 1])]) h rfl rfl
  exact t
-- TurnNet$Routes.hopsTogether()I
theorem c_Ro_hopsTogether {p : Nat} {F : fx_F} {v : fx_V} {F' : fx_F} (h : Cl k_Ro_hopsTogether [(2, p)] F v F') : ∃ n, Rn n k_Ro_hopsTogether 0 [(2, p), (3, 0), (3, 0), (3, 0)] [] F v F' := by
  obtain ⟨n, s, hs, h⟩ := h
  rw [sg_96] at hs
  cases hs
  exact ⟨n, h⟩
set_option maxRecDepth 40000 in
theorem q_Ro_hopsTogether_0 {n : Nat} {p : Nat} {F : fx_F} {v : fx_V} {F' : fx_F} (h : Rn n k_Ro_hopsTogether 0 [(2, p), (3, 0), (3, 0), (3, 0)] [] F v F') :
  ∃ m, m < n ∧ Rn m k_Ro_hopsTogether 4 [(2, p), (0, 0), (0, 0), (3, 0)] [] F v F' := by
  have t := q_ok cv_96 ap_96 (hd := [(4, [1, 1, 1, 0]), (17, [1, 1, 1, 1])]) h rfl rfl
  exact t
set_option maxRecDepth 40000 in
theorem q_Ro_hopsTogether_4 {n : Nat} {p l1 l2 : Nat} {F : fx_F} {v : fx_V} {F' : fx_F} (h : Rn n k_Ro_hopsTogether 4 [(2, p), (0, l1), (0, l2), (3, 0)] [] F v F') :
  (s_le (F 3 0) l2 →
   v = (0, l1) ∧ F' = F) ∧
  (s_lt l2 (F 3 0) →
   ∃ m, m < n ∧ Rn m k_Ro_hopsTogether 17 [(2, p), (0, l1), (0, l2), (0, 0)] [] F v F') := by
  have t := q_ok cv_96 ap_96 (hd := [(4, [1, 1, 1, 0]), (17, [1, 1, 1, 1])]) h rfl rfl
  exact t
set_option maxRecDepth 40000 in
theorem q_Ro_hopsTogether_17 {n : Nat} {p l1 l2 l3 : Nat} {F : fx_F} {v : fx_V} {F' : fx_F} (h : Rn n k_Ro_hopsTogether 17 [(2, p), (0, l1), (0, l2), (0, l3)] [] F v F') :
  (s_le (F 3 0) l3 →
   ∃ m, m < n ∧ Rn m k_Ro_hopsTogether 4 [(2, p), (0, l1), (0, i_add l2 1), (3, 0)] [] F v F') ∧
  (s_lt l3 (F 3 0) →
   ∃ m, m < n ∧ Rn m k_Ro_hopsTogether 17 [(2, p), (0, i_add l1 (i_max (F (p + 1) (i_add (i_mul l3 20) (i_mul 2 l2))) 0)), (0, l2), (0, i_add l3 1)] [] F v F') := by
  have t := q_ok cv_96 ap_96 (hd := [(4, [1, 1, 1, 0]), (17, [1, 1, 1, 1])]) h rfl rfl
  exact t
-- TurnNet$Routes.leadsOn(III)Z
theorem c_Ro_leadsOn {p a1 a2 a3 : Nat} {F : fx_F} {v : fx_V} {F' : fx_F} (h : Cl k_Ro_leadsOn [(2, p), (0, a1), (0, a2), (0, a3)] F v F') : ∃ n, Rn n k_Ro_leadsOn 0 [(2, p), (0, a1), (0, a2), (0, a3), (3, 0), (3, 0)] [] F v F' := by
  obtain ⟨n, s, hs, h⟩ := h
  rw [sg_97] at hs
  cases hs
  exact ⟨n, h⟩
set_option maxRecDepth 40000 in
theorem q_Ro_leadsOn_0 {n : Nat} {p a1 a2 a3 : Nat} {F : fx_F} {v : fx_V} {F' : fx_F} (h : Rn n k_Ro_leadsOn 0 [(2, p), (0, a1), (0, a2), (0, a3), (3, 0), (3, 0)] [] F v F') :
  ((i_and (i_shr (F p 2) (i_shr a2 1)) 1) ≠ 1 →
   v = (0, 0) ∧ F' = F) ∧
  ((i_and (i_shr (F p 2) (i_shr a2 1)) 1) = 1 →
   (s_le a3 (F (p + 5) a2) →
     (s_le (F (p + 1) (i_add (i_add (i_mul a1 20) (i_mul 2 (F 4 a2))) a3)) 0 →
       v = (0, 0) ∧ F' = F) ∧
      (s_lt 0 (F (p + 1) (i_add (i_add (i_mul a1 20) (i_mul 2 (F 4 a2))) a3)) →
       ((F (p + 1) (i_add (i_mul a1 20) (i_add (i_mul 2 (F 5 a2)) (F (p + 5) a2)))) ≠ (i_sub (F (p + 1) (i_add (i_add (i_mul a1 20) (i_mul 2 (F 4 a2))) a3)) 1) →
         v = (0, 0) ∧ F' = F) ∧
        ((F (p + 1) (i_add (i_mul a1 20) (i_add (i_mul 2 (F 5 a2)) (F (p + 5) a2)))) = (i_sub (F (p + 1) (i_add (i_add (i_mul a1 20) (i_mul 2 (F 4 a2))) a3)) 1) →
         v = (0, 1) ∧ F' = F))) ∧
    (s_lt (F (p + 5) a2) a3 →
     v = (0, 0) ∧ F' = F)) := by
  have t := q_ok cv_97 ap_97 (hd := []) h rfl rfl
  exact t
-- TurnNet$Routes.pairsWithout()I
theorem c_Ro_pairsWithout {p : Nat} {F : fx_F} {v : fx_V} {F' : fx_F} (h : Cl k_Ro_pairsWithout [(2, p)] F v F') : ∃ n, Rn n k_Ro_pairsWithout 0 [(2, p), (3, 0), (3, 0), (3, 0)] [] F v F' := by
  obtain ⟨n, s, hs, h⟩ := h
  rw [sg_98] at hs
  cases hs
  exact ⟨n, h⟩
set_option maxRecDepth 40000 in
theorem q_Ro_pairsWithout_0 {n : Nat} {p : Nat} {F : fx_F} {v : fx_V} {F' : fx_F} (h : Rn n k_Ro_pairsWithout 0 [(2, p), (3, 0), (3, 0), (3, 0)] [] F v F') :
  ∃ m, m < n ∧ Rn m k_Ro_pairsWithout 4 [(2, p), (0, 0), (0, 0), (3, 0)] [] F v F' := by
  have t := q_ok cv_98 ap_98 (hd := [(4, [1, 1, 1, 0]), (17, [1, 1, 1, 1])]) h rfl rfl
  exact t
set_option maxRecDepth 40000 in
theorem q_Ro_pairsWithout_4 {n : Nat} {p l1 l2 : Nat} {F : fx_F} {v : fx_V} {F' : fx_F} (h : Rn n k_Ro_pairsWithout 4 [(2, p), (0, l1), (0, l2), (3, 0)] [] F v F') :
  (s_le (F 3 0) l2 →
   v = (0, l1) ∧ F' = F) ∧
  (s_lt l2 (F 3 0) →
   ∃ m, m < n ∧ Rn m k_Ro_pairsWithout 17 [(2, p), (0, l1), (0, l2), (0, 0)] [] F v F') := by
  have t := q_ok cv_98 ap_98 (hd := [(4, [1, 1, 1, 0]), (17, [1, 1, 1, 1])]) h rfl rfl
  exact t
set_option maxRecDepth 40000 in
theorem q_Ro_pairsWithout_17 {n : Nat} {p l1 l2 l3 : Nat} {F : fx_F} {v : fx_V} {F' : fx_F} (h : Rn n k_Ro_pairsWithout 17 [(2, p), (0, l1), (0, l2), (0, l3)] [] F v F') :
  (s_le (F 3 0) l3 →
   ∃ m, m < n ∧ Rn m k_Ro_pairsWithout 4 [(2, p), (0, l1), (0, i_add l2 1), (3, 0)] [] F v F') ∧
  (s_lt l3 (F 3 0) →
   ((F (p + 1) (i_add (i_mul l3 20) (i_mul 2 l2))) ≠ 4294967295 →
     ∃ m, m < n ∧ Rn m k_Ro_pairsWithout 17 [(2, p), (0, l1), (0, l2), (0, i_add l3 1)] [] F v F') ∧
    ((F (p + 1) (i_add (i_mul l3 20) (i_mul 2 l2))) = 4294967295 →
     ∃ m, m < n ∧ Rn m k_Ro_pairsWithout 17 [(2, p), (0, i_add l1 1), (0, l2), (0, i_add l3 1)] [] F v F')) := by
  have t := q_ok cv_98 ap_98 (hd := [(4, [1, 1, 1, 0]), (17, [1, 1, 1, 1])]) h rfl rfl
  exact t
-- TurnNet$State.copyFrom(LTurnNet$State;)V
theorem c_St_copyFrom {p a1 : Nat} {F : fx_F} {v : fx_V} {F' : fx_F} (h : Cl k_St_copyFrom [(2, p), (2, a1)] F v F') : ∃ n, Rn n k_St_copyFrom 0 [(2, p), (2, a1)] [] F v F' := by
  obtain ⟨n, s, hs, h⟩ := h
  rw [sg_100] at hs
  cases hs
  exact ⟨n, h⟩
set_option maxRecDepth 40000 in
theorem q_St_copyFrom_0 {n : Nat} {p a1 : Nat} {F : fx_F} {v : fx_V} {F' : fx_F} (h : Rn n k_St_copyFrom 0 [(2, p), (2, a1)] [] F v F') :
  v = (2, 0) ∧ F' = (fcp (fcp (fcp (fcp (fu (fu (fu (fu (fu F p 0 (F a1 0)) p 1 ((fu F p 0 (F a1 0)) a1 1)) p 2 ((fu (fu F p 0 (F a1 0)) p 1 ((fu F p 0 (F a1 0)) a1 1)) a1 2)) p 3 ((fu (fu (fu F p 0 (F a1 0)) p 1 ((fu F p 0 (F a1 0)) a1 1)) p 2 ((fu (fu F p 0 (F a1 0)) p 1 ((fu F p 0 (F a1 0)) a1 1)) a1 2)) a1 3)) p 4 ((fu (fu (fu (fu F p 0 (F a1 0)) p 1 ((fu F p 0 (F a1 0)) a1 1)) p 2 ((fu (fu F p 0 (F a1 0)) p 1 ((fu F p 0 (F a1 0)) a1 1)) a1 2)) p 3 ((fu (fu (fu F p 0 (F a1 0)) p 1 ((fu F p 0 (F a1 0)) a1 1)) p 2 ((fu (fu F p 0 (F a1 0)) p 1 ((fu F p 0 (F a1 0)) a1 1)) a1 2)) a1 3)) a1 4)) (a1 + 1) (p + 1)) (a1 + 2) (p + 2)) (a1 + 3) (p + 3)) (a1 + 4) (p + 4)) := by
  have t := q_ok cv_100 ap_100 (hd := []) h rfl rfl
  exact t
-- TurnNet$State.put(II)I
theorem c_St_put {p a1 a2 : Nat} {F : fx_F} {v : fx_V} {F' : fx_F} (h : Cl k_St_put [(2, p), (0, a1), (0, a2)] F v F') : ∃ n, Rn n k_St_put 0 [(2, p), (0, a1), (0, a2), (3, 0)] [] F v F' := by
  obtain ⟨n, s, hs, h⟩ := h
  rw [sg_101] at hs
  cases hs
  exact ⟨n, h⟩
set_option maxRecDepth 40000 in
theorem q_St_put_0 {n : Nat} {p a1 a2 : Nat} {F : fx_F} {v : fx_V} {F' : fx_F} (h : Rn n k_St_put 0 [(2, p), (0, a1), (0, a2), (3, 0)] [] F v F') :
  ∃ (n1 : Nat) (F1 : fx_F), Cl k_St_freePacket [(2, p)] F (0, n1) F1 ∧
  (n1 = 4294967295 →
    v = (0, n1) ∧ F' = F1) ∧
   (n1 ≠ 4294967295 →
    v = (0, n1) ∧ F' = (fu (fu (fu (fu F1 (p + 1) n1 a1) (p + 2) n1 a2) (p + 3) n1 4294967295) (p + 4) n1 0)) := by
  have t := q_ok cv_101 ap_101 (hd := []) h rfl rfl
  exact t
-- TurnNet$Traffic.nextChannel(LTurnNet$State;LTurnNet$Routes;I)I
theorem c_Tr_nextChannel {a1 a2 a3 : Nat} {F : fx_F} {v : fx_V} {F' : fx_F} (h : Cl k_Tr_nextChannel [(2, 50), (2, a1), (2, a2), (0, a3)] F v F') : ∃ n, Rn n k_Tr_nextChannel 0 [(2, 50), (2, a1), (2, a2), (0, a3), (3, 0), (3, 0)] [] F v F' := by
  obtain ⟨n, s, hs, h⟩ := h
  rw [sg_103] at hs
  cases hs
  exact ⟨n, h⟩
set_option maxRecDepth 40000 in
theorem q_Tr_nextChannel_0 {n : Nat} {a1 a2 a3 : Nat} {F : fx_F} {v : fx_V} {F' : fx_F} (h : Rn n k_Tr_nextChannel 0 [(2, 50), (2, a1), (2, a2), (0, a3), (3, 0), (3, 0)] [] F v F') :
  ((F (a1 + 3) a3) = 4294967295 →
   v = (0, F (a2 + 2) (i_add (i_add (i_mul (F (a1 + 2) a3) 20) (i_mul 2 (F (a1 + 1) a3))) 0)) ∧ F' = F) ∧
  ((F (a1 + 3) a3) ≠ 4294967295 →
   ((i_and (i_shr (F a1 1) (i_shr (F (a1 + 3) a3) 1)) 1) = (i_and (F (a1 + 3) a3) 1) →
     v = (0, F (a2 + 2) (i_add (i_add (i_mul (F (a1 + 2) a3) 20) (i_mul 2 (F (a1 + 1) a3))) 1)) ∧ F' = F) ∧
    ((i_and (i_shr (F a1 1) (i_shr (F (a1 + 3) a3) 1)) 1) ≠ (i_and (F (a1 + 3) a3) 1) →
     v = (0, F (a2 + 2) (i_add (i_add (i_mul (F (a1 + 2) a3) 20) (i_mul 2 (F (a1 + 1) a3))) 0)) ∧ F' = F)) := by
  have t := q_ok cv_103 ap_103 (hd := []) h rfl rfl
  exact t
-- TurnNet$Turns.haveRing()Z
theorem c_Tu_haveRing {F : fx_F} {v : fx_V} {F' : fx_F} (h : Cl k_Tu_haveRing [(2, 45)] F v F') : ∃ n, Rn n k_Tu_haveRing 0 [(2, 45), (3, 0), (3, 0), (3, 0), (3, 0), (3, 0)] [] F v F' := by
  obtain ⟨n, s, hs, h⟩ := h
  rw [sg_105] at hs
  cases hs
  exact ⟨n, h⟩
set_option maxRecDepth 40000 in
theorem q_Tu_haveRing_0 {n : Nat} {F : fx_F} {v : fx_V} {F' : fx_F} (h : Rn n k_Tu_haveRing 0 [(2, 45), (3, 0), (3, 0), (3, 0), (3, 0), (3, 0)] [] F v F') :
  ∃ m, m < n ∧ Rn m k_Tu_haveRing 17 [(2, 45), (1, rx_j_sub (rx_j_shl 1 (i_mul 2 (F 3 1))) 1), (3, 0), (0, 1), (0, 0), (3, 0)] [] F v F' := by
  have t := q_ok cv_105 ap_105 (hd := [(17, [1, 1, 0, 1, 1, 0]), (33, [1, 1, 0, 1, 1, 1])]) h rfl rfl
  exact t
set_option maxRecDepth 40000 in
theorem q_Tu_haveRing_17 {n : Nat} {l1 l3 l4 : Nat} {F : fx_F} {v : fx_V} {F' : fx_F} (h : Rn n k_Tu_haveRing 17 [(2, 45), (1, l1), (3, 0), (0, l3), (0, l4), (3, 0)] [] F v F') :
  (s_lt 40 l4 →
   ((rx_f_lcmp l1 0) = 0 →
     v = (0, 0) ∧ F' = F) ∧
    ((rx_f_lcmp l1 0) ≠ 0 →
     v = (0, 1) ∧ F' = F)) ∧
  (s_le l4 40 →
   (l3 = 0 →
     ((rx_f_lcmp l1 0) = 0 →
       v = (0, 0) ∧ F' = F) ∧
      ((rx_f_lcmp l1 0) ≠ 0 →
       v = (0, 1) ∧ F' = F)) ∧
    (l3 ≠ 0 →
     ∃ m, m < n ∧ Rn m k_Tu_haveRing 33 [(2, 45), (1, l1), (3, 0), (0, 0), (0, l4), (0, 0)] [] F v F')) := by
  have t := q_ok cv_105 ap_105 (hd := [(17, [1, 1, 0, 1, 1, 0]), (33, [1, 1, 0, 1, 1, 1])]) h rfl rfl
  exact t
set_option maxRecDepth 40000 in
theorem q_Tu_haveRing_33 {n : Nat} {l1 l3 l4 l5 : Nat} {F : fx_F} {v : fx_V} {F' : fx_F} (h : Rn n k_Tu_haveRing 33 [(2, 45), (1, l1), (3, 0), (0, l3), (0, l4), (0, l5)] [] F v F') :
  (s_le (i_mul 2 (F 3 1)) l5 →
   ∃ m, m < n ∧ Rn m k_Tu_haveRing 17 [(2, 45), (1, l1), (3, 0), (0, l3), (0, i_add l4 1), (3, 0)] [] F v F') ∧
  (s_lt l5 (i_mul 2 (F 3 1)) →
   ((rx_f_lcmp (rx_j_and (rx_j_shr l1 l5) 1) 1) ≠ 0 →
     ∃ m, m < n ∧ Rn m k_Tu_haveRing 33 [(2, 45), (1, l1), (3, 0), (0, l3), (0, l4), (0, i_add l5 1)] [] F v F') ∧
    ((rx_f_lcmp (rx_j_and (rx_j_shr l1 l5) 1) 1) = 0 →
     ((rx_f_lcmp (rx_j_and (F 47 l5) l1) 0) ≠ 0 →
       ∃ m, m < n ∧ Rn m k_Tu_haveRing 33 [(2, 45), (1, l1), (3, 0), (0, l3), (0, l4), (0, i_add l5 1)] [] F v F') ∧
      ((rx_f_lcmp (rx_j_and (F 47 l5) l1) 0) = 0 →
       ∃ m, m < n ∧ Rn m k_Tu_haveRing 33 [(2, 45), (1, rx_j_and l1 (rx_j_xor (rx_j_shl 1 l5) 18446744073709551615)), (3, 0), (0, 1), (0, l4), (0, i_add l5 1)] [] F v F'))) := by
  have t := q_ok cv_105 ap_105 (hd := [(17, [1, 1, 0, 1, 1, 0]), (33, [1, 1, 0, 1, 1, 1])]) h rfl rfl
  exact t
-- TurnNet$Turns.ontoFrom(J)J
theorem c_Tu_ontoFrom {a1 : Nat} {F : fx_F} {v : fx_V} {F' : fx_F} (h : Cl k_Tu_ontoFrom [(2, 45), (1, a1)] F v F') : ∃ n, Rn n k_Tu_ontoFrom 0 [(2, 45), (1, a1), (3, 0), (3, 0), (3, 0), (3, 0)] [] F v F' := by
  obtain ⟨n, s, hs, h⟩ := h
  rw [sg_106] at hs
  cases hs
  exact ⟨n, h⟩
set_option maxRecDepth 40000 in
theorem q_Tu_ontoFrom_0 {n : Nat} {a1 : Nat} {F : fx_F} {v : fx_V} {F' : fx_F} (h : Rn n k_Tu_ontoFrom 0 [(2, 45), (1, a1), (3, 0), (3, 0), (3, 0), (3, 0)] [] F v F') :
  ∃ m, m < n ∧ Rn m k_Tu_ontoFrom 5 [(2, 45), (1, a1), (3, 0), (1, 0), (3, 0), (0, 0)] [] F v F' := by
  have t := q_ok cv_106 ap_106 (hd := [(5, [1, 1, 0, 1, 0, 1])]) h rfl rfl
  exact t
set_option maxRecDepth 40000 in
theorem q_Tu_ontoFrom_5 {n : Nat} {l1 l3 l5 : Nat} {F : fx_F} {v : fx_V} {F' : fx_F} (h : Rn n k_Tu_ontoFrom 5 [(2, 45), (1, l1), (3, 0), (1, l3), (3, 0), (0, l5)] [] F v F') :
  (s_le (i_mul 2 (F 3 1)) l5 →
   v = (1, l3) ∧ F' = F) ∧
  (s_lt l5 (i_mul 2 (F 3 1)) →
   ((rx_f_lcmp (rx_j_and (rx_j_shr l1 l5) 1) 1) ≠ 0 →
     ∃ m, m < n ∧ Rn m k_Tu_ontoFrom 5 [(2, 45), (1, l1), (3, 0), (1, l3), (3, 0), (0, i_add l5 1)] [] F v F') ∧
    ((rx_f_lcmp (rx_j_and (rx_j_shr l1 l5) 1) 1) = 0 →
     ∃ m, m < n ∧ Rn m k_Tu_ontoFrom 5 [(2, 45), (1, l1), (3, 0), (1, rx_j_or l3 (F 47 l5)), (3, 0), (0, i_add l5 1)] [] F v F')) := by
  have t := q_ok cv_106 ap_106 (hd := [(5, [1, 1, 0, 1, 0, 1])]) h rfl rfl
  exact t
