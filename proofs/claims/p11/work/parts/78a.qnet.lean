-- behind the text
set_option maxRecDepth 40000 in
theorem q_T_net_7 {n : Nat} {s0 : Nat} {F : fx_F} {v : fx_V} {F' : fx_F} (h : Rn n k_T_net 7 [(2, 2), (3, 0), (3, 0)] [(0, s0)] F v F') :
  (s0 ≠ 0 →
   ∃ F1 : fx_F, Cl k_Net_copyFrom [(2, 3), (2, 12)] (fu F 10 1 0) (2, 0) F1 ∧
    ∃ m, m < n ∧ Rn m k_T_net 59 [(2, 2), (3, 0), (0, 0)] [] (fu (fu (fu (fu (fu (fu F1 24 3 0) 24 4 0) 32 3 0) 32 4 0) 51 2 0) 51 3 0) v F') ∧
  (s0 = 0 →
   v = (0, 4294967295) ∧ F' = (fu F 10 1 0)) := by
  have t := q_ok cv_331 ap_331 (hd := [(7, [1, 0, 0]), (59, [1, 0, 1])]) h rfl rfl
  exact t
