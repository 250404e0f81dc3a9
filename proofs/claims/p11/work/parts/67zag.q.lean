-- TurnNetModel.leastUsed(III)I
theorem c_M_leastUsed {a1 a2 a3 : Nat} {F : fx_F} {v : fx_V} {F' : fx_F} (h : Cl k_M_leastUsed [(2, 175), (0, a1), (0, a2), (0, a3)] F v F') : ∃ n, Rn n k_M_leastUsed 0 [(2, 175), (0, a1), (0, a2), (0, a3), (3, 0), (3, 0)] [] F v F' := by
  obtain ⟨n, s, hs, h⟩ := h
  rw [sg_270] at hs
  cases hs
  exact ⟨n, h⟩
set_option maxRecDepth 40000 in
theorem q_M_leastUsed_0 {n : Nat} {a1 a2 a3 : Nat} {F : fx_F} {v : fx_V} {F' : fx_F} (h : Rn n k_M_leastUsed 0 [(2, 175), (0, a1), (0, a2), (0, a3), (3, 0), (3, 0)] [] F v F') :
  ∃ m, m < n ∧ Rn m k_M_leastUsed 6 [(2, 175), (0, a1), (0, a2), (0, a3), (0, 4294967295), (0, 0)] [] F v F' := by
  have t := q_ok cv_270 ap_270 (hd := [(6, [1, 1, 1, 1, 1, 1])]) h rfl rfl
  exact t
set_option maxRecDepth 40000 in
theorem q_M_leastUsed_6 {n : Nat} {l1 l2 l3 l4 l5 : Nat} {F : fx_F} {v : fx_V} {F' : fx_F} (h : Rn n k_M_leastUsed 6 [(2, 175), (0, l1), (0, l2), (0, l3), (0, l4), (0, l5)] [] F v F') :
  (s_le (i_mul 2 (F 178 (F 175 9))) l5 →
   v = (0, l4) ∧ F' = F) ∧
  (s_lt l5 (i_mul 2 (F 178 (F 175 9))) →
   ((F 183 (i_add (i_add (i_mul 40 (F 175 9)) (i_mul 2 (i_div l5 2))) (i_rem l5 2))) ≠ l2 →
     ∃ m, m < n ∧ Rn m k_M_leastUsed 6 [(2, 175), (0, l1), (0, l2), (0, l3), (0, l4), (0, i_add l5 1)] [] F v F') ∧
    ((F 183 (i_add (i_add (i_mul 40 (F 175 9)) (i_mul 2 (i_div l5 2))) (i_rem l5 2))) = l2 →
     ∃ (n1 : Nat) (F1 : fx_F), Cl k_M_isNext [(2, 175), (0, l1), (0, l5), (0, l3)] F (0, n1) F1 ∧
      (n1 ≠ 0 →
        (s_lt l4 0 →
          ∃ m, m < n ∧ Rn m k_M_leastUsed 6 [(2, 175), (0, l1), (0, l2), (0, l3), (0, l5), (0, i_add l5 1)] [] F1 v F') ∧
         (s_le 0 l4 →
          (s_le (F1 197 l4) (F1 197 l5) →
            ∃ m, m < n ∧ Rn m k_M_leastUsed 6 [(2, 175), (0, l1), (0, l2), (0, l3), (0, l4), (0, i_add l5 1)] [] F1 v F') ∧
           (s_lt (F1 197 l5) (F1 197 l4) →
            ∃ m, m < n ∧ Rn m k_M_leastUsed 6 [(2, 175), (0, l1), (0, l2), (0, l3), (0, l5), (0, i_add l5 1)] [] F1 v F'))) ∧
       (n1 = 0 →
        ∃ m, m < n ∧ Rn m k_M_leastUsed 6 [(2, 175), (0, l1), (0, l2), (0, l3), (0, l4), (0, i_add l5 1)] [] F1 v F'))) := by
  have t := q_ok cv_270 ap_270 (hd := [(6, [1, 1, 1, 1, 1, 1])]) h rfl rfl
  exact t
-- TurnNetModel.length(II)I
theorem c_M_length {a1 a2 : Nat} {F : fx_F} {v : fx_V} {F' : fx_F} (h : Cl k_M_length [(2, 175), (0, a1), (0, a2)] F v F') : ∃ n, Rn n k_M_length 0 [(2, 175), (0, a1), (0, a2)] [] F v F' := by
  obtain ⟨n, s, hs, h⟩ := h
  rw [sg_271] at hs
  cases hs
  exact ⟨n, h⟩
set_option maxRecDepth 40000 in
theorem q_M_length_0 {n : Nat} {a1 a2 : Nat} {F : fx_F} {v : fx_V} {F' : fx_F} (h : Rn n k_M_length 0 [(2, 175), (0, a1), (0, a2)] [] F v F') :
  (s_lt a1 0 →
   v = (0, 4294967295) ∧ F' = F) ∧
  (s_le 0 a1 →
   (s_lt (i_sub (F 177 (F 175 9)) 1) a1 →
     v = (0, 4294967295) ∧ F' = F) ∧
    (s_le a1 (i_sub (F 177 (F 175 9)) 1) →
     (s_lt a2 0 →
       v = (0, 4294967295) ∧ F' = F) ∧
      (s_le 0 a2 →
       (s_lt (i_sub (F 177 (F 175 9)) 1) a2 →
         v = (0, 4294967295) ∧ F' = F) ∧
        (s_le a2 (i_sub (F 177 (F 175 9)) 1) →
         ∃ F1 : fx_F, Cl k_M_layGoal [(2, 175), (0, a2)] F (2, 0) F1 ∧
          (s_le 100000 (F1 193 (i_add (i_add (i_mul 20 a2) (i_mul 2 a1)) 0)) →
            v = (0, 4294967295) ∧ F' = F1) ∧
           (s_lt (F1 193 (i_add (i_add (i_mul 20 a2) (i_mul 2 a1)) 0)) 100000 →
            v = (0, F1 193 (i_add (i_add (i_mul 20 a2) (i_mul 2 a1)) 0)) ∧ F' = F1))))) := by
  have t := q_ok cv_271 ap_271 (hd := []) h rfl rfl
  exact t
-- TurnNetModel.net()I
theorem c_M_net {F : fx_F} {v : fx_V} {F' : fx_F} (h : Cl k_M_net [(2, 175)] F v F') : ∃ n, Rn n k_M_net 0 [(2, 175), (3, 0)] [] F v F' := by
  obtain ⟨n, s, hs, h⟩ := h
  rw [sg_272] at hs
  cases hs
  exact ⟨n, h⟩
set_option maxRecDepth 40000 in
theorem q_M_net_0 {n : Nat} {F : fx_F} {v : fx_V} {F' : fx_F} (h : Rn n k_M_net 0 [(2, 175), (3, 0)] [] F v F') :
  ∃ F1 : fx_F, Cl k_M_readAll [(2, 175), (0, i_sub 1 (F 175 9))] (fu (fu (fu (fu (fu (fu (fu (fu (fu (fu (fu (fu (fu (fu F 175 12 (F 175 11)) 175 11 0) 175 13 0) 175 18 0) 175 19 4294967295) 175 23 0) 175 24 0) 175 25 0) 177 (i_sub 1 (F 175 9)) 0) 178 (i_sub 1 (F 175 9)) 0) 179 (i_sub 1 (F 175 9)) 0) 180 (i_sub 1 (F 175 9)) 1) 181 (i_sub 1 (F 175 9)) 0) 182 (i_sub 1 (F 175 9)) 0) (2, 0) F1 ∧
  (s_le (F1 175 18) 0 →
    ∃ F2 : fx_F, Cl k_M_startAnew [(2, 175)] (fu (fu (fu F1 175 20 (F1 175 18)) 175 21 (F1 175 19)) 175 9 (i_sub 1 (F 175 9))) (2, 0) F2 ∧
     v = (0, F2 177 (F2 175 9)) ∧ F' = F2) ∧
   (s_lt 0 (F1 175 18) →
    v = (0, 4294967295) ∧ F' = (fu (fu F1 175 20 (F1 175 18)) 175 21 (F1 175 19))) := by
  have t := q_ok cv_272 ap_272 (hd := []) h rfl rfl
  exact t
-- TurnNetModel.ring(I)I
theorem c_M_ring {a1 : Nat} {F : fx_F} {v : fx_V} {F' : fx_F} (h : Cl k_M_ring [(2, 175), (0, a1)] F v F') : ∃ n, Rn n k_M_ring 0 [(2, 175), (0, a1)] [] F v F' := by
  obtain ⟨n, s, hs, h⟩ := h
  rw [sg_273] at hs
  cases hs
  exact ⟨n, h⟩
set_option maxRecDepth 40000 in
theorem q_M_ring_0 {n : Nat} {a1 : Nat} {F : fx_F} {v : fx_V} {F' : fx_F} (h : Rn n k_M_ring 0 [(2, 175), (0, a1)] [] F v F') :
  (s_lt a1 0 →
   v = (0, 4294967295) ∧ F' = F) ∧
  (s_le 0 a1 →
   (s_lt (i_sub (i_mul 2 (F 178 (F 175 9))) 1) a1 →
     v = (0, 4294967295) ∧ F' = F) ∧
    (s_le a1 (i_sub (i_mul 2 (F 178 (F 175 9))) 1) →
     ∃ F1 : fx_F, Cl k_M_layTurns [(2, 175)] F (2, 0) F1 ∧
      ∃ (n2 : Nat) (F2 : fx_F), Cl k_M_roundOf [(2, 175), (0, a1)] F1 (0, n2) F2 ∧
       v = (0, n2) ∧ F' = F2)) := by
  have t := q_ok cv_273 ap_273 (hd := []) h rfl rfl
  exact t
-- TurnNetModel.rings()I
theorem c_M_rings {F : fx_F} {v : fx_V} {F' : fx_F} (h : Cl k_M_rings [(2, 175)] F v F') : ∃ n, Rn n k_M_rings 0 [(2, 175), (3, 0), (3, 0)] [] F v F' := by
  obtain ⟨n, s, hs, h⟩ := h
  rw [sg_274] at hs
  cases hs
  exact ⟨n, h⟩
set_option maxRecDepth 40000 in
theorem q_M_rings_0 {n : Nat} {F : fx_F} {v : fx_V} {F' : fx_F} (h : Rn n k_M_rings 0 [(2, 175), (3, 0), (3, 0)] [] F v F') :
  ∃ F1 : fx_F, Cl k_M_layTurns [(2, 175)] F (2, 0) F1 ∧
  ∃ m, m < n ∧ Rn m k_M_rings 8 [(2, 175), (0, 0), (0, 0)] [] F1 v F' := by
  have t := q_ok cv_274 ap_274 (hd := [(8, [1, 1, 1])]) h rfl rfl
  exact t
set_option maxRecDepth 40000 in
theorem q_M_rings_8 {n : Nat} {l1 l2 : Nat} {F : fx_F} {v : fx_V} {F' : fx_F} (h : Rn n k_M_rings 8 [(2, 175), (0, l1), (0, l2)] [] F v F') :
  (s_le (i_mul 2 (F 178 (F 175 9))) l2 →
   v = (0, l1) ∧ F' = F) ∧
  (s_lt l2 (i_mul 2 (F 178 (F 175 9))) →
   ∃ (n1 : Nat) (F1 : fx_F), Cl k_M_roundOf [(2, 175), (0, l2)] F (0, n1) F1 ∧
    (s_le n1 0 →
      ∃ m, m < n ∧ Rn m k_M_rings 8 [(2, 175), (0, i_add l1 0), (0, i_add l2 1)] [] F1 v F') ∧
     (s_lt 0 n1 →
      ∃ m, m < n ∧ Rn m k_M_rings 8 [(2, 175), (0, i_add l1 1), (0, i_add l2 1)] [] F1 v F')) := by
  have t := q_ok cv_274 ap_274 (hd := [(8, [1, 1, 1])]) h rfl rfl
  exact t
-- TurnNet$Reader.isWord(Ljava/lang/String;)Z
theorem c_Rd_isWord {a1 : Nat} {F : fx_F} {v : fx_V} {F' : fx_F} (h : Cl k_Rd_isWord [(2, 10), (2, a1)] F v F') : ∃ n, Rn n k_Rd_isWord 0 [(2, 10), (2, a1), (3, 0)] [] F v F' := by
  obtain ⟨n, s, hs, h⟩ := h
  rw [sg_275] at hs
  cases hs
  exact ⟨n, h⟩
set_option maxRecDepth 40000 in
theorem q_Rd_isWord_0 {n : Nat} {a1 : Nat} {F : fx_F} {v : fx_V} {F' : fx_F} (h : Rn n k_Rd_isWord 0 [(2, 10), (2, a1), (3, 0)] [] F v F') :
  ((F 10 7) ≠ 1 →
   v = (0, 0) ∧ F' = F) ∧
  ((F 10 7) = 1 →
   ∃ n1 : Nat,
    ((i_sub (F 10 5) (F 10 6)) = n1 →
      ∃ m, m < n ∧ Rn m k_Rd_isWord 28 [(2, 10), (2, a1), (0, 0)] [] F v F') ∧
     ((i_sub (F 10 5) (F 10 6)) ≠ n1 →
      v = (0, 0) ∧ F' = F)) := by
  have t := q_ok cv_275 ap_275 (hd := [(28, [1, 1, 1])]) h rfl rfl
  exact t
set_option maxRecDepth 40000 in
theorem q_Rd_isWord_28 {n : Nat} {l1 l2 : Nat} {F : fx_F} {v : fx_V} {F' : fx_F} (h : Rn n k_Rd_isWord 28 [(2, 10), (2, l1), (0, l2)] [] F v F') :
  ∃ n1 : Nat,
  (s_le n1 l2 →
    v = (0, 1) ∧ F' = F) ∧
   (s_lt l2 n1 →
    ∃ n2 : Nat,
     ((F 11 (i_add (F 10 6) l2)) = n2 →
       ∃ m, m < n ∧ Rn m k_Rd_isWord 28 [(2, 10), (2, l1), (0, i_add l2 1)] [] F v F') ∧
      ((F 11 (i_add (F 10 6) l2)) ≠ n2 →
       v = (0, 0) ∧ F' = F)) := by
  have t := q_ok cv_275 ap_275 (hd := [(28, [1, 1, 1])]) h rfl rfl
  exact t
-- TurnNetModel.around(III)I
theorem c_M_around {a1 a2 a3 : Nat} {F : fx_F} {v : fx_V} {F' : fx_F} (h : Cl k_M_around [(2, 175), (0, a1), (0, a2), (0, a3)] F v F') : ∃ n, Rn n k_M_around 0 [(2, 175), (0, a1), (0, a2), (0, a3), (3, 0)] [] F v F' := by
  obtain ⟨n, s, hs, h⟩ := h
  rw [sg_276] at hs
  cases hs
  exact ⟨n, h⟩
set_option maxRecDepth 40000 in
theorem q_M_around_0 {n : Nat} {a1 a2 a3 : Nat} {F : fx_F} {v : fx_V} {F' : fx_F} (h : Rn n k_M_around 0 [(2, 175), (0, a1), (0, a2), (0, a3), (3, 0)] [] F v F') :
  (s_lt a1 0 →
   v = (0, 4294967295) ∧ F' = F) ∧
  (s_le 0 a1 →
   (s_lt (i_sub (F 177 (F 175 9)) 1) a1 →
     v = (0, 4294967295) ∧ F' = F) ∧
    (s_le a1 (i_sub (F 177 (F 175 9)) 1) →
     (s_lt a2 0 →
       v = (0, 4294967295) ∧ F' = F) ∧
      (s_le 0 a2 →
       (s_lt (i_sub (F 177 (F 175 9)) 1) a2 →
         v = (0, 4294967295) ∧ F' = F) ∧
        (s_le a2 (i_sub (F 177 (F 175 9)) 1) →
         (s_lt a3 0 →
           v = (0, 4294967295) ∧ F' = F) ∧
          (s_le 0 a3 →
           (s_lt (i_sub (F 178 (F 175 9)) 1) a3 →
             v = (0, 4294967295) ∧ F' = F) ∧
            (s_le a3 (i_sub (F 178 (F 175 9)) 1) →
             ((F 176 (i_add 0 a3)) ≠ 1 →
               v = (0, 4294967295) ∧ F' = F) ∧
              ((F 176 (i_add 0 a3)) = 1 →
               ∃ F1 : fx_F, Cl k_M_putAside [(2, 175)] F (2, 0) F1 ∧
                ∃ (n2 : Nat) (F2 : fx_F), Cl k_M_length [(2, 175), (0, a1), (0, a2)] (fu F1 176 (i_add 0 a3) 0) (0, n2) F2 ∧
                 ∃ F3 : fx_F, Cl k_M_bringBack [(2, 175)] F2 (2, 0) F3 ∧
                  v = (0, n2) ∧ F' = F3))))))) := by
  have t := q_ok cv_276 ap_276 (hd := []) h rfl rfl
  exact t
-- TurnNetModel.layPairs()V
theorem c_M_layPairs {F : fx_F} {v : fx_V} {F' : fx_F} (h : Cl k_M_layPairs [(2, 175)] F v F') : ∃ n, Rn n k_M_layPairs 0 [(2, 175), (3, 0), (3, 0)] [] F v F' := by
  obtain ⟨n, s, hs, h⟩ := h
  rw [sg_277] at hs
  cases hs
  exact ⟨n, h⟩
set_option maxRecDepth 40000 in
theorem q_M_layPairs_0 {n : Nat} {F : fx_F} {v : fx_V} {F' : fx_F} (h : Rn n k_M_layPairs 0 [(2, 175), (3, 0), (3, 0)] [] F v F') :
  ∃ F1 : fx_F, Cl k_M_layGoals [(2, 175)] F (2, 0) F1 ∧
  ∃ m, m < n ∧ Rn m k_M_layPairs 26 [(2, 175), (0, 0), (3, 0)] [] (fu (fu (fu (fu F1 175 40 0) 175 41 0) 175 42 0) 175 43 0) v F' := by
  have t := q_ok cv_277 ap_277 (hd := [(26, [1, 1, 0]), (42, [1, 1, 1])]) h rfl rfl
  exact t
set_option maxRecDepth 40000 in
theorem q_M_layPairs_26 {n : Nat} {l1 : Nat} {F : fx_F} {v : fx_V} {F' : fx_F} (h : Rn n k_M_layPairs 26 [(2, 175), (0, l1), (3, 0)] [] F v F') :
  (s_le (F 177 (F 175 9)) l1 →
   v = (2, 0) ∧ F' = F) ∧
  (s_lt l1 (F 177 (F 175 9)) →
   ∃ F1 : fx_F, Cl k_M_layFar [(2, 175), (0, l1), (0, 4294967295)] F (2, 0) F1 ∧
    ∃ m, m < n ∧ Rn m k_M_layPairs 42 [(2, 175), (0, l1), (0, 0)] [] F1 v F') := by
  have t := q_ok cv_277 ap_277 (hd := [(26, [1, 1, 0]), (42, [1, 1, 1])]) h rfl rfl
  exact t
set_option maxRecDepth 40000 in
theorem q_M_layPairs_42 {n : Nat} {l1 l2 : Nat} {F : fx_F} {v : fx_V} {F' : fx_F} (h : Rn n k_M_layPairs 42 [(2, 175), (0, l1), (0, l2)] [] F v F') :
  (s_le (F 177 (F 175 9)) l2 →
   ∃ m, m < n ∧ Rn m k_M_layPairs 26 [(2, 175), (0, i_add l1 1), (3, 0)] [] F v F') ∧
  (s_lt l2 (F 177 (F 175 9)) →
   (l2 = l1 →
     ∃ m, m < n ∧ Rn m k_M_layPairs 42 [(2, 175), (0, l1), (0, i_add l2 1)] [] F v F') ∧
    (l2 ≠ l1 →
     (s_le 100000 (F 193 (i_add (i_add (i_mul 20 l2) (i_mul 2 l1)) 0)) →
       ((F 188 l2) ≠ 10 →
         ∃ m, m < n ∧ Rn m k_M_layPairs 42 [(2, 175), (0, l1), (0, i_add l2 1)] [] (fu (fu F 175 40 (i_add (F 175 40) 1)) 175 43 (i_add (F 175 43) 0)) v F') ∧
        ((F 188 l2) = 10 →
         ∃ m, m < n ∧ Rn m k_M_layPairs 42 [(2, 175), (0, l1), (0, i_add l2 1)] [] (fu (fu F 175 40 (i_add (F 175 40) 1)) 175 43 (i_add (F 175 43) 1)) v F')) ∧
      (s_lt (F 193 (i_add (i_add (i_mul 20 l2) (i_mul 2 l1)) 0)) 100000 →
       ∃ m, m < n ∧ Rn m k_M_layPairs 42 [(2, 175), (0, l1), (0, i_add l2 1)] [] (fu (fu F 175 41 (i_add (F 175 41) (F 193 (i_add (i_add (i_mul 20 l2) (i_mul 2 l1)) 0)))) 175 42 (i_add (F 175 42) (i_sub (F 193 (i_add (i_add (i_mul 20 l2) (i_mul 2 l1)) 0)) (F 188 l2)))) v F'))) := by
  have t := q_ok cv_277 ap_277 (hd := [(26, [1, 1, 0]), (42, [1, 1, 1])]) h rfl rfl
  exact t
-- TurnNetModel.layTable()V
theorem c_M_layTable {F : fx_F} {v : fx_V} {F' : fx_F} (h : Cl k_M_layTable [(2, 175)] F v F') : ∃ n, Rn n k_M_layTable 0 [(2, 175), (3, 0), (3, 0), (3, 0), (3, 0)] [] F v F' := by
  obtain ⟨n, s, hs, h⟩ := h
  rw [sg_278] at hs
  cases hs
  exact ⟨n, h⟩
set_option maxRecDepth 40000 in
theorem q_M_layTable_0 {n : Nat} {F : fx_F} {v : fx_V} {F' : fx_F} (h : Rn n k_M_layTable 0 [(2, 175), (3, 0), (3, 0), (3, 0), (3, 0)] [] F v F') :
  ∃ F1 : fx_F, Cl k_M_layGoals [(2, 175)] F (2, 0) F1 ∧
  ∃ m, m < n ∧ Rn m k_M_layTable 6 [(2, 175), (0, 0), (3, 0), (3, 0), (3, 0)] [] F1 v F' := by
  have t := q_ok cv_278 ap_278 (hd := [(6, [1, 1, 0, 0, 0]), (27, [1, 1, 0, 0, 0]), (37, [1, 1, 1, 0, 0]), (47, [1, 1, 1, 1, 0])]) h rfl rfl
  exact t
set_option maxRecDepth 40000 in
theorem q_M_layTable_6 {n : Nat} {l1 : Nat} {F : fx_F} {v : fx_V} {F' : fx_F} (h : Rn n k_M_layTable 6 [(2, 175), (0, l1), (3, 0), (3, 0), (3, 0)] [] F v F') :
  (s_le 40 l1 →
   ∃ m, m < n ∧ Rn m k_M_layTable 27 [(2, 175), (0, 0), (3, 0), (3, 0), (3, 0)] [] F v F') ∧
  (s_lt l1 40 →
   ∃ m, m < n ∧ Rn m k_M_layTable 6 [(2, 175), (0, i_add l1 1), (3, 0), (3, 0), (3, 0)] [] (fu F 197 l1 0) v F') := by
  have t := q_ok cv_278 ap_278 (hd := [(6, [1, 1, 0, 0, 0]), (27, [1, 1, 0, 0, 0]), (37, [1, 1, 1, 0, 0]), (47, [1, 1, 1, 1, 0])]) h rfl rfl
  exact t
set_option maxRecDepth 40000 in
theorem q_M_layTable_27 {n : Nat} {l1 : Nat} {F : fx_F} {v : fx_V} {F' : fx_F} (h : Rn n k_M_layTable 27 [(2, 175), (0, l1), (3, 0), (3, 0), (3, 0)] [] F v F') :
  (s_le (F 177 (F 175 9)) l1 →
   v = (2, 0) ∧ F' = F) ∧
  (s_lt l1 (F 177 (F 175 9)) →
   ∃ m, m < n ∧ Rn m k_M_layTable 37 [(2, 175), (0, l1), (0, 0), (3, 0), (3, 0)] [] F v F') := by
  have t := q_ok cv_278 ap_278 (hd := [(6, [1, 1, 0, 0, 0]), (27, [1, 1, 0, 0, 0]), (37, [1, 1, 1, 0, 0]), (47, [1, 1, 1, 1, 0])]) h rfl rfl
  exact t
set_option maxRecDepth 40000 in
theorem q_M_layTable_37 {n : Nat} {l1 l2 : Nat} {F : fx_F} {v : fx_V} {F' : fx_F} (h : Rn n k_M_layTable 37 [(2, 175), (0, l1), (0, l2), (3, 0), (3, 0)] [] F v F') :
  (s_le (F 177 (F 175 9)) l2 →
   ∃ m, m < n ∧ Rn m k_M_layTable 27 [(2, 175), (0, i_add l1 1), (3, 0), (3, 0), (3, 0)] [] F v F') ∧
  (s_lt l2 (F 177 (F 175 9)) →
   ∃ m, m < n ∧ Rn m k_M_layTable 47 [(2, 175), (0, l1), (0, l2), (0, 0), (3, 0)] [] F v F') := by
  have t := q_ok cv_278 ap_278 (hd := [(6, [1, 1, 0, 0, 0]), (27, [1, 1, 0, 0, 0]), (37, [1, 1, 1, 0, 0]), (47, [1, 1, 1, 1, 0])]) h rfl rfl
  exact t
set_option maxRecDepth 40000 in
theorem q_M_layTable_47 {n : Nat} {l1 l2 l3 : Nat} {F : fx_F} {v : fx_V} {F' : fx_F} (h : Rn n k_M_layTable 47 [(2, 175), (0, l1), (0, l2), (0, l3), (3, 0)] [] F v F') :
  (s_le 2 l3 →
   ∃ m, m < n ∧ Rn m k_M_layTable 37 [(2, 175), (0, l1), (0, i_add l2 1), (3, 0), (3, 0)] [] F v F') ∧
  (s_lt l3 2 →
   (l2 ≠ l1 →
     ∃ (n1 : Nat) (F1 : fx_F), Cl k_M_leastUsed [(2, 175), (0, l1), (0, l2), (0, l3)] F (0, n1) F1 ∧
      (s_lt n1 0 →
        ∃ m, m < n ∧ Rn m k_M_layTable 47 [(2, 175), (0, l1), (0, l2), (0, i_add l3 1), (3, 0)] [] (fu F1 196 (i_add (i_add (i_mul 20 l1) (i_mul 2 l2)) l3) n1) v F') ∧
       (s_le 0 n1 →
        ∃ m, m < n ∧ Rn m k_M_layTable 47 [(2, 175), (0, l1), (0, l2), (0, i_add l3 1), (3, 0)] [] (fu (fu F1 196 (i_add (i_add (i_mul 20 l1) (i_mul 2 l2)) l3) n1) 197 n1 (i_add (F1 197 n1) 1)) v F')) ∧
    (l2 = l1 →
     (s_lt 4294967295 0 →
       ∃ m, m < n ∧ Rn m k_M_layTable 47 [(2, 175), (0, l1), (0, l2), (0, i_add l3 1), (3, 0)] [] (fu F 196 (i_add (i_add (i_mul 20 l1) (i_mul 2 l2)) l3) 4294967295) v F') ∧
      (s_le 0 4294967295 →
       ∃ m, m < n ∧ Rn m k_M_layTable 47 [(2, 175), (0, l1), (0, l2), (0, i_add l3 1), (3, 0)] [] (fu (fu F 196 (i_add (i_add (i_mul 20 l1) (i_mul 2 l2)) l3) 4294967295) 197 4294967295 (i_add (F 197 4294967295) 1)) v F'))) := by
  have t := q_ok cv_278 ap_278 (hd := [(6, [1, 1, 0, 0, 0]), (27, [1, 1, 0, 0, 0]), (37, [1, 1, 1, 0, 0]), (47, [1, 1, 1, 1, 0])]) h rfl rfl
  exact t
-- TurnNetModel.takePhase(I)I
theorem c_M_takePhase {a1 : Nat} {F : fx_F} {v : fx_V} {F' : fx_F} (h : Cl k_M_takePhase [(2, 175), (0, a1)] F v F') : ∃ n, Rn n k_M_takePhase 0 [(2, 175), (0, a1), (3, 0), (3, 0)] [] F v F' := by
  obtain ⟨n, s, hs, h⟩ := h
  rw [sg_279] at hs
  cases hs
  exact ⟨n, h⟩
set_option maxRecDepth 40000 in
theorem q_M_takePhase_0 {n : Nat} {a1 : Nat} {F : fx_F} {v : fx_V} {F' : fx_F} (h : Rn n k_M_takePhase 0 [(2, 175), (0, a1), (3, 0), (3, 0)] [] F v F') :
  ∃ m, m < n ∧ Rn m k_M_takePhase 2 [(2, 175), (0, a1), (0, 0), (3, 0)] [] F v F' := by
  have t := q_ok cv_279 ap_279 (hd := [(2, [1, 1, 1, 0]), (25, [1, 1, 1, 1])]) h rfl rfl
  exact t
set_option maxRecDepth 40000 in
theorem q_M_takePhase_2 {n : Nat} {l1 l2 : Nat} {F : fx_F} {v : fx_V} {F' : fx_F} (h : Rn n k_M_takePhase 2 [(2, 175), (0, l1), (0, l2), (3, 0)] [] F v F') :
  (s_le 20 l2 →
   ∃ m, m < n ∧ Rn m k_M_takePhase 25 [(2, 175), (0, l1), (0, 0), (0, 0)] [] F v F') ∧
  (s_lt l2 20 →
   ∃ m, m < n ∧ Rn m k_M_takePhase 2 [(2, 175), (0, l1), (0, i_add l2 1), (3, 0)] [] (fu F 202 l2 0) v F') := by
  have t := q_ok cv_279 ap_279 (hd := [(2, [1, 1, 1, 0]), (25, [1, 1, 1, 1])]) h rfl rfl
  exact t
set_option maxRecDepth 40000 in
theorem q_M_takePhase_25 {n : Nat} {l1 l2 l3 : Nat} {F : fx_F} {v : fx_V} {F' : fx_F} (h : Rn n k_M_takePhase 25 [(2, 175), (0, l1), (0, l2), (0, l3)] [] F v F') :
  (s_le (F 178 (F 175 9)) l3 →
   v = (0, l2) ∧ F' = F) ∧
  (s_lt l3 (F 178 (F 175 9)) →
   ((F 190 l3) ≠ (F 176 (i_add 20 l3)) →
     ∃ (n1 : Nat) (F1 : fx_F), Cl k_M_isSafe [(2, 175)] (fu F 202 l3 1) (0, n1) F1 ∧
      (n1 = 0 →
        ∃ m, m < n ∧ Rn m k_M_takePhase 25 [(2, 175), (0, l1), (0, l2), (0, i_add l3 1)] [] (fu F1 202 l3 0) v F') ∧
       (n1 ≠ 0 →
        ∃ m, m < n ∧ Rn m k_M_takePhase 25 [(2, 175), (0, l1), (0, i_add l2 1), (0, i_add l3 1)] [] (fu F1 203 l3 l1) v F')) ∧
    ((F 190 l3) = (F 176 (i_add 20 l3)) →
     ∃ m, m < n ∧ Rn m k_M_takePhase 25 [(2, 175), (0, l1), (0, l2), (0, i_add l3 1)] [] F v F')) := by
  have t := q_ok cv_279 ap_279 (hd := [(2, [1, 1, 1, 0]), (25, [1, 1, 1, 1])]) h rfl rfl
  exact t
-- TurnNetModel.through(III)J
theorem c_M_through {a1 a2 a3 : Nat} {F : fx_F} {v : fx_V} {F' : fx_F} (h : Cl k_M_through [(2, 175), (0, a1), (0, a2), (0, a3)] F v F') : ∃ n, Rn n k_M_through 0 [(2, 175), (0, a1), (0, a2), (0, a3), (3, 0), (3, 0), (3, 0)] [] F v F' := by
  obtain ⟨n, s, hs, h⟩ := h
  rw [sg_280] at hs
  cases hs
  exact ⟨n, h⟩
set_option maxRecDepth 40000 in
theorem q_M_through_0 {n : Nat} {a1 a2 a3 : Nat} {F : fx_F} {v : fx_V} {F' : fx_F} (h : Rn n k_M_through 0 [(2, 175), (0, a1), (0, a2), (0, a3), (3, 0), (3, 0), (3, 0)] [] F v F') :
  (s_lt a1 0 →
   v = (1, 18446744073709551615) ∧ F' = F) ∧
  (s_le 0 a1 →
   (s_lt (i_sub (F 177 (F 175 9)) 1) a1 →
     v = (1, 18446744073709551615) ∧ F' = F) ∧
    (s_le a1 (i_sub (F 177 (F 175 9)) 1) →
     (s_lt a2 0 →
       v = (1, 18446744073709551615) ∧ F' = F) ∧
      (s_le 0 a2 →
       (s_lt (i_sub (F 177 (F 175 9)) 1) a2 →
         v = (1, 18446744073709551615) ∧ F' = F) ∧
        (s_le a2 (i_sub (F 177 (F 175 9)) 1) →
         (s_lt a3 0 →
           v = (1, 18446744073709551615) ∧ F' = F) ∧
          (s_le 0 a3 →
           (s_lt (i_sub (i_mul 2 (F 178 (F 175 9))) 1) a3 →
             v = (1, 18446744073709551615) ∧ F' = F) ∧
            (s_le a3 (i_sub (i_mul 2 (F 178 (F 175 9))) 1) →
             ∃ F1 : fx_F, Cl k_M_layOnward [(2, 175), (0, a2)] F (2, 0) F1 ∧
              (s_lt (F1 193 (i_add (i_add (i_mul 20 a2) (i_mul 2 a1)) 0)) 100000 →
                ∃ F2 : fx_F, Cl k_M_layCome [(2, 175), (0, a1), (0, a2)] F1 (2, 0) F2 ∧
                 ∃ m, m < n ∧ Rn m k_M_through 59 [(2, 175), (3, 0), (0, a2), (0, a3), (1, 0), (3, 0), (0, 0)] [] F2 v F') ∧
               (s_le 100000 (F1 193 (i_add (i_add (i_mul 20 a2) (i_mul 2 a1)) 0)) →
                v = (1, 0) ∧ F' = F1))))))) := by
  have t := q_ok cv_280 ap_280 (hd := [(59, [1, 0, 1, 1, 1, 0, 1])]) h rfl rfl
  exact t
set_option maxRecDepth 40000 in
theorem q_M_through_59 {n : Nat} {l2 l3 l4 l6 : Nat} {F : fx_F} {v : fx_V} {F' : fx_F} (h : Rn n k_M_through 59 [(2, 175), (3, 0), (0, l2), (0, l3), (1, l4), (3, 0), (0, l6)] [] F v F') :
  (s_le 2 l6 →
   v = (1, l4) ∧ F' = F) ∧
  (s_lt l6 2 →
   ∃ (n1 : Nat) (F1 : fx_F), Cl k_M_isNext [(2, 175), (0, l2), (0, l3), (0, l6)] F (0, n1) F1 ∧
    (n1 = 0 →
      ∃ m, m < n ∧ Rn m k_M_through 59 [(2, 175), (3, 0), (0, l2), (0, l3), (1, l4), (3, 0), (0, i_add l6 1)] [] F1 v F') ∧
     (n1 ≠ 0 →
      ((F1 183 (i_add (i_add (i_mul 40 (F1 175 9)) (i_mul 2 (i_div l3 2))) (i_rem l3 2))) ≠ l2 →
        ((F1 183 (i_add (i_add (i_mul 40 (F1 175 9)) (i_mul 2 (i_div l3 2))) (i_sub 1 (i_rem l3 2)))) ≠ (F1 176 (i_add 20 (i_div l3 2))) →
          (l6 = 1 →
            ∃ m, m < n ∧ Rn m k_M_through 59 [(2, 175), (3, 0), (0, l2), (0, l3), (1, rx_j_add l4 (rx_j_mul (F1 195 (i_add (i_mul 2 (F1 183 (i_add (i_add (i_mul 40 (F1 175 9)) (i_mul 2 (i_div l3 2))) (i_rem l3 2)))) l6)) (F1 194 (i_add (i_mul 2 (F1 183 (i_add (i_add (i_mul 40 (F1 175 9)) (i_mul 2 (i_div l3 2))) (i_sub 1 (i_rem l3 2))))) 1)))), (3, 0), (0, i_add l6 1)] [] F1 v F') ∧
           (l6 ≠ 1 →
            ∃ m, m < n ∧ Rn m k_M_through 59 [(2, 175), (3, 0), (0, l2), (0, l3), (1, rx_j_add l4 (rx_j_mul (F1 195 (i_add (i_mul 2 (F1 183 (i_add (i_add (i_mul 40 (F1 175 9)) (i_mul 2 (i_div l3 2))) (i_rem l3 2)))) l6)) (F1 194 (i_add (i_mul 2 (F1 183 (i_add (i_add (i_mul 40 (F1 175 9)) (i_mul 2 (i_div l3 2))) (i_sub 1 (i_rem l3 2))))) 1)))), (3, 0), (0, i_add l6 1)] [] F1 v F')) ∧
         ((F1 183 (i_add (i_add (i_mul 40 (F1 175 9)) (i_mul 2 (i_div l3 2))) (i_sub 1 (i_rem l3 2)))) = (F1 176 (i_add 20 (i_div l3 2))) →
          (l6 = 1 →
            ∃ m, m < n ∧ Rn m k_M_through 59 [(2, 175), (3, 0), (0, l2), (0, l3), (1, rx_j_add l4 (rx_j_mul (F1 195 (i_add (i_mul 2 (F1 183 (i_add (i_add (i_mul 40 (F1 175 9)) (i_mul 2 (i_div l3 2))) (i_rem l3 2)))) l6)) (F1 194 (i_add (i_mul 2 (F1 183 (i_add (i_add (i_mul 40 (F1 175 9)) (i_mul 2 (i_div l3 2))) (i_sub 1 (i_rem l3 2))))) 1)))), (3, 0), (0, i_add l6 1)] [] F1 v F') ∧
           (l6 ≠ 1 →
            ∃ m, m < n ∧ Rn m k_M_through 59 [(2, 175), (3, 0), (0, l2), (0, l3), (1, rx_j_add l4 (rx_j_mul (F1 195 (i_add (i_mul 2 (F1 183 (i_add (i_add (i_mul 40 (F1 175 9)) (i_mul 2 (i_div l3 2))) (i_rem l3 2)))) l6)) (F1 194 (i_add (i_mul 2 (F1 183 (i_add (i_add (i_mul 40 (F1 175 9)) (i_mul 2 (i_div l3 2))) (i_sub 1 (i_rem l3 2))))) 0)))), (3, 0), (0, i_add l6 1)] [] F1 v F'))) ∧
       ((F1 183 (i_add (i_add (i_mul 40 (F1 175 9)) (i_mul 2 (i_div l3 2))) (i_rem l3 2))) = l2 →
        ∃ m, m < n ∧ Rn m k_M_through 59 [(2, 175), (3, 0), (0, l2), (0, l3), (1, l4), (3, 0), (0, i_add l6 1)] [] F1 v F'))) := by
  have t := q_ok cv_280 ap_280 (hd := [(59, [1, 0, 1, 1, 1, 0, 1])]) h rfl rfl
  exact t
-- TurnNetModel.ways(II)J
theorem c_M_ways {a1 a2 : Nat} {F : fx_F} {v : fx_V} {F' : fx_F} (h : Cl k_M_ways [(2, 175), (0, a1), (0, a2)] F v F') : ∃ n, Rn n k_M_ways 0 [(2, 175), (0, a1), (0, a2)] [] F v F' := by
  obtain ⟨n, s, hs, h⟩ := h
  rw [sg_281] at hs
  cases hs
  exact ⟨n, h⟩
set_option maxRecDepth 40000 in
theorem q_M_ways_0 {n : Nat} {a1 a2 : Nat} {F : fx_F} {v : fx_V} {F' : fx_F} (h : Rn n k_M_ways 0 [(2, 175), (0, a1), (0, a2)] [] F v F') :
  (s_lt a1 0 →
   v = (1, 18446744073709551615) ∧ F' = F) ∧
  (s_le 0 a1 →
   (s_lt (i_sub (F 177 (F 175 9)) 1) a1 →
     v = (1, 18446744073709551615) ∧ F' = F) ∧
    (s_le a1 (i_sub (F 177 (F 175 9)) 1) →
     (s_lt a2 0 →
       v = (1, 18446744073709551615) ∧ F' = F) ∧
      (s_le 0 a2 →
       (s_lt (i_sub (F 177 (F 175 9)) 1) a2 →
         v = (1, 18446744073709551615) ∧ F' = F) ∧
        (s_le a2 (i_sub (F 177 (F 175 9)) 1) →
         ∃ F1 : fx_F, Cl k_M_layOnward [(2, 175), (0, a2)] F (2, 0) F1 ∧
          v = (1, F1 194 (i_mul 2 a1)) ∧ F' = F1)))) := by
  have t := q_ok cv_281 ap_281 (hd := []) h rfl rfl
  exact t
-- TurnNet$Reader.readSwitches()Z
theorem c_Rd_readSwitches {F : fx_F} {v : fx_V} {F' : fx_F} (h : Cl k_Rd_readSwitches [(2, 10)] F v F') : ∃ n, Rn n k_Rd_readSwitches 0 [(2, 10)] [] F v F' := by
  obtain ⟨n, s, hs, h⟩ := h
  rw [sg_282] at hs
  cases hs
  exact ⟨n, h⟩
set_option maxRecDepth 40000 in
theorem q_Rd_readSwitches_0 {n : Nat} {F : fx_F} {v : fx_V} {F' : fx_F} (h : Rn n k_Rd_readSwitches 0 [(2, 10)] [] F v F') :
  ∃ (n1 : Nat) (F1 : fx_F), Cl k_Rd_isWord [(2, 10), (2, 1000)] F (0, n1) F1 ∧
  (n1 ≠ 0 →
    ∃ (n2 : Nat) (F2 : fx_F), Cl k_Rd_readNumber [(2, 10), (0, 2), (0, 10)] F1 (0, n2) F2 ∧
     (n2 ≠ 0 →
       ∃ (n3 : Nat) (F3 : fx_F), Cl k_Rd_closeLine [(2, 10)] (fu F2 12 0 (F2 10 8)) (0, n3) F3 ∧
        v = (0, n3) ∧ F' = F3) ∧
      (n2 = 0 →
       v = (0, 0) ∧ F' = F2)) ∧
   (n1 = 0 →
    ∃ (n2 : Nat) (F2 : fx_F), Cl k_Rd_fail [(2, 10), (0, 1)] F1 (0, n2) F2 ∧
     v = (0, n2) ∧ F' = F2) := by
  have t := q_ok cv_282 ap_282 (hd := []) h rfl rfl
  exact t
-- TurnNet$Reader.unitKind()I
theorem c_Rd_unitKind {F : fx_F} {v : fx_V} {F' : fx_F} (h : Cl k_Rd_unitKind [(2, 10)] F v F') : ∃ n, Rn n k_Rd_unitKind 0 [(2, 10)] [] F v F' := by
  obtain ⟨n, s, hs, h⟩ := h
  rw [sg_283] at hs
  cases hs
  exact ⟨n, h⟩
set_option maxRecDepth 40000 in
theorem q_Rd_unitKind_0 {n : Nat} {F : fx_F} {v : fx_V} {F' : fx_F} (h : Rn n k_Rd_unitKind 0 [(2, 10)] [] F v F') :
  ((F 10 7) ≠ 2 →
   ((F 10 7) ≠ 40 →
     ((F 10 7) ≠ 45 →
       ∃ (n1 : Nat) (F1 : fx_F), Cl k_Rd_isWord [(2, 10), (2, 1005)] F (0, n1) F1 ∧
        (n1 = 0 →
          ∃ (n2 : Nat) (F2 : fx_F), Cl k_Rd_isWord [(2, 10), (2, 1006)] F1 (0, n2) F2 ∧
           (n2 = 0 →
             ∃ (n3 : Nat) (F3 : fx_F), Cl k_Rd_isWord [(2, 10), (2, 1007)] F2 (0, n3) F3 ∧
              (n3 = 0 →
                v = (0, 0) ∧ F' = F3) ∧
               (n3 ≠ 0 →
                v = (0, 4) ∧ F' = F3)) ∧
            (n2 ≠ 0 →
             v = (0, 3) ∧ F' = F2)) ∧
         (n1 ≠ 0 →
          v = (0, 2) ∧ F' = F1)) ∧
      ((F 10 7) = 45 →
       v = (0, 5) ∧ F' = F)) ∧
    ((F 10 7) = 40 →
     v = (0, 40) ∧ F' = F)) ∧
  ((F 10 7) = 2 →
   v = (0, 1) ∧ F' = F) := by
  have t := q_ok cv_283 ap_283 (hd := []) h rfl rfl
  exact t
-- TurnNetModel.entry(III)I
theorem c_M_entry {a1 a2 a3 : Nat} {F : fx_F} {v : fx_V} {F' : fx_F} (h : Cl k_M_entry [(2, 175), (0, a1), (0, a2), (0, a3)] F v F') : ∃ n, Rn n k_M_entry 0 [(2, 175), (0, a1), (0, a2), (0, a3)] [] F v F' := by
  obtain ⟨n, s, hs, h⟩ := h
  rw [sg_284] at hs
  cases hs
  exact ⟨n, h⟩
set_option maxRecDepth 40000 in
theorem q_M_entry_0 {n : Nat} {a1 a2 a3 : Nat} {F : fx_F} {v : fx_V} {F' : fx_F} (h : Rn n k_M_entry 0 [(2, 175), (0, a1), (0, a2), (0, a3)] [] F v F') :
  (s_lt a1 0 →
   v = (0, 4294967295) ∧ F' = F) ∧
  (s_le 0 a1 →
   (s_lt (i_sub (F 177 (F 175 9)) 1) a1 →
     v = (0, 4294967295) ∧ F' = F) ∧
    (s_le a1 (i_sub (F 177 (F 175 9)) 1) →
     (s_lt a2 0 →
       v = (0, 4294967295) ∧ F' = F) ∧
      (s_le 0 a2 →
       (s_lt (i_sub (F 177 (F 175 9)) 1) a2 →
         v = (0, 4294967295) ∧ F' = F) ∧
        (s_le a2 (i_sub (F 177 (F 175 9)) 1) →
         (s_lt a3 0 →
           v = (0, 4294967295) ∧ F' = F) ∧
          (s_le 0 a3 →
           (s_lt 1 a3 →
             v = (0, 4294967295) ∧ F' = F) ∧
            (s_le a3 1 →
             ∃ F1 : fx_F, Cl k_M_layTable [(2, 175)] F (2, 0) F1 ∧
              v = (0, F1 196 (i_add (i_add (i_mul 20 a1) (i_mul 2 a2)) a3)) ∧ F' = F1)))))) := by
  have t := q_ok cv_284 ap_284 (hd := []) h rfl rfl
  exact t
-- TurnNetModel.goStep()I
theorem c_M_goStep {F : fx_F} {v : fx_V} {F' : fx_F} (h : Cl k_M_goStep [(2, 175)] F v F') : ∃ n, Rn n k_M_goStep 0 [(2, 175), (3, 0), (3, 0)] [] F v F' := by
  obtain ⟨n, s, hs, h⟩ := h
  rw [sg_285] at hs
  cases hs
  exact ⟨n, h⟩
set_option maxRecDepth 40000 in
theorem q_M_goStep_0 {n : Nat} {F : fx_F} {v : fx_V} {F' : fx_F} (h : Rn n k_M_goStep 0 [(2, 175), (3, 0), (3, 0)] [] F v F') :
  ∃ F1 : fx_F, Cl k_M_layTable [(2, 175)] F (2, 0) F1 ∧
  ∃ m, m < n ∧ Rn m k_M_goStep 19 [(2, 175), (0, 0), (0, 0)] [] (fu F1 176 102 (i_add (F1 176 102) 1)) v F' := by
  have t := q_ok cv_285 ap_285 (hd := [(19, [1, 1, 1])]) h rfl rfl
  exact t
set_option maxRecDepth 40000 in
theorem q_M_goStep_19 {n : Nat} {l1 l2 : Nat} {F : fx_F} {v : fx_V} {F' : fx_F} (h : Rn n k_M_goStep 19 [(2, 175), (0, l1), (0, l2)] [] F v F') :
  (s_le 12 l2 →
   v = (0, l1) ∧ F' = F) ∧
  (s_lt l2 12 →
   ((F 176 (i_add 41 l2)) ≠ 0 →
     ∃ (n1 : Nat) (F1 : fx_F), Cl k_M_goPacket [(2, 175), (0, l2)] F (0, n1) F1 ∧
      (n1 = 0 →
        ∃ m, m < n ∧ Rn m k_M_goStep 19 [(2, 175), (0, l1), (0, i_add l2 1)] [] (fu F1 176 (i_add 89 l2) (i_add (F1 176 (i_add 89 l2)) 1)) v F') ∧
       (n1 ≠ 0 →
        ∃ m, m < n ∧ Rn m k_M_goStep 19 [(2, 175), (0, i_add l1 1), (0, i_add l2 1)] [] F1 v F')) ∧
    ((F 176 (i_add 41 l2)) = 0 →
     ∃ m, m < n ∧ Rn m k_M_goStep 19 [(2, 175), (0, l1), (0, i_add l2 1)] [] F v F')) := by
  have t := q_ok cv_285 ap_285 (hd := [(19, [1, 1, 1])]) h rfl rfl
  exact t
-- TurnNetModel.layLoads()V
theorem c_M_layLoads {F : fx_F} {v : fx_V} {F' : fx_F} (h : Cl k_M_layLoads [(2, 175)] F v F') : ∃ n, Rn n k_M_layLoads 0 [(2, 175), (3, 0), (3, 0), (3, 0)] [] F v F' := by
  obtain ⟨n, s, hs, h⟩ := h
  rw [sg_286] at hs
  cases hs
  exact ⟨n, h⟩
set_option maxRecDepth 40000 in
theorem q_M_layLoads_0 {n : Nat} {F : fx_F} {v : fx_V} {F' : fx_F} (h : Rn n k_M_layLoads 0 [(2, 175), (3, 0), (3, 0), (3, 0)] [] F v F') :
  ∃ F1 : fx_F, Cl k_M_layTable [(2, 175)] F (2, 0) F1 ∧
  ∃ m, m < n ∧ Rn m k_M_layLoads 6 [(2, 175), (0, 0), (3, 0), (3, 0)] [] F1 v F' := by
  have t := q_ok cv_286 ap_286 (hd := [(6, [1, 1, 0, 0]), (27, [1, 1, 0, 0]), (37, [1, 1, 1, 0]), (47, [1, 1, 1, 1])]) h rfl rfl
  exact t
set_option maxRecDepth 40000 in
theorem q_M_layLoads_6 {n : Nat} {l1 : Nat} {F : fx_F} {v : fx_V} {F' : fx_F} (h : Rn n k_M_layLoads 6 [(2, 175), (0, l1), (3, 0), (3, 0)] [] F v F') :
  (s_le 40 l1 →
   ∃ m, m < n ∧ Rn m k_M_layLoads 27 [(2, 175), (0, 0), (3, 0), (3, 0)] [] F v F') ∧
  (s_lt l1 40 →
   ∃ m, m < n ∧ Rn m k_M_layLoads 6 [(2, 175), (0, i_add l1 1), (3, 0), (3, 0)] [] (fu F 198 l1 0) v F') := by
  have t := q_ok cv_286 ap_286 (hd := [(6, [1, 1, 0, 0]), (27, [1, 1, 0, 0]), (37, [1, 1, 1, 0]), (47, [1, 1, 1, 1])]) h rfl rfl
  exact t
set_option maxRecDepth 40000 in
theorem q_M_layLoads_27 {n : Nat} {l1 : Nat} {F : fx_F} {v : fx_V} {F' : fx_F} (h : Rn n k_M_layLoads 27 [(2, 175), (0, l1), (3, 0), (3, 0)] [] F v F') :
  (s_le (F 177 (F 175 9)) l1 →
   v = (2, 0) ∧ F' = F) ∧
  (s_lt l1 (F 177 (F 175 9)) →
   ∃ m, m < n ∧ Rn m k_M_layLoads 37 [(2, 175), (0, l1), (0, 0), (3, 0)] [] F v F') := by
  have t := q_ok cv_286 ap_286 (hd := [(6, [1, 1, 0, 0]), (27, [1, 1, 0, 0]), (37, [1, 1, 1, 0]), (47, [1, 1, 1, 1])]) h rfl rfl
  exact t
set_option maxRecDepth 40000 in
theorem q_M_layLoads_37 {n : Nat} {l1 l2 : Nat} {F : fx_F} {v : fx_V} {F' : fx_F} (h : Rn n k_M_layLoads 37 [(2, 175), (0, l1), (0, l2), (3, 0)] [] F v F') :
  (s_le (F 177 (F 175 9)) l2 →
   ∃ m, m < n ∧ Rn m k_M_layLoads 27 [(2, 175), (0, i_add l1 1), (3, 0), (3, 0)] [] F v F') ∧
  (s_lt l2 (F 177 (F 175 9)) →
   ∃ m, m < n ∧ Rn m k_M_layLoads 47 [(2, 175), (0, l1), (0, l2), (0, 0)] [] F v F') := by
  have t := q_ok cv_286 ap_286 (hd := [(6, [1, 1, 0, 0]), (27, [1, 1, 0, 0]), (37, [1, 1, 1, 0]), (47, [1, 1, 1, 1])]) h rfl rfl
  exact t
set_option maxRecDepth 40000 in
theorem q_M_layLoads_47 {n : Nat} {l1 l2 l3 : Nat} {F : fx_F} {v : fx_V} {F' : fx_F} (h : Rn n k_M_layLoads 47 [(2, 175), (0, l1), (0, l2), (0, l3)] [] F v F') :
  ∃ (n1 : Nat) (F1 : fx_F), Cl k_M_pathAt [(2, 175), (0, l1), (0, l2), (0, l3)] F (0, n1) F1 ∧
  (s_lt n1 0 →
    ∃ m, m < n ∧ Rn m k_M_layLoads 37 [(2, 175), (0, l1), (0, i_add l2 1), (3, 0)] [] F1 v F') ∧
   (s_le 0 n1 →
    ∃ (n2 : Nat) (F2 : fx_F), Cl k_M_pathAt [(2, 175), (0, l1), (0, l2), (0, l3)] F1 (0, n2) F2 ∧
     ∃ m, m < n ∧ Rn m k_M_layLoads 47 [(2, 175), (0, l1), (0, l2), (0, i_add l3 1)] [] (fu F2 198 n2 (i_add (F2 198 n2) 1)) v F') := by
  have t := q_ok cv_286 ap_286 (hd := [(6, [1, 1, 0, 0]), (27, [1, 1, 0, 0]), (37, [1, 1, 1, 0]), (47, [1, 1, 1, 1])]) h rfl rfl
  exact t
-- TurnNetModel.packet(II)I
theorem c_M_packet {a1 a2 : Nat} {F : fx_F} {v : fx_V} {F' : fx_F} (h : Cl k_M_packet [(2, 175), (0, a1), (0, a2)] F v F') : ∃ n, Rn n k_M_packet 0 [(2, 175), (0, a1), (0, a2)] [] F v F' := by
  obtain ⟨n, s, hs, h⟩ := h
  rw [sg_287] at hs
  cases hs
  exact ⟨n, h⟩
set_option maxRecDepth 40000 in
theorem q_M_packet_0 {n : Nat} {a1 a2 : Nat} {F : fx_F} {v : fx_V} {F' : fx_F} (h : Rn n k_M_packet 0 [(2, 175), (0, a1), (0, a2)] [] F v F') :
  (s_lt a1 0 →
   v = (0, 4294967294) ∧ F' = F) ∧
  (s_le 0 a1 →
   (s_lt 11 a1 →
     v = (0, 4294967294) ∧ F' = F) ∧
    (s_le a1 11 →
     ((F 176 (i_add 41 a1)) ≠ 1 →
       v = (0, 4294967294) ∧ F' = F) ∧
      ((F 176 (i_add 41 a1)) = 1 →
       ((a2 < 0 ∨ 5 ≤ a2) →
         v = (0, 4294967294) ∧ F' = F) ∧
        ((a2 = 0 →
         v = (0, F 176 (i_add 65 a1)) ∧ F' = F) ∧
        ((a2 = 1 →
         v = (0, F 176 (i_add 53 a1)) ∧ F' = F) ∧
        ((a2 = 2 →
         v = (0, F 176 (i_add 77 a1)) ∧ F' = F) ∧
        ((a2 = 3 →
         v = (0, F 176 (i_add 89 a1)) ∧ F' = F) ∧
        ((a2 = 4 →
         ∃ F1 : fx_F, Cl k_M_layTable [(2, 175)] F (2, 0) F1 ∧
          ((F1 176 (i_add 65 a1)) ≠ (F1 176 (i_add 53 a1)) →
            (s_lt (F1 176 (i_add 77 a1)) 0 →
              v = (0, F1 196 (i_add (i_add (i_mul 20 (F1 176 (i_add 53 a1))) (i_mul 2 (F1 176 (i_add 65 a1)))) 0)) ∧ F' = F1) ∧
             (s_le 0 (F1 176 (i_add 77 a1)) →
              ((F1 183 (i_add (i_add (i_mul 40 (F1 175 9)) (i_mul 2 (i_div (F1 176 (i_add 77 a1)) 2))) (i_sub 1 (i_rem (F1 176 (i_add 77 a1)) 2)))) ≠ (F1 176 (i_add 20 (i_div (F1 176 (i_add 77 a1)) 2))) →
                v = (0, F1 196 (i_add (i_add (i_mul 20 (F1 176 (i_add 53 a1))) (i_mul 2 (F1 176 (i_add 65 a1)))) 1)) ∧ F' = F1) ∧
               ((F1 183 (i_add (i_add (i_mul 40 (F1 175 9)) (i_mul 2 (i_div (F1 176 (i_add 77 a1)) 2))) (i_sub 1 (i_rem (F1 176 (i_add 77 a1)) 2)))) = (F1 176 (i_add 20 (i_div (F1 176 (i_add 77 a1)) 2))) →
                v = (0, F1 196 (i_add (i_add (i_mul 20 (F1 176 (i_add 53 a1))) (i_mul 2 (F1 176 (i_add 65 a1)))) 0)) ∧ F' = F1))) ∧
           ((F1 176 (i_add 65 a1)) = (F1 176 (i_add 53 a1)) →
            v = (0, 4294967295) ∧ F' = F1)) ∧ True)))))))) := by
  have t := q_ok cv_287 ap_287 (hd := []) h rfl rfl
  exact t
-- TurnNetModel.pairs(I)I
theorem c_M_pairs {a1 : Nat} {F : fx_F} {v : fx_V} {F' : fx_F} (h : Cl k_M_pairs [(2, 175), (0, a1)] F v F') : ∃ n, Rn n k_M_pairs 0 [(2, 175), (0, a1)] [] F v F' := by
  obtain ⟨n, s, hs, h⟩ := h
  rw [sg_288] at hs
  cases hs
  exact ⟨n, h⟩
set_option maxRecDepth 40000 in
theorem q_M_pairs_0 {n : Nat} {a1 : Nat} {F : fx_F} {v : fx_V} {F' : fx_F} (h : Rn n k_M_pairs 0 [(2, 175), (0, a1)] [] F v F') :
  ∃ F1 : fx_F, Cl k_M_layPairs [(2, 175)] F (2, 0) F1 ∧
  ((a1 < 0 ∨ 4 ≤ a1) →
    v = (0, 4294967295) ∧ F' = F1) ∧
   ((a1 = 0 →
    v = (0, F1 175 40) ∧ F' = F1) ∧
   ((a1 = 1 →
    v = (0, F1 175 41) ∧ F' = F1) ∧
   ((a1 = 2 →
    v = (0, F1 175 42) ∧ F' = F1) ∧
   ((a1 = 3 →
    v = (0, F1 175 43) ∧ F' = F1) ∧ True)))) := by
  have t := q_ok cv_288 ap_288 (hd := []) h rfl rfl
  exact t
-- TurnNetModel.path(III)I
theorem c_M_path {a1 a2 a3 : Nat} {F : fx_F} {v : fx_V} {F' : fx_F} (h : Cl k_M_path [(2, 175), (0, a1), (0, a2), (0, a3)] F v F') : ∃ n, Rn n k_M_path 0 [(2, 175), (0, a1), (0, a2), (0, a3)] [] F v F' := by
  obtain ⟨n, s, hs, h⟩ := h
  rw [sg_289] at hs
  cases hs
  exact ⟨n, h⟩
set_option maxRecDepth 40000 in
theorem q_M_path_0 {n : Nat} {a1 a2 a3 : Nat} {F : fx_F} {v : fx_V} {F' : fx_F} (h : Rn n k_M_path 0 [(2, 175), (0, a1), (0, a2), (0, a3)] [] F v F') :
  (s_lt a1 0 →
   v = (0, 4294967295) ∧ F' = F) ∧
  (s_le 0 a1 →
   (s_lt (i_sub (F 177 (F 175 9)) 1) a1 →
     v = (0, 4294967295) ∧ F' = F) ∧
    (s_le a1 (i_sub (F 177 (F 175 9)) 1) →
     (s_lt a2 0 →
       v = (0, 4294967295) ∧ F' = F) ∧
      (s_le 0 a2 →
       (s_lt (i_sub (F 177 (F 175 9)) 1) a2 →
         v = (0, 4294967295) ∧ F' = F) ∧
        (s_le a2 (i_sub (F 177 (F 175 9)) 1) →
         (s_le 0 a3 →
           ∃ F1 : fx_F, Cl k_M_layTable [(2, 175)] F (2, 0) F1 ∧
            ∃ (n2 : Nat) (F2 : fx_F), Cl k_M_pathAt [(2, 175), (0, a1), (0, a2), (0, a3)] F1 (0, n2) F2 ∧
             v = (0, n2) ∧ F' = F2) ∧
          (s_lt a3 0 →
           v = (0, 4294967295) ∧ F' = F))))) := by
  have t := q_ok cv_289 ap_289 (hd := []) h rfl rfl
  exact t
-- TurnNetModel.without(II)I
theorem c_M_without {a1 a2 : Nat} {F : fx_F} {v : fx_V} {F' : fx_F} (h : Cl k_M_without [(2, 175), (0, a1), (0, a2)] F v F') : ∃ n, Rn n k_M_without 0 [(2, 175), (0, a1), (0, a2), (3, 0)] [] F v F' := by
  obtain ⟨n, s, hs, h⟩ := h
  rw [sg_290] at hs
  cases hs
  exact ⟨n, h⟩
set_option maxRecDepth 40000 in
theorem q_M_without_0 {n : Nat} {a1 a2 : Nat} {F : fx_F} {v : fx_V} {F' : fx_F} (h : Rn n k_M_without 0 [(2, 175), (0, a1), (0, a2), (3, 0)] [] F v F') :
  (s_lt a1 0 →
   v = (0, 4294967295) ∧ F' = F) ∧
  (s_le 0 a1 →
   (s_lt (i_sub (F 178 (F 175 9)) 1) a1 →
     v = (0, 4294967295) ∧ F' = F) ∧
    (s_le a1 (i_sub (F 178 (F 175 9)) 1) →
     ((F 176 (i_add 0 a1)) ≠ 1 →
       v = (0, 4294967295) ∧ F' = F) ∧
      ((F 176 (i_add 0 a1)) = 1 →
       (s_lt a2 0 →
         v = (0, 4294967295) ∧ F' = F) ∧
        (s_le 0 a2 →
         (s_lt 2 a2 →
           v = (0, 4294967295) ∧ F' = F) ∧
          (s_le a2 2 →
           ∃ F1 : fx_F, Cl k_M_putAside [(2, 175)] F (2, 0) F1 ∧
            ∃ F2 : fx_F, Cl k_M_orientBy [(2, 175), (0, (fu F1 176 (i_add 0 a1) 0) 176 40)] (fu F1 176 (i_add 0 a1) 0) (2, 0) F2 ∧
             ∃ (n3 : Nat) (F3 : fx_F), Cl k_M_flips [(2, 175)] F2 (0, n3) F3 ∧
              (a2 ≠ 1 →
                ∃ F4 : fx_F, Cl k_M_layPairs [(2, 175)] F3 (2, 0) F4 ∧
                 ∃ F5 : fx_F, Cl k_M_bringBack [(2, 175)] F4 (2, 0) F5 ∧
                  (a2 ≠ 2 →
                    v = (0, F5 175 40) ∧ F' = F5) ∧
                   (a2 = 2 →
                    v = (0, n3) ∧ F' = F5)) ∧
               (a2 = 1 →
                ∃ F4 : fx_F, Cl k_M_takeOver [(2, 175)] F3 (2, 0) F4 ∧
                 ∃ F5 : fx_F, Cl k_M_layPairs [(2, 175)] F4 (2, 0) F5 ∧
                  ∃ F6 : fx_F, Cl k_M_bringBack [(2, 175)] F5 (2, 0) F6 ∧
                   (a2 ≠ 2 →
                     v = (0, F6 175 40) ∧ F' = F6) ∧
                    (a2 = 2 →
                     v = (0, n3) ∧ F' = F6))))))) := by
  have t := q_ok cv_290 ap_290 (hd := []) h rfl rfl
  exact t
-- TurnNet$Reader.readUnit(I)Z
theorem c_Rd_readUnit6 {a1 : Nat} {F : fx_F} {v : fx_V} {F' : fx_F} (h : Cl k_Rd_readUnit6 [(2, 10), (0, a1)] F v F') : ∃ n, Rn n k_Rd_readUnit6 0 [(2, 10), (0, a1), (3, 0), (3, 0)] [] F v F' := by
  obtain ⟨n, s, hs, h⟩ := h
  rw [sg_291] at hs
  cases hs
  exact ⟨n, h⟩
set_option maxRecDepth 40000 in
theorem q_Rd_readUnit6_0 {n : Nat} {a1 : Nat} {F : fx_F} {v : fx_V} {F' : fx_F} (h : Rn n k_Rd_readUnit6 0 [(2, 10), (0, a1), (3, 0), (3, 0)] [] F v F') :
  ∃ (n1 : Nat) (F1 : fx_F), Cl k_Rd_unitKind [(2, 10)] F (0, n1) F1 ∧
  (n1 ≠ 0 →
    (n1 ≠ 1 →
      (s_le 40 (F1 12 4) →
        ∃ (n2 : Nat) (F2 : fx_F), Cl k_Rd_fail [(2, 10), (0, 4)] F1 (0, n2) F2 ∧
         v = (0, n2) ∧ F' = F2) ∧
       (s_lt (F1 12 4) 40 →
        (s_le a1 5 →
          ∃ F2 : fx_F, Cl k_Rd_advance [(2, 10)] (fu F1 12 4 (i_add (F1 12 4) 1)) (2, 0) F2 ∧
           (n1 ≠ 40 →
             (n1 ≠ 5 →
               (s_le 80 (F2 12 5) →
                 v = (0, 1) ∧ F' = F2) ∧
                (s_lt (F2 12 5) 80 →
                 v = (0, 1) ∧ F' = (fu (fu (fu F2 17 (F2 12 5) n1) 18 (F2 12 5) (F1 10 8)) 12 5 (i_add (F2 12 5) 1)))) ∧
              (n1 = 5 →
               ∃ (n3 : Nat) (F3 : fx_F), Cl k_Rd_readUnit6 [(2, 10), (0, i_add a1 1)] F2 (0, n3) F3 ∧
                (n3 ≠ 0 →
                  (s_le 80 (F3 12 5) →
                    v = (0, 1) ∧ F' = F3) ∧
                   (s_lt (F3 12 5) 80 →
                    v = (0, 1) ∧ F' = (fu (fu (fu F3 17 (F3 12 5) n1) 18 (F3 12 5) (F1 10 8)) 12 5 (i_add (F3 12 5) 1)))) ∧
                 (n3 = 0 →
                  v = (0, 0) ∧ F' = F3))) ∧
            (n1 = 40 →
             ∃ (n3 : Nat) (F3 : fx_F), Cl k_Rd_readSum6 [(2, 10), (0, i_add a1 1)] F2 (0, n3) F3 ∧
              (n3 = 0 →
                v = (0, 0) ∧ F' = F3) ∧
               (n3 ≠ 0 →
                ∃ (n4 : Nat) (F4 : fx_F), Cl k_Rd_readSign [(2, 10), (0, 41)] F3 (0, n4) F4 ∧
                 (n4 = 0 →
                   v = (0, 0) ∧ F' = F4) ∧
                  (n4 ≠ 0 →
                   v = (0, 1) ∧ F' = F4)))) ∧
         (s_lt 5 a1 →
          ∃ (n2 : Nat) (F2 : fx_F), Cl k_Rd_fail [(2, 10), (0, 4)] F1 (0, n2) F2 ∧
           v = (0, n2) ∧ F' = F2))) ∧
     (n1 = 1 →
      (s_le (F1 10 8) 999 →
        (s_le 40 (F1 12 4) →
          ∃ (n2 : Nat) (F2 : fx_F), Cl k_Rd_fail [(2, 10), (0, 4)] F1 (0, n2) F2 ∧
           v = (0, n2) ∧ F' = F2) ∧
         (s_lt (F1 12 4) 40 →
          (s_le a1 5 →
            ∃ F2 : fx_F, Cl k_Rd_advance [(2, 10)] (fu F1 12 4 (i_add (F1 12 4) 1)) (2, 0) F2 ∧
             (n1 ≠ 40 →
               (n1 ≠ 5 →
                 (s_le 80 (F2 12 5) →
                   v = (0, 1) ∧ F' = F2) ∧
                  (s_lt (F2 12 5) 80 →
                   v = (0, 1) ∧ F' = (fu (fu (fu F2 17 (F2 12 5) n1) 18 (F2 12 5) (F1 10 8)) 12 5 (i_add (F2 12 5) 1)))) ∧
                (n1 = 5 →
                 ∃ (n3 : Nat) (F3 : fx_F), Cl k_Rd_readUnit6 [(2, 10), (0, i_add a1 1)] F2 (0, n3) F3 ∧
                  (n3 ≠ 0 →
                    (s_le 80 (F3 12 5) →
                      v = (0, 1) ∧ F' = F3) ∧
                     (s_lt (F3 12 5) 80 →
                      v = (0, 1) ∧ F' = (fu (fu (fu F3 17 (F3 12 5) n1) 18 (F3 12 5) (F1 10 8)) 12 5 (i_add (F3 12 5) 1)))) ∧
                   (n3 = 0 →
                    v = (0, 0) ∧ F' = F3))) ∧
              (n1 = 40 →
               ∃ (n3 : Nat) (F3 : fx_F), Cl k_Rd_readSum6 [(2, 10), (0, i_add a1 1)] F2 (0, n3) F3 ∧
                (n3 = 0 →
                  v = (0, 0) ∧ F' = F3) ∧
                 (n3 ≠ 0 →
                  ∃ (n4 : Nat) (F4 : fx_F), Cl k_Rd_readSign [(2, 10), (0, 41)] F3 (0, n4) F4 ∧
                   (n4 = 0 →
                     v = (0, 0) ∧ F' = F4) ∧
                    (n4 ≠ 0 →
                     v = (0, 1) ∧ F' = F4)))) ∧
           (s_lt 5 a1 →
            ∃ (n2 : Nat) (F2 : fx_F), Cl k_Rd_fail [(2, 10), (0, 4)] F1 (0, n2) F2 ∧
             v = (0, n2) ∧ F' = F2))) ∧
       (s_lt 999 (F1 10 8) →
        ∃ (n2 : Nat) (F2 : fx_F), Cl k_Rd_fail [(2, 10), (0, 2)] F1 (0, n2) F2 ∧
         v = (0, n2) ∧ F' = F2))) ∧
   (n1 = 0 →
    ∃ (n2 : Nat) (F2 : fx_F), Cl k_Rd_fail [(2, 10), (0, 1)] F1 (0, n2) F2 ∧
     v = (0, n2) ∧ F' = F2) := by
  have t := q_ok cv_291 ap_291 (hd := []) h rfl rfl
  exact t
-- TurnNetModel.dearest()I
theorem c_M_dearest {F : fx_F} {v : fx_V} {F' : fx_F} (h : Cl k_M_dearest [(2, 175)] F v F') : ∃ n, Rn n k_M_dearest 0 [(2, 175), (3, 0), (3, 0), (3, 0), (3, 0)] [] F v F' := by
  obtain ⟨n, s, hs, h⟩ := h
  rw [sg_292] at hs
  cases hs
  exact ⟨n, h⟩
set_option maxRecDepth 40000 in
theorem q_M_dearest_0 {n : Nat} {F : fx_F} {v : fx_V} {F' : fx_F} (h : Rn n k_M_dearest 0 [(2, 175), (3, 0), (3, 0), (3, 0), (3, 0)] [] F v F') :
  ∃ m, m < n ∧ Rn m k_M_dearest 6 [(2, 175), (0, 4294967295), (0, 4294967295), (0, 0), (3, 0)] [] F v F' := by
  have t := q_ok cv_292 ap_292 (hd := [(6, [1, 1, 1, 1, 0])]) h rfl rfl
  exact t
set_option maxRecDepth 40000 in
theorem q_M_dearest_6 {n : Nat} {l1 l2 l3 : Nat} {F : fx_F} {v : fx_V} {F' : fx_F} (h : Rn n k_M_dearest 6 [(2, 175), (0, l1), (0, l2), (0, l3), (3, 0)] [] F v F') :
  (s_le (F 178 (F 175 9)) l3 →
   v = (0, l1) ∧ F' = F) ∧
  (s_lt l3 (F 178 (F 175 9)) →
   ∃ (n1 : Nat) (F1 : fx_F), Cl k_M_without [(2, 175), (0, l3), (0, 0)] F (0, n1) F1 ∧
    (s_lt l2 n1 →
      ∃ m, m < n ∧ Rn m k_M_dearest 6 [(2, 175), (0, l3), (0, n1), (0, i_add l3 1), (3, 0)] [] F1 v F') ∧
     (s_le n1 l2 →
      ∃ m, m < n ∧ Rn m k_M_dearest 6 [(2, 175), (0, l1), (0, l2), (0, i_add l3 1), (3, 0)] [] F1 v F')) := by
  have t := q_ok cv_292 ap_292 (hd := [(6, [1, 1, 1, 1, 0])]) h rfl rfl
  exact t
-- TurnNetModel.drains()I
theorem c_M_drains {F : fx_F} {v : fx_V} {F' : fx_F} (h : Cl k_M_drains [(2, 175)] F v F') : ∃ n, Rn n k_M_drains 0 [(2, 175), (3, 0), (3, 0)] [] F v F' := by
  obtain ⟨n, s, hs, h⟩ := h
  rw [sg_293] at hs
  cases hs
  exact ⟨n, h⟩
set_option maxRecDepth 40000 in
theorem q_M_drains_0 {n : Nat} {F : fx_F} {v : fx_V} {F' : fx_F} (h : Rn n k_M_drains 0 [(2, 175), (3, 0), (3, 0)] [] F v F') :
  ∃ F1 : fx_F, Cl k_M_putAside [(2, 175)] F (2, 0) F1 ∧
  ∃ m, m < n ∧ Rn m k_M_drains 8 [(2, 175), (0, 0), (0, 0)] [] F1 v F' := by
  have t := q_ok cv_293 ap_293 (hd := [(8, [1, 1, 1])]) h rfl rfl
  exact t
set_option maxRecDepth 40000 in
theorem q_M_drains_8 {n : Nat} {l1 l2 : Nat} {F : fx_F} {v : fx_V} {F' : fx_F} (h : Rn n k_M_drains 8 [(2, 175), (0, l1), (0, l2)] [] F v F') :
  ∃ (n1 : Nat) (F1 : fx_F), Cl k_M_packetsNow [(2, 175)] F (0, n1) F1 ∧
  (s_le n1 0 →
    ∃ F2 : fx_F, Cl k_M_bringBack [(2, 175)] F1 (2, 0) F2 ∧
     (s_lt 200 l1 →
       v = (0, 4294967295) ∧ F' = F2) ∧
      (s_le l1 200 →
       (s_le 0 l2 →
         v = (0, l1) ∧ F' = F2) ∧
        (s_lt l2 0 →
         v = (0, 4294967295) ∧ F' = F2))) ∧
   (s_lt 0 n1 →
    (s_lt 200 l1 →
      ∃ F2 : fx_F, Cl k_M_bringBack [(2, 175)] F1 (2, 0) F2 ∧
       (s_lt 200 l1 →
         v = (0, 4294967295) ∧ F' = F2) ∧
        (s_le l1 200 →
         (s_le 0 l2 →
           v = (0, l1) ∧ F' = F2) ∧
          (s_lt l2 0 →
           v = (0, 4294967295) ∧ F' = F2))) ∧
     (s_le l1 200 →
      ∃ (n2 : Nat) (F2 : fx_F), Cl k_M_goStep [(2, 175)] F1 (0, n2) F2 ∧
       ∃ m, m < n ∧ Rn m k_M_drains 8 [(2, 175), (0, i_add l1 1), (0, i_add l2 n2)] [] F2 v F')) := by
  have t := q_ok cv_293 ap_293 (hd := [(8, [1, 1, 1])]) h rfl rfl
  exact t
-- TurnNetModel.gameOnce()V
theorem c_M_gameOnce {F : fx_F} {v : fx_V} {F' : fx_F} (h : Cl k_M_gameOnce [(2, 175)] F v F') : ∃ n, Rn n k_M_gameOnce 0 [(2, 175), (3, 0), (3, 0), (3, 0), (3, 0)] [] F v F' := by
  obtain ⟨n, s, hs, h⟩ := h
  rw [sg_294] at hs
  cases hs
  exact ⟨n, h⟩
set_option maxRecDepth 40000 in
theorem q_M_gameOnce_0 {n : Nat} {F : fx_F} {v : fx_V} {F' : fx_F} (h : Rn n k_M_gameOnce 0 [(2, 175), (3, 0), (3, 0), (3, 0), (3, 0)] [] F v F') :
  (s_lt (i_rem (i_rem (i_add (i_mul 137 (F 175 49)) 71) 10007) (F 177 (F 175 9))) 0 →
   ∃ (n1 : Nat) (F1 : fx_F), Cl k_M_packetsNow [(2, 175)] (fu (fu (fu F 175 49 (i_rem (i_add (i_mul 137 (F 175 49)) 71) 10007)) 175 49 (i_rem (i_add (i_mul 137 (i_rem (i_add (i_mul 137 (F 175 49)) 71) 10007)) 71) 10007)) 175 52 (i_add (F 175 52) 1)) (0, n1) F1 ∧
    ∃ (n2 : Nat) (F2 : fx_F), Cl k_M_goStep [(2, 175)] F1 (0, n2) F2 ∧
     v = (2, 0) ∧ F' = (fu (fu F2 175 50 (i_add (F2 175 50) (i_sub n1 n2))) 175 51 (i_add (F2 175 51) n2))) ∧
  (s_le 0 (i_rem (i_rem (i_add (i_mul 137 (F 175 49)) 71) 10007) (F 177 (F 175 9))) →
   (s_lt (i_sub (F 177 (F 175 9)) 1) (i_rem (i_rem (i_add (i_mul 137 (F 175 49)) 71) 10007) (F 177 (F 175 9))) →
     ∃ (n1 : Nat) (F1 : fx_F), Cl k_M_packetsNow [(2, 175)] (fu (fu (fu F 175 49 (i_rem (i_add (i_mul 137 (F 175 49)) 71) 10007)) 175 49 (i_rem (i_add (i_mul 137 (i_rem (i_add (i_mul 137 (F 175 49)) 71) 10007)) 71) 10007)) 175 52 (i_add (F 175 52) 1)) (0, n1) F1 ∧
      ∃ (n2 : Nat) (F2 : fx_F), Cl k_M_goStep [(2, 175)] F1 (0, n2) F2 ∧
       v = (2, 0) ∧ F' = (fu (fu F2 175 50 (i_add (F2 175 50) (i_sub n1 n2))) 175 51 (i_add (F2 175 51) n2))) ∧
    (s_le (i_rem (i_rem (i_add (i_mul 137 (F 175 49)) 71) 10007) (F 177 (F 175 9))) (i_sub (F 177 (F 175 9)) 1) →
     (s_lt (i_rem (i_rem (i_add (i_mul 137 (i_rem (i_add (i_mul 137 (F 175 49)) 71) 10007)) 71) 10007) (F 177 (F 175 9))) 0 →
       ∃ (n1 : Nat) (F1 : fx_F), Cl k_M_packetsNow [(2, 175)] (fu (fu (fu F 175 49 (i_rem (i_add (i_mul 137 (F 175 49)) 71) 10007)) 175 49 (i_rem (i_add (i_mul 137 (i_rem (i_add (i_mul 137 (F 175 49)) 71) 10007)) 71) 10007)) 175 52 (i_add (F 175 52) 1)) (0, n1) F1 ∧
        ∃ (n2 : Nat) (F2 : fx_F), Cl k_M_goStep [(2, 175)] F1 (0, n2) F2 ∧
         v = (2, 0) ∧ F' = (fu (fu F2 175 50 (i_add (F2 175 50) (i_sub n1 n2))) 175 51 (i_add (F2 175 51) n2))) ∧
      (s_le 0 (i_rem (i_rem (i_add (i_mul 137 (i_rem (i_add (i_mul 137 (F 175 49)) 71) 10007)) 71) 10007) (F 177 (F 175 9))) →
       (s_lt (i_sub (F 177 (F 175 9)) 1) (i_rem (i_rem (i_add (i_mul 137 (i_rem (i_add (i_mul 137 (F 175 49)) 71) 10007)) 71) 10007) (F 177 (F 175 9))) →
         ∃ (n1 : Nat) (F1 : fx_F), Cl k_M_packetsNow [(2, 175)] (fu (fu (fu F 175 49 (i_rem (i_add (i_mul 137 (F 175 49)) 71) 10007)) 175 49 (i_rem (i_add (i_mul 137 (i_rem (i_add (i_mul 137 (F 175 49)) 71) 10007)) 71) 10007)) 175 52 (i_add (F 175 52) 1)) (0, n1) F1 ∧
          ∃ (n2 : Nat) (F2 : fx_F), Cl k_M_goStep [(2, 175)] F1 (0, n2) F2 ∧
           v = (2, 0) ∧ F' = (fu (fu F2 175 50 (i_add (F2 175 50) (i_sub n1 n2))) 175 51 (i_add (F2 175 51) n2))) ∧
        (s_le (i_rem (i_rem (i_add (i_mul 137 (i_rem (i_add (i_mul 137 (F 175 49)) 71) 10007)) 71) 10007) (F 177 (F 175 9))) (i_sub (F 177 (F 175 9)) 1) →
         ((i_rem (i_rem (i_add (i_mul 137 (F 175 49)) 71) 10007) (F 177 (F 175 9))) = (i_rem (i_rem (i_add (i_mul 137 (i_rem (i_add (i_mul 137 (F 175 49)) 71) 10007)) 71) 10007) (F 177 (F 175 9))) →
           ∃ (n1 : Nat) (F1 : fx_F), Cl k_M_packetsNow [(2, 175)] (fu (fu (fu F 175 49 (i_rem (i_add (i_mul 137 (F 175 49)) 71) 10007)) 175 49 (i_rem (i_add (i_mul 137 (i_rem (i_add (i_mul 137 (F 175 49)) 71) 10007)) 71) 10007)) 175 52 (i_add (F 175 52) 1)) (0, n1) F1 ∧
            ∃ (n2 : Nat) (F2 : fx_F), Cl k_M_goStep [(2, 175)] F1 (0, n2) F2 ∧
             v = (2, 0) ∧ F' = (fu (fu F2 175 50 (i_add (F2 175 50) (i_sub n1 n2))) 175 51 (i_add (F2 175 51) n2))) ∧
          ((i_rem (i_rem (i_add (i_mul 137 (F 175 49)) 71) 10007) (F 177 (F 175 9))) ≠ (i_rem (i_rem (i_add (i_mul 137 (i_rem (i_add (i_mul 137 (F 175 49)) 71) 10007)) 71) 10007) (F 177 (F 175 9))) →
           ∃ (n1 : Nat) (F1 : fx_F), Cl k_M_freePacket [(2, 175)] (fu (fu F 175 49 (i_rem (i_add (i_mul 137 (F 175 49)) 71) 10007)) 175 49 (i_rem (i_add (i_mul 137 (i_rem (i_add (i_mul 137 (F 175 49)) 71) 10007)) 71) 10007)) (0, n1) F1 ∧
            (s_lt n1 0 →
              ∃ (n2 : Nat) (F2 : fx_F), Cl k_M_packetsNow [(2, 175)] (fu F1 175 52 (i_add (F1 175 52) 1)) (0, n2) F2 ∧
               ∃ (n3 : Nat) (F3 : fx_F), Cl k_M_goStep [(2, 175)] F2 (0, n3) F3 ∧
                v = (2, 0) ∧ F' = (fu (fu F3 175 50 (i_add (F3 175 50) (i_sub n2 n3))) 175 51 (i_add (F3 175 51) n3))) ∧
             (s_le 0 n1 →
              ∃ (n2 : Nat) (F2 : fx_F), Cl k_M_freePacket [(2, 175)] F1 (0, n2) F2 ∧
               (s_lt n2 0 →
                 ∃ (n3 : Nat) (F3 : fx_F), Cl k_M_packetsNow [(2, 175)] (fu (fu (fu (fu (fu (fu F2 176 (i_add 41 n2) 1) 176 (i_add 53 n2) (i_rem (i_rem (i_add (i_mul 137 (i_rem (i_add (i_mul 137 (F 175 49)) 71) 10007)) 71) 10007) (F 177 (F 175 9)))) 176 (i_add 65 n2) (i_rem (i_rem (i_add (i_mul 137 (F 175 49)) 71) 10007) (F 177 (F 175 9)))) 176 (i_add 77 n2) 4294967295) 176 (i_add 89 n2) 0) 175 51 (i_add (F1 175 51) 1)) (0, n3) F3 ∧
                  ∃ (n4 : Nat) (F4 : fx_F), Cl k_M_goStep [(2, 175)] F3 (0, n4) F4 ∧
                   v = (2, 0) ∧ F' = (fu (fu F4 175 50 (i_add (F4 175 50) (i_sub n3 n4))) 175 51 (i_add (F4 175 51) n4))) ∧
                (s_le 0 n2 →
                 ∃ (n3 : Nat) (F3 : fx_F), Cl k_M_packetsNow [(2, 175)] (fu (fu (fu (fu (fu (fu F2 176 (i_add 41 n2) 1) 176 (i_add 53 n2) (i_rem (i_rem (i_add (i_mul 137 (i_rem (i_add (i_mul 137 (F 175 49)) 71) 10007)) 71) 10007) (F 177 (F 175 9)))) 176 (i_add 65 n2) (i_rem (i_rem (i_add (i_mul 137 (F 175 49)) 71) 10007) (F 177 (F 175 9)))) 176 (i_add 77 n2) 4294967295) 176 (i_add 89 n2) 0) 175 51 (i_add (F1 175 51) 0)) (0, n3) F3 ∧
                  ∃ (n4 : Nat) (F4 : fx_F), Cl k_M_goStep [(2, 175)] F3 (0, n4) F4 ∧
                   v = (2, 0) ∧ F' = (fu (fu F4 175 50 (i_add (F4 175 50) (i_sub n3 n4))) 175 51 (i_add (F4 175 51) n4))))))))) := by
  have t := q_ok cv_294 ap_294 (hd := []) h rfl rfl
  exact t
-- TurnNetModel.goSteps(I)I
theorem c_M_goSteps {a1 : Nat} {F : fx_F} {v : fx_V} {F' : fx_F} (h : Cl k_M_goSteps [(2, 175), (0, a1)] F v F') : ∃ n, Rn n k_M_goSteps 0 [(2, 175), (0, a1), (3, 0), (3, 0)] [] F v F' := by
  obtain ⟨n, s, hs, h⟩ := h
  rw [sg_295] at hs
  cases hs
  exact ⟨n, h⟩
set_option maxRecDepth 40000 in
theorem q_M_goSteps_0 {n : Nat} {a1 : Nat} {F : fx_F} {v : fx_V} {F' : fx_F} (h : Rn n k_M_goSteps 0 [(2, 175), (0, a1), (3, 0), (3, 0)] [] F v F') :
  ∃ m, m < n ∧ Rn m k_M_goSteps 4 [(2, 175), (0, a1), (0, 0), (0, 0)] [] F v F' := by
  have t := q_ok cv_295 ap_295 (hd := [(4, [1, 1, 1, 1])]) h rfl rfl
  exact t
set_option maxRecDepth 40000 in
theorem q_M_goSteps_4 {n : Nat} {l1 l2 l3 : Nat} {F : fx_F} {v : fx_V} {F' : fx_F} (h : Rn n k_M_goSteps 4 [(2, 175), (0, l1), (0, l2), (0, l3)] [] F v F') :
  (s_le l1 l3 →
   v = (0, l2) ∧ F' = F) ∧
  (s_lt l3 l1 →
   ∃ (n1 : Nat) (F1 : fx_F), Cl k_M_goStep [(2, 175)] F (0, n1) F1 ∧
    ∃ m, m < n ∧ Rn m k_M_goSteps 4 [(2, 175), (0, l1), (0, i_add l2 n1), (0, i_add l3 1)] [] F1 v F') := by
  have t := q_ok cv_295 ap_295 (hd := [(4, [1, 1, 1, 1])]) h rfl rfl
  exact t
-- TurnNetModel.heaviest(I)I
theorem c_M_heaviest {a1 : Nat} {F : fx_F} {v : fx_V} {F' : fx_F} (h : Cl k_M_heaviest [(2, 175), (0, a1)] F v F') : ∃ n, Rn n k_M_heaviest 0 [(2, 175), (0, a1)] [] F v F' := by
  obtain ⟨n, s, hs, h⟩ := h
  rw [sg_296] at hs
  cases hs
  exact ⟨n, h⟩
set_option maxRecDepth 40000 in
theorem q_M_heaviest_0 {n : Nat} {a1 : Nat} {F : fx_F} {v : fx_V} {F' : fx_F} (h : Rn n k_M_heaviest 0 [(2, 175), (0, a1)] [] F v F') :
  (s_lt a1 0 →
   v = (0, 4294967295) ∧ F' = F) ∧
  (s_le 0 a1 →
   (s_lt 1 a1 →
     v = (0, 4294967295) ∧ F' = F) ∧
    (s_le a1 1 →
     ((F 178 (F 175 9)) ≠ 0 →
       ∃ F1 : fx_F, Cl k_M_layLoads [(2, 175)] F (2, 0) F1 ∧
        (a1 ≠ 0 →
          ∃ (n2 : Nat) (F2 : fx_F), Cl k_M_heaviestNow [(2, 175)] F1 (0, n2) F2 ∧
           v = (0, F2 198 n2) ∧ F' = F2) ∧
         (a1 = 0 →
          ∃ (n2 : Nat) (F2 : fx_F), Cl k_M_heaviestNow [(2, 175)] F1 (0, n2) F2 ∧
           v = (0, n2) ∧ F' = F2)) ∧
      ((F 178 (F 175 9)) = 0 →
       v = (0, 4294967295) ∧ F' = F))) := by
  have t := q_ok cv_296 ap_296 (hd := []) h rfl rfl
  exact t
-- TurnNetModel.load(I)I
theorem c_M_load {a1 : Nat} {F : fx_F} {v : fx_V} {F' : fx_F} (h : Cl k_M_load [(2, 175), (0, a1)] F v F') : ∃ n, Rn n k_M_load 0 [(2, 175), (0, a1)] [] F v F' := by
  obtain ⟨n, s, hs, h⟩ := h
  rw [sg_297] at hs
  cases hs
  exact ⟨n, h⟩
set_option maxRecDepth 40000 in
theorem q_M_load_0 {n : Nat} {a1 : Nat} {F : fx_F} {v : fx_V} {F' : fx_F} (h : Rn n k_M_load 0 [(2, 175), (0, a1)] [] F v F') :
  (s_lt a1 0 →
   v = (0, 4294967295) ∧ F' = F) ∧
  (s_le 0 a1 →
   (s_lt (i_sub (i_mul 2 (F 178 (F 175 9))) 1) a1 →
     v = (0, 4294967295) ∧ F' = F) ∧
    (s_le a1 (i_sub (i_mul 2 (F 178 (F 175 9))) 1) →
     ∃ F1 : fx_F, Cl k_M_layLoads [(2, 175)] F (2, 0) F1 ∧
      v = (0, F1 198 a1) ∧ F' = F1)) := by
  have t := q_ok cv_297 ap_297 (hd := []) h rfl rfl
  exact t
-- TurnNetModel.rootedBy(II)I
theorem c_M_rootedBy {a1 a2 : Nat} {F : fx_F} {v : fx_V} {F' : fx_F} (h : Cl k_M_rootedBy [(2, 175), (0, a1), (0, a2)] F v F') : ∃ n, Rn n k_M_rootedBy 0 [(2, 175), (0, a1), (0, a2), (3, 0)] [] F v F' := by
  obtain ⟨n, s, hs, h⟩ := h
  rw [sg_298] at hs
  cases hs
  exact ⟨n, h⟩
set_option maxRecDepth 40000 in
theorem q_M_rootedBy_0 {n : Nat} {a1 a2 : Nat} {F : fx_F} {v : fx_V} {F' : fx_F} (h : Rn n k_M_rootedBy 0 [(2, 175), (0, a1), (0, a2), (3, 0)] [] F v F') :
  ∃ F1 : fx_F, Cl k_M_putAside [(2, 175)] F (2, 0) F1 ∧
  ∃ F2 : fx_F, Cl k_M_orientBy [(2, 175), (0, a1)] F1 (2, 0) F2 ∧
   ∃ F3 : fx_F, Cl k_M_takeOver [(2, 175)] F2 (2, 0) F3 ∧
    ∃ F4 : fx_F, Cl k_M_layPairs [(2, 175)] F3 (2, 0) F4 ∧
     (a2 ≠ 0 →
       (a2 ≠ 2 →
         ∃ F5 : fx_F, Cl k_M_bringBack [(2, 175)] F4 (2, 0) F5 ∧
          v = (0, F4 175 41) ∧ F' = F5) ∧
        (a2 = 2 →
         ∃ F5 : fx_F, Cl k_M_layLoads [(2, 175)] F4 (2, 0) F5 ∧
          ((F5 178 (F5 175 9)) ≠ 0 →
            ∃ (n6 : Nat) (F6 : fx_F), Cl k_M_heaviestNow [(2, 175)] F5 (0, n6) F6 ∧
             ∃ F7 : fx_F, Cl k_M_bringBack [(2, 175)] F6 (2, 0) F7 ∧
              v = (0, F6 198 n6) ∧ F' = F7) ∧
           ((F5 178 (F5 175 9)) = 0 →
            ∃ F6 : fx_F, Cl k_M_bringBack [(2, 175)] F5 (2, 0) F6 ∧
             v = (0, 0) ∧ F' = F6))) ∧
      (a2 = 0 →
       (a2 ≠ 2 →
         ∃ F5 : fx_F, Cl k_M_bringBack [(2, 175)] F4 (2, 0) F5 ∧
          v = (0, F4 175 40) ∧ F' = F5) ∧
        (a2 = 2 →
         ∃ F5 : fx_F, Cl k_M_layLoads [(2, 175)] F4 (2, 0) F5 ∧
          ((F5 178 (F5 175 9)) ≠ 0 →
            ∃ (n6 : Nat) (F6 : fx_F), Cl k_M_heaviestNow [(2, 175)] F5 (0, n6) F6 ∧
             ∃ F7 : fx_F, Cl k_M_bringBack [(2, 175)] F6 (2, 0) F7 ∧
              v = (0, F6 198 n6) ∧ F' = F7) ∧
           ((F5 178 (F5 175 9)) = 0 →
            ∃ F6 : fx_F, Cl k_M_bringBack [(2, 175)] F5 (2, 0) F6 ∧
             v = (0, 0) ∧ F' = F6))) := by
  have t := q_ok cv_298 ap_298 (hd := []) h rfl rfl
  exact t
-- TurnNet$Reader.readProduct(I)Z
theorem c_Rd_readProduct6 {a1 : Nat} {F : fx_F} {v : fx_V} {F' : fx_F} (h : Cl k_Rd_readProduct6 [(2, 10), (0, a1)] F v F') : ∃ n, Rn n k_Rd_readProduct6 0 [(2, 10), (0, a1), (3, 0), (3, 0)] [] F v F' := by
  obtain ⟨n, s, hs, h⟩ := h
  rw [sg_299] at hs
  cases hs
  exact ⟨n, h⟩
set_option maxRecDepth 40000 in
theorem q_Rd_readProduct6_0 {n : Nat} {a1 : Nat} {F : fx_F} {v : fx_V} {F' : fx_F} (h : Rn n k_Rd_readProduct6 0 [(2, 10), (0, a1), (3, 0), (3, 0)] [] F v F') :
  ∃ (n1 : Nat) (F1 : fx_F), Cl k_Rd_readUnit6 [(2, 10), (0, a1)] F (0, n1) F1 ∧
  (n1 ≠ 0 →
    ∃ m, m < n ∧ Rn m k_Rd_readProduct6 12 [(2, 10), (0, a1), (0, 0), (3, 0)] [] F1 v F') ∧
   (n1 = 0 →
    v = (0, 0) ∧ F' = F1) := by
  have t := q_ok cv_299 ap_299 (hd := [(12, [1, 1, 1, 0])]) h rfl rfl
  exact t
set_option maxRecDepth 40000 in
theorem q_Rd_readProduct6_12 {n : Nat} {l1 l2 : Nat} {F : fx_F} {v : fx_V} {F' : fx_F} (h : Rn n k_Rd_readProduct6 12 [(2, 10), (0, l1), (0, l2), (3, 0)] [] F v F') :
  (s_le 800 l2 →
   v = (0, 1) ∧ F' = F) ∧
  (s_lt l2 800 →
   ((F 10 7) = 42 →
     ∃ F1 : fx_F, Cl k_Rd_advance [(2, 10)] F (2, 0) F1 ∧
      ∃ (n2 : Nat) (F2 : fx_F), Cl k_Rd_readUnit6 [(2, 10), (0, l1)] F1 (0, n2) F2 ∧
       (n2 ≠ 0 →
         (s_le 80 (F2 12 5) →
           ∃ m, m < n ∧ Rn m k_Rd_readProduct6 12 [(2, 10), (0, l1), (0, i_add l2 1), (3, 0)] [] F2 v F') ∧
          (s_lt (F2 12 5) 80 →
           ∃ m, m < n ∧ Rn m k_Rd_readProduct6 12 [(2, 10), (0, l1), (0, i_add l2 1), (3, 0)] [] (fu (fu (fu F2 17 (F2 12 5) (F 10 7)) 18 (F2 12 5) 0) 12 5 (i_add (F2 12 5) 1)) v F')) ∧
        (n2 = 0 →
         v = (0, 0) ∧ F' = F2)) ∧
    ((F 10 7) ≠ 42 →
     ((F 10 7) = 47 →
       ∃ F1 : fx_F, Cl k_Rd_advance [(2, 10)] F (2, 0) F1 ∧
        ∃ (n2 : Nat) (F2 : fx_F), Cl k_Rd_readUnit6 [(2, 10), (0, l1)] F1 (0, n2) F2 ∧
         (n2 ≠ 0 →
           (s_le 80 (F2 12 5) →
             ∃ m, m < n ∧ Rn m k_Rd_readProduct6 12 [(2, 10), (0, l1), (0, i_add l2 1), (3, 0)] [] F2 v F') ∧
            (s_lt (F2 12 5) 80 →
             ∃ m, m < n ∧ Rn m k_Rd_readProduct6 12 [(2, 10), (0, l1), (0, i_add l2 1), (3, 0)] [] (fu (fu (fu F2 17 (F2 12 5) (F 10 7)) 18 (F2 12 5) 0) 12 5 (i_add (F2 12 5) 1)) v F')) ∧
          (n2 = 0 →
           v = (0, 0) ∧ F' = F2)) ∧
      ((F 10 7) ≠ 47 →
       ((F 10 7) ≠ 37 →
         v = (0, 1) ∧ F' = F) ∧
        ((F 10 7) = 37 →
         ∃ F1 : fx_F, Cl k_Rd_advance [(2, 10)] F (2, 0) F1 ∧
          ∃ (n2 : Nat) (F2 : fx_F), Cl k_Rd_readUnit6 [(2, 10), (0, l1)] F1 (0, n2) F2 ∧
           (n2 ≠ 0 →
             (s_le 80 (F2 12 5) →
               ∃ m, m < n ∧ Rn m k_Rd_readProduct6 12 [(2, 10), (0, l1), (0, i_add l2 1), (3, 0)] [] F2 v F') ∧
              (s_lt (F2 12 5) 80 →
               ∃ m, m < n ∧ Rn m k_Rd_readProduct6 12 [(2, 10), (0, l1), (0, i_add l2 1), (3, 0)] [] (fu (fu (fu F2 17 (F2 12 5) (F 10 7)) 18 (F2 12 5) 0) 12 5 (i_add (F2 12 5) 1)) v F')) ∧
            (n2 = 0 →
             v = (0, 0) ∧ F' = F2))))) := by
  have t := q_ok cv_299 ap_299 (hd := [(12, [1, 1, 1, 0])]) h rfl rfl
  exact t
-- TurnNetModel.best(I)I
theorem c_M_best {a1 : Nat} {F : fx_F} {v : fx_V} {F' : fx_F} (h : Cl k_M_best [(2, 175), (0, a1)] F v F') : ∃ n, Rn n k_M_best 0 [(2, 175), (0, a1), (3, 0), (3, 0), (3, 0), (3, 0)] [] F v F' := by
  obtain ⟨n, s, hs, h⟩ := h
  rw [sg_300] at hs
  cases hs
  exact ⟨n, h⟩
set_option maxRecDepth 40000 in
theorem q_M_best_0 {n : Nat} {a1 : Nat} {F : fx_F} {v : fx_V} {F' : fx_F} (h : Rn n k_M_best 0 [(2, 175), (0, a1), (3, 0), (3, 0), (3, 0), (3, 0)] [] F v F') :
  (s_lt a1 0 →
   v = (0, 4294967295) ∧ F' = F) ∧
  (s_le 0 a1 →
   (s_lt 2 a1 →
     v = (0, 4294967295) ∧ F' = F) ∧
    (s_le a1 2 →
     ((F 177 (F 175 9)) ≠ 0 →
       ∃ (n1 : Nat) (F1 : fx_F), Cl k_M_rootedBy [(2, 175), (0, 0), (0, a1)] F (0, n1) F1 ∧
        ∃ m, m < n ∧ Rn m k_M_best 30 [(2, 175), (0, a1), (0, 0), (0, n1), (0, 1), (3, 0)] [] F1 v F') ∧
      ((F 177 (F 175 9)) = 0 →
       v = (0, 4294967295) ∧ F' = F))) := by
  have t := q_ok cv_300 ap_300 (hd := [(30, [1, 1, 1, 1, 1, 0])]) h rfl rfl
  exact t
set_option maxRecDepth 40000 in
theorem q_M_best_30 {n : Nat} {l1 l2 l3 l4 : Nat} {F : fx_F} {v : fx_V} {F' : fx_F} (h : Rn n k_M_best 30 [(2, 175), (0, l1), (0, l2), (0, l3), (0, l4), (3, 0)] [] F v F') :
  (s_le (F 177 (F 175 9)) l4 →
   v = (0, l2) ∧ F' = F) ∧
  (s_lt l4 (F 177 (F 175 9)) →
   ∃ (n1 : Nat) (F1 : fx_F), Cl k_M_rootedBy [(2, 175), (0, l4), (0, l1)] F (0, n1) F1 ∧
    (s_lt n1 l3 →
      ∃ m, m < n ∧ Rn m k_M_best 30 [(2, 175), (0, l1), (0, l4), (0, n1), (0, i_add l4 1), (3, 0)] [] F1 v F') ∧
     (s_le l3 n1 →
      ∃ m, m < n ∧ Rn m k_M_best 30 [(2, 175), (0, l1), (0, l2), (0, l3), (0, i_add l4 1), (3, 0)] [] F1 v F')) := by
  have t := q_ok cv_300 ap_300 (hd := [(30, [1, 1, 1, 1, 1, 0])]) h rfl rfl
  exact t
