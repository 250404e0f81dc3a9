section
-- TurnNetModel.leastUsed(III)I
theorem c_M_leastUsed {a1 a2 a3 : Nat} {F : fx_F} {v : fx_V} {F' : fx_F} (h : Cl k_M_leastUsed [(2, 175), (0, a1), (0, a2), (0, a3)] F v F') : ∃ n, Rn n k_M_leastUsed 0 [(2, 175), (0, a1), (0, a2), (0, a3), (3, 0), (3, 0)] [] F v F' := by
  obtain ⟨n, s, hs, h⟩ := h
  rw [sg_270] at hs
  cases hs
  exact ⟨n, h⟩
set_option maxRecDepth 40000 in
theorem q_M_leastUsed_0 {n : Nat} {a1 a2 a3 : Nat} {F : fx_F} {v : fx_V} {F' : fx_F} (h : Rn n k_M_leastUsed 0 [(2, 175), (0, a1), (0, a2), (0, a3), (3, 0), (3, 0)] [] F v F') :
  ∃ m, m < n ∧ Rn m k_M_leastUsed 6 [(2, 175), (0, a1), (0, a2), (0, a3), (0, 4294967295), (0, 0)] [] F v F' := by
  have t := q_ok cv_270 ap_270 (hd := [(6, [1, 1, 1, 1, 1, 1])]) h rfl rfl
  exact t
set_option maxRecDepth 40000 in
theorem q_M_leastUsed_6 {n : Nat} {l1 l2 l3 l4 l5 : Nat} {F : fx_F} {v : fx_V} {F' : fx_F} (h : Rn n k_M_leastUsed 6 [(2, 175), (0, l1), (0, l2), (0, l3), (0, l4), (0, l5)] [] F v F') :
  (s_le (i_mul 2 (F 178 (F 175 9))) l5 →
   v = (0, l4) ∧ F' = F) ∧
  (s_lt l5 (i_mul 2 (F 178 (F 175 9))) →
   ((F 183 (i_add (i_add (i_mul 40 (F 175 9)) (i_mul 2 (i_div l5 2))) (i_rem l5 2))) ≠ l2 →
     ∃ m, m < n ∧ Rn m k_M_leastUsed 6 [(2, 175), (0, l1), (0, l2), (0, l3), (0, l4), (0, i_add l5 1)] [] F v F') ∧
    ((F 183 (i_add (i_add (i_mul 40 (F 175 9)) (i_mul 2 (i_div l5 2))) (i_rem l5 2))) = l2 →
     ∃ (n1 : Nat) (F1 : fx_F), Cl k_M_isNext [(2, 175), (0, l1), (0, l5), (0, l3)] F (0, n1) F1 ∧
      (n1 ≠ 0 →
        (s_lt l4 0 →
          ∃ m, m < n ∧ Rn m k_M_leastUsed 6 [(2, 175), (0, l1), (0, l2), (0, l3), (0, l5), (0, i_add l5 1)] [] F1 v F') ∧
         (s_le 0 l4 →
          (s_le (F1 197 l4) (F1 197 l5) →
            ∃ m, m < n ∧ Rn m k_M_leastUsed 6 [(2, 175), (0, l1), (0, l2), (0, l3), (0, l4), (0, i_add l5 1)] [] F1 v F') ∧
           (s_lt (F1 197 l5) (F1 197 l4) →
            ∃ m, m < n ∧ Rn m k_M_leastUsed 6 [(2, 175), (0, l1), (0, l2), (0, l3), (0, l5), (0, i_add l5 1)] [] F1 v F'))) ∧
       (n1 = 0 →
        ∃ m, m < n ∧ Rn m k_M_leastUsed 6 [(2, 175), (0, l1), (0, l2), (0, l3), (0, l4), (0, i_add l5 1)] [] F1 v F'))) := by
  have t := q_ok cv_270 ap_270 (hd := [(6, [1, 1, 1, 1, 1, 1])]) h rfl rfl
  exact t
-- TurnNetModel.length(II)I
theorem c_M_length {a1 a2 : Nat} {F : fx_F} {v : fx_V} {F' : fx_F} (h : Cl k_M_length [(2, 175), (0, a1), (0, a2)] F v F') : ∃ n, Rn n k_M_length 0 [(2, 175), (0, a1), (0, a2)] [] F v F' := by
  obtain ⟨n, s, hs, h⟩ := h
  rw [sg_271] at hs
  cases hs
  exact ⟨n, h⟩
set_option maxRecDepth 40000 in
theorem q_M_length_0 {n : Nat} {a1 a2 : Nat} {F : fx_F} {v : fx_V} {F' : fx_F} (h : Rn n k_M_length 0 [(2, 175), (0, a1), (0, a2)] [] F v F') :
  (s_lt a1 0 →
   v = (0, 4294967295) ∧ F' = F) ∧
  (s_le 0 a1 →
   (s_lt (i_sub (F 177 (F 175 9)) 1) a1 →
     v = (0, 4294967295) ∧ F' = F) ∧
    (s_le a1 (i_sub (F 177 (F 175 9)) 1) →
     (s_lt a2 0 →
       v = (0, 4294967295) ∧ F' = F) ∧
      (s_le 0 a2 →
       (s_lt (i_sub (F 177 (F 175 9)) 1) a2 →
         v = (0, 4294967295) ∧ F' = F) ∧
        (s_le a2 (i_sub (F 177 (F 175 9)) 1) →
         ∃ F1 : fx_F, Cl k_M_layGoal [(2, 175), (0, a2)] F (2, 0) F1 ∧
          (s_le 100000 (F1 193 (i_add (i_add (i_mul 20 a2) (i_mul 2 a1)) 0)) →
            v = (0, 4294967295) ∧ F' = F1) ∧
           (s_lt (F1 193 (i_add (i_add (i_mul 20 a2) (i_mul 2 a1)) 0)) 100000 →
            v = (0, F1 193 (i_add (i_add (i_mul 20 a2) (i_mul 2 a1)) 0)) ∧ F' = F1))))) := by
  have t := q_ok cv_271 ap_271 (hd := []) h rfl rfl
  exact t
-- TurnNetModel.net()I
theorem c_M_net {F : fx_F} {v : fx_V} {F' : fx_F} (h : Cl k_M_net [(2, 175)] F v F') : ∃ n, Rn n k_M_net 0 [(2, 175), (3, 0)] [] F v F' := by
  obtain ⟨n, s, hs, h⟩ := h
  rw [sg_272] at hs
  cases hs
  exact ⟨n, h⟩
set_option maxRecDepth 40000 in
theorem q_M_net_0 {n : Nat} {F : fx_F} {v : fx_V} {F' : fx_F} (h : Rn n k_M_net 0 [(2, 175), (3, 0)] [] F v F') :
  ∃ F1 : fx_F, Cl k_M_readAll [(2, 175), (0, i_sub 1 (F 175 9))] (fu (fu (fu (fu (fu (fu (fu (fu (fu (fu (fu (fu (fu (fu F 175 12 (F 175 11)) 175 11 0) 175 13 0) 175 18 0) 175 19 4294967295) 175 23 0) 175 24 0) 175 25 0) 177 (i_sub 1 (F 175 9)) 0) 178 (i_sub 1 (F 175 9)) 0) 179 (i_sub 1 (F 175 9)) 0) 180 (i_sub 1 (F 175 9)) 1) 181 (i_sub 1 (F 175 9)) 0) 182 (i_sub 1 (F 175 9)) 0) (2, 0) F1 ∧
  (s_le (F1 175 18) 0 →
    ∃ F2 : fx_F, Cl k_M_startAnew [(2, 175)] (fu (fu (fu F1 175 20 (F1 175 18)) 175 21 (F1 175 19)) 175 9 (i_sub 1 (F 175 9))) (2, 0) F2 ∧
     v = (0, F2 177 (F2 175 9)) ∧ F' = F2) ∧
   (s_lt 0 (F1 175 18) →
    v = (0, 4294967295) ∧ F' = (fu (fu F1 175 20 (F1 175 18)) 175 21 (F1 175 19))) := by
  have t := q_ok cv_272 ap_272 (hd := []) h rfl rfl
  exact t
-- TurnNetModel.ring(I)I
theorem c_M_ring {a1 : Nat} {F : fx_F} {v : fx_V} {F' : fx_F} (h : Cl k_M_ring [(2, 175), (0, a1)] F v F') : ∃ n, Rn n k_M_ring 0 [(2, 175), (0, a1)] [] F v F' := by
  obtain ⟨n, s, hs, h⟩ := h
  rw [sg_273] at hs
  cases hs
  exact ⟨n, h⟩
set_option maxRecDepth 40000 in
theorem q_M_ring_0 {n : Nat} {a1 : Nat} {F : fx_F} {v : fx_V} {F' : fx_F} (h : Rn n k_M_ring 0 [(2, 175), (0, a1)] [] F v F') :
  (s_lt a1 0 →
   v = (0, 4294967295) ∧ F' = F) ∧
  (s_le 0 a1 →
   (s_lt (i_sub (i_mul 2 (F 178 (F 175 9))) 1) a1 →
     v = (0, 4294967295) ∧ F' = F) ∧
    (s_le a1 (i_sub (i_mul 2 (F 178 (F 175 9))) 1) →
     ∃ F1 : fx_F, Cl k_M_layTurns [(2, 175)] F (2, 0) F1 ∧
      ∃ (n2 : Nat) (F2 : fx_F), Cl k_M_roundOf [(2, 175), (0, a1)] F1 (0, n2) F2 ∧
       v = (0, n2) ∧ F' = F2)) := by
  have t := q_ok cv_273 ap_273 (hd := []) h rfl rfl
  exact t
-- TurnNetModel.rings()I
theorem c_M_rings {F : fx_F} {v : fx_V} {F' : fx_F} (h : Cl k_M_rings [(2, 175)] F v F') : ∃ n, Rn n k_M_rings 0 [(2, 175), (3, 0), (3, 0)] [] F v F' := by
  obtain ⟨n, s, hs, h⟩ := h
  rw [sg_274] at hs
  cases hs
  exact ⟨n, h⟩
set_option maxRecDepth 40000 in
theorem q_M_rings_0 {n : Nat} {F : fx_F} {v : fx_V} {F' : fx_F} (h : Rn n k_M_rings 0 [(2, 175), (3, 0), (3, 0)] [] F v F') :
  ∃ F1 : fx_F, Cl k_M_layTurns [(2, 175)] F (2, 0) F1 ∧
  ∃ m, m < n ∧ Rn m k_M_rings 8 [(2, 175), (0, 0), (0, 0)] [] F1 v F' := by
  have t := q_ok cv_274 ap_274 (hd := [(8, [1, 1, 1])]) h rfl rfl
  exact t
set_option maxRecDepth 40000 in
theorem q_M_rings_8 {n : Nat} {l1 l2 : Nat} {F : fx_F} {v : fx_V} {F' : fx_F} (h : Rn n k_M_rings 8 [(2, 175), (0, l1), (0, l2)] [] F v F') :
  (s_le (i_mul 2 (F 178 (F 175 9))) l2 →
   v = (0, l1) ∧ F' = F) ∧
  (s_lt l2 (i_mul 2 (F 178 (F 175 9))) →
   ∃ (n1 : Nat) (F1 : fx_F), Cl k_M_roundOf [(2, 175), (0, l2)] F (0, n1) F1 ∧
    (s_le n1 0 →
      ∃ m, m < n ∧ Rn m k_M_rings 8 [(2, 175), (0, i_add l1 0), (0, i_add l2 1)] [] F1 v F') ∧
     (s_lt 0 n1 →
      ∃ m, m < n ∧ Rn m k_M_rings 8 [(2, 175), (0, i_add l1 1), (0, i_add l2 1)] [] F1 v F')) := by
  have t := q_ok cv_274 ap_274 (hd := [(8, [1, 1, 1])]) h rfl rfl
  exact t
-- TurnNet$Reader.isWord(Ljava/lang/String;)Z
theorem c_Rd_isWord {a1 : Nat} {F : fx_F} {v : fx_V} {F' : fx_F} (h : Cl k_Rd_isWord [(2, 10), (2, a1)] F v F') : ∃ n, Rn n k_Rd_isWord 0 [(2, 10), (2, a1), (3, 0)] [] F v F' := by
  obtain ⟨n, s, hs, h⟩ := h
  rw [sg_275] at hs
  cases hs
  exact ⟨n, h⟩
set_option maxRecDepth 40000 in
theorem q_Rd_isWord_0 {n : Nat} {a1 : Nat} {F : fx_F} {v : fx_V} {F' : fx_F} (h : Rn n k_Rd_isWord 0 [(2, 10), (2, a1), (3, 0)] [] F v F') :
  ((F 10 7) ≠ 1 →
   v = (0, 0) ∧ F' = F) ∧
  ((F 10 7) = 1 →
   ∃ n1 : Nat,
    ((i_sub (F 10 5) (F 10 6)) = n1 →
      ∃ m, m < n ∧ Rn m k_Rd_isWord 28 [(2, 10), (2, a1), (0, 0)] [] F v F') ∧
     ((i_sub (F 10 5) (F 10 6)) ≠ n1 →
      v = (0, 0) ∧ F' = F)) := by
  have t := q_ok cv_275 ap_275 (hd := [(28, [1, 1, 1])]) h rfl rfl
  exact t
set_option maxRecDepth 40000 in
theorem q_Rd_isWord_28 {n : Nat} {l1 l2 : Nat} {F : fx_F} {v : fx_V} {F' : fx_F} (h : Rn n k_Rd_isWord 28 [(2, 10), (2, l1), (0, l2)] [] F v F') :
  ∃ n1 : Nat,
  (s_le n1 l2 →
    v = (0, 1) ∧ F' = F) ∧
   (s_lt l2 n1 →
    ∃ n2 : Nat,
     ((F 11 (i_add (F 10 6) l2)) = n2 →
       ∃ m, m < n ∧ Rn m k_Rd_isWord 28 [(2, 10), (2, l1), (0, i_add l2 1)] [] F v F') ∧
      ((F 11 (i_add (F 10 6) l2)) ≠ n2 →
       v = (0, 0) ∧ F' = F)) := by
  have t := q_ok cv_275 ap_275 (hd := [(28, [1, 1, 1])]) h rfl rfl
  exact t
-- TurnNetModel.around(III)I
theorem c_M_around {a1 a2 a3 : Nat} {F : fx_F} {v : fx_V} {F' : fx_F} (h : Cl k_M_around [(2, 175), (0, a1), (0, a2), (0, a3)] F v F') : ∃ n, Rn n k_M_around 0 [(2, 175), (0, a1), (0, a2), (0, a3), (3, 0)] [] F v F' := by
  obtain ⟨n, s, hs, h⟩ := h
  rw [sg_276] at hs
  cases hs
  exact ⟨n, h⟩
set_option maxRecDepth 40000 in
theorem q_M_around_0 {n : Nat} {a1 a2 a3 : Nat} {F : fx_F} {v : fx_V} {F' : fx_F} (h : Rn n k_M_around 0 [(2, 175), (0, a1), (0, a2), (0, a3), (3, 0)] [] F v F') :
  (s_lt a1 0 →
   v = (0, 4294967295) ∧ F' = F) ∧
  (s_le 0 a1 →
   (s_lt (i_sub (F 177 (F 175 9)) 1) a1 →
     v = (0, 4294967295) ∧ F' = F) ∧
    (s_le a1 (i_sub (F 177 (F 175 9)) 1) →
     (s_lt a2 0 →
       v = (0, 4294967295) ∧ F' = F) ∧
      (s_le 0 a2 →
       (s_lt (i_sub (F 177 (F 175 9)) 1) a2 →
         v = (0, 4294967295) ∧ F' = F) ∧
        (s_le a2 (i_sub (F 177 (F 175 9)) 1) →
         (s_lt a3 0 →
           v = (0, 4294967295) ∧ F' = F) ∧
          (s_le 0 a3 →
           (s_lt (i_sub (F 178 (F 175 9)) 1) a3 →
             v = (0, 4294967295) ∧ F' = F) ∧
            (s_le a3 (i_sub (F 178 (F 175 9)) 1) →
             ((F 176 (i_add 0 a3)) ≠ 1 →
               v = (0, 4294967295) ∧ F' = F) ∧
              ((F 176 (i_add 0 a3)) = 1 →
               ∃ F1 : fx_F, Cl k_M_putAside [(2, 175)] F (2, 0) F1 ∧
                ∃ (n2 : Nat) (F2 : fx_F), Cl k_M_length [(2, 175), (0, a1), (0, a2)] (fu F1 176 (i_add 0 a3) 0) (0, n2) F2 ∧
                 ∃ F3 : fx_F, Cl k_M_bringBack [(2, 175)] F2 (2, 0) F3 ∧
                  v = (0, n2) ∧ F' = F3))))))) := by
  have t := q_ok cv_276 ap_276 (hd := []) h rfl rfl
  exact t
-- TurnNetModel.layPairs()V
theorem c_M_layPairs {F : fx_F} {v : fx_V} {F' : fx_F} (h : Cl k_M_layPairs [(2, 175)] F v F') : ∃ n, Rn n k_M_layPairs 0 [(2, 175), (3, 0), (3, 0)] [] F v F' := by
  obtain ⟨n, s, hs, h⟩ := h
  rw [sg_277] at hs
  cases hs
  exact ⟨n, h⟩
set_option maxRecDepth 40000 in
theorem q_M_layPairs_0 {n : Nat} {F : fx_F} {v : fx_V} {F' : fx_F} (h : Rn n k_M_layPairs 0 [(2, 175), (3, 0), (3, 0)] [] F v F') :
  ∃ F1 : fx_F, Cl k_M_layGoals [(2, 175)] F (2, 0) F1 ∧
  ∃ m, m < n ∧ Rn m k_M_layPairs 26 [(2, 175), (0, 0), (3, 0)] [] (fu (fu (fu (fu F1 175 40 0) 175 41 0) 175 42 0) 175 43 0) v F' := by
  have t := q_ok cv_277 ap_277 (hd := [(26, [1, 1, 0]), (42, [1, 1, 1])]) h rfl rfl
  exact t
set_option maxRecDepth 40000 in
theorem q_M_layPairs_26 {n : Nat} {l1 : Nat} {F : fx_F} {v : fx_V} {F' : fx_F} (h : Rn n k_M_layPairs 26 [(2, 175), (0, l1), (3, 0)] [] F v F') :
  (s_le (F 177 (F 175 9)) l1 →
   v = (2, 0) ∧ F' = F) ∧
  (s_lt l1 (F 177 (F 175 9)) →
   ∃ F1 : fx_F, Cl k_M_layFar [(2, 175), (0, l1), (0, 4294967295)] F (2, 0) F1 ∧
    ∃ m, m < n ∧ Rn m k_M_layPairs 42 [(2, 175), (0, l1), (0, 0)] [] F1 v F') := by
  have t := q_ok cv_277 ap_277 (hd := [(26, [1, 1, 0]), (42, [1, 1, 1])]) h rfl rfl
  exact t
set_option maxRecDepth 40000 in
theorem q_M_layPairs_42 {n : Nat} {l1 l2 : Nat} {F : fx_F} {v : fx_V} {F' : fx_F} (h : Rn n k_M_layPairs 42 [(2, 175), (0, l1), (0, l2)] [] F v F') :
  (s_le (F 177 (F 175 9)) l2 →
   ∃ m, m < n ∧ Rn m k_M_layPairs 26 [(2, 175), (0, i_add l1 1), (3, 0)] [] F v F') ∧
  (s_lt l2 (F 177 (F 175 9)) →
   (l2 = l1 →
     ∃ m, m < n ∧ Rn m k_M_layPairs 42 [(2, 175), (0, l1), (0, i_add l2 1)] [] F v F') ∧
    (l2 ≠ l1 →
     (s_le 100000 (F 193 (i_add (i_add (i_mul 20 l2) (i_mul 2 l1)) 0)) →
       ((F 188 l2) ≠ 10 →
         ∃ m, m < n ∧ Rn m k_M_layPairs 42 [(2, 175), (0, l1), (0, i_add l2 1)] [] (fu (fu F 175 40 (i_add (F 175 40) 1)) 175 43 (i_add (F 175 43) 0)) v F') ∧
        ((F 188 l2) = 10 →
         ∃ m, m < n ∧ Rn m k_M_layPairs 42 [(2, 175), (0, l1), (0, i_add l2 1)] [] (fu (fu F 175 40 (i_add (F 175 40) 1)) 175 43 (i_add (F 175 43) 1)) v F')) ∧
      (s_lt (F 193 (i_add (i_add (i_mul 20 l2) (i_mul 2 l1)) 0)) 100000 →
       ∃ m, m < n ∧ Rn m k_M_layPairs 42 [(2, 175), (0, l1), (0, i_add l2 1)] [] (fu (fu F 175 41 (i_add (F 175 41) (F 193 (i_add (i_add (i_mul 20 l2) (i_mul 2 l1)) 0)))) 175 42 (i_add (F 175 42) (i_sub (F 193 (i_add (i_add (i_mul 20 l2) (i_mul 2 l1)) 0)) (F 188 l2)))) v F'))) := by
  have t := q_ok cv_277 ap_277 (hd := [(26, [1, 1, 0]), (42, [1, 1, 1])]) h rfl rfl
  exact t
-- TurnNetModel.layTable()V
theorem c_M_layTable {F : fx_F} {v : fx_V} {F' : fx_F} (h : Cl k_M_layTable [(2, 175)] F v F') : ∃ n, Rn n k_M_layTable 0 [(2, 175), (3, 0), (3, 0), (3, 0), (3, 0)] [] F v F' := by
  obtain ⟨n, s, hs, h⟩ := h
  rw [sg_278] at hs
  cases hs
  exact ⟨n, h⟩
set_option maxRecDepth 40000 in
theorem q_M_layTable_0 {n : Nat} {F : fx_F} {v : fx_V} {F' : fx_F} (h : Rn n k_M_layTable 0 [(2, 175), (3, 0), (3, 0), (3, 0), (3, 0)] [] F v F') :
  ∃ F1 : fx_F, Cl k_M_layGoals [(2, 175)] F (2, 0) F1 ∧
  ∃ m, m < n ∧ Rn m k_M_layTable 6 [(2, 175), (0, 0), (3, 0), (3, 0), (3, 0)] [] F1 v F' := by
  have t := q_ok cv_278 ap_278 (hd := [(6, [1, 1, 0, 0, 0]), (27, [1, 1, 0, 0, 0]), (37, [1, 1, 1, 0, 0]), (47, [1, 1, 1, 1, 0])]) h rfl rfl
  exact t
set_option maxRecDepth 40000 in
theorem q_M_layTable_6 {n : Nat} {l1 : Nat} {F : fx_F} {v : fx_V} {F' : fx_F} (h : Rn n k_M_layTable 6 [(2, 175), (0, l1), (3, 0), (3, 0), (3, 0)] [] F v F') :
  (s_le 40 l1 →
   ∃ m, m < n ∧ Rn m k_M_layTable 27 [(2, 175), (0, 0), (3, 0), (3, 0), (3, 0)] [] F v F') ∧
  (s_lt l1 40 →
   ∃ m, m < n ∧ Rn m k_M_layTable 6 [(2, 175), (0, i_add l1 1), (3, 0), (3, 0), (3, 0)] [] (fu F 197 l1 0) v F') := by
  have t := q_ok cv_278 ap_278 (hd := [(6, [1, 1, 0, 0, 0]), (27, [1, 1, 0, 0, 0]), (37, [1, 1, 1, 0, 0]), (47, [1, 1, 1, 1, 0])]) h rfl rfl
  exact t
set_option maxRecDepth 40000 in
theorem q_M_layTable_27 {n : Nat} {l1 : Nat} {F : fx_F} {v : fx_V} {F' : fx_F} (h : Rn n k_M_layTable 27 [(2, 175), (0, l1), (3, 0), (3, 0), (3, 0)] [] F v F') :
  (s_le (F 177 (F 175 9)) l1 →
   v = (2, 0) ∧ F' = F) ∧
  (s_lt l1 (F 177 (F 175 9)) →
   ∃ m, m < n ∧ Rn m k_M_layTable 37 [(2, 175), (0, l1), (0, 0), (3, 0), (3, 0)] [] F v F') := by
  have t := q_ok cv_278 ap_278 (hd := [(6, [1, 1, 0, 0, 0]), (27, [1, 1, 0, 0, 0]), (37, [1, 1, 1, 0, 0]), (47, [1, 1, 1, 1, 0])]) h rfl rfl
  exact t
set_option maxRecDepth 40000 in
theorem q_M_layTable_37 {n : Nat} {l1 l2 : Nat} {F : fx_F} {v : fx_V} {F' : fx_F} (h : Rn n k_M_layTable 37 [(2, 175), (0, l1), (0, l2), (3, 0), (3, 0)] [] F v F') :
  (s_le (F 177 (F 175 9)) l2 →
   ∃ m, m < n ∧ Rn m k_M_layTable 27 [(2, 175), (0, i_add l1 1), (3, 0), (3, 0), (3, 0)] [] F v F') ∧
  (s_lt l2 (F 177 (F 175 9)) →
   ∃ m, m < n ∧ Rn m k_M_layTable 47 [(2, 175), (0, l1), (0, l2), (0, 0), (3, 0)] [] F v F') := by
  have t := q_ok cv_278 ap_278 (hd := [(6, [1, 1, 0, 0, 0]), (27, [1, 1, 0, 0, 0]), (37, [1, 1, 1, 0, 0]), (47, [1, 1, 1, 1, 0])]) h rfl rfl
  exact t
set_option maxRecDepth 40000 in
theorem q_M_layTable_47 {n : Nat} {l1 l2 l3 : Nat} {F : fx_F} {v : fx_V} {F' : fx_F} (h : Rn n k_M_layTable 47 [(2, 175), (0, l1), (0, l2), (0, l3), (3, 0)] [] F v F') :
  (s_le 2 l3 →
   ∃ m, m < n ∧ Rn m k_M_layTable 37 [(2, 175), (0, l1), (0, i_add l2 1), (3, 0), (3, 0)] [] F v F') ∧
  (s_lt l3 2 →
   (l2 ≠ l1 →
     ∃ (n1 : Nat) (F1 : fx_F), Cl k_M_leastUsed [(2, 175), (0, l1), (0, l2), (0, l3)] F (0, n1) F1 ∧
      (s_lt n1 0 →
        ∃ m, m < n ∧ Rn m k_M_layTable 47 [(2, 175), (0, l1), (0, l2), (0, i_add l3 1), (3, 0)] [] (fu F1 196 (i_add (i_add (i_mul 20 l1) (i_mul 2 l2)) l3) n1) v F') ∧
       (s_le 0 n1 →
        ∃ m, m < n ∧ Rn m k_M_layTable 47 [(2, 175), (0, l1), (0, l2), (0, i_add l3 1), (3, 0)] [] (fu (fu F1 196 (i_add (i_add (i_mul 20 l1) (i_mul 2 l2)) l3) n1) 197 n1 (i_add (F1 197 n1) 1)) v F')) ∧
    (l2 = l1 →
     (s_lt 4294967295 0 →
       ∃ m, m < n ∧ Rn m k_M_layTable 47 [(2, 175), (0, l1), (0, l2), (0, i_add l3 1), (3, 0)] [] (fu F 196 (i_add (i_add (i_mul 20 l1) (i_mul 2 l2)) l3) 4294967295) v F') ∧
      (s_le 0 4294967295 →
       ∃ m, m < n ∧ Rn m k_M_layTable 47 [(2, 175), (0, l1), (0, l2), (0, i_add l3 1), (3, 0)] [] (fu (fu F 196 (i_add (i_add (i_mul 20 l1) (i_mul 2 l2)) l3) 4294967295) 197 4294967295 (i_add (F 197 4294967295) 1)) v F'))) := by
  have t := q_ok cv_278 ap_278 (hd := [(6, [1, 1, 0, 0, 0]), (27, [1, 1, 0, 0, 0]), (37, [1, 1, 1, 0, 0]), (47, [1, 1, 1, 1, 0])]) h rfl rfl
  exact t
-- TurnNetModel.takePhase(I)I
theorem c_M_takePhase {a1 : Nat} {F : fx_F} {v : fx_V} {F' : fx_F} (h : Cl k_M_takePhase [(2, 175), (0, a1)] F v F') : ∃ n, Rn n k_M_takePhase 0 [(2, 175), (0, a1), (3, 0), (3, 0)] [] F v F' := by
  obtain ⟨n, s, hs, h⟩ := h
  rw [sg_279] at hs
  cases hs
  exact ⟨n, h⟩
set_option maxRecDepth 40000 in
theorem q_M_takePhase_0 {n : Nat} {a1 : Nat} {F : fx_F} {v : fx_V} {F' : fx_F} (h : Rn n k_M_takePhase 0 [(2, 175), (0, a1), (3, 0), (3, 0)] [] F v F') :
  ∃ m, m < n ∧ Rn m k_M_takePhase 2 [(2, 175), (0, a1), (0, 0), (3, 0)] [] F v F' := by
  have t := q_ok cv_279 ap_279 (hd := [(2, [1, 1, 1, 0]), (25, [1, 1, 1, 1])]) h rfl rfl
  exact t
set_option maxRecDepth 40000 in
theorem q_M_takePhase_2 {n : Nat} {l1 l2 : Nat} {F : fx_F} {v : fx_V} {F' : fx_F} (h : Rn n k_M_takePhase 2 [(2, 175), (0, l1), (0, l2), (3, 0)] [] F v F') :
  (s_le 20 l2 →
   ∃ m, m < n ∧ Rn m k_M_takePhase 25 [(2, 175), (0, l1), (0, 0), (0, 0)] [] F v F') ∧
  (s_lt l2 20 →
   ∃ m, m < n ∧ Rn m k_M_takePhase 2 [(2, 175), (0, l1), (0, i_add l2 1), (3, 0)] [] (fu F 202 l2 0) v F') := by
  have t := q_ok cv_279 ap_279 (hd := [(2, [1, 1, 1, 0]), (25, [1, 1, 1, 1])]) h rfl rfl
  exact t
set_option maxRecDepth 40000 in
theorem q_M_takePhase_25 {n : Nat} {l1 l2 l3 : Nat} {F : fx_F} {v : fx_V} {F' : fx_F} (h : Rn n k_M_takePhase 25 [(2, 175), (0, l1), (0, l2), (0, l3)] [] F v F') :
  (s_le (F 178 (F 175 9)) l3 →
   v = (0, l2) ∧ F' = F) ∧
  (s_lt l3 (F 178 (F 175 9)) →
   ((F 190 l3) ≠ (F 176 (i_add 20 l3)) →
     ∃ (n1 : Nat) (F1 : fx_F), Cl k_M_isSafe [(2, 175)] (fu F 202 l3 1) (0, n1) F1 ∧
      (n1 = 0 →
        ∃ m, m < n ∧ Rn m k_M_takePhase 25 [(2, 175), (0, l1), (0, l2), (0, i_add l3 1)] [] (fu F1 202 l3 0) v F') ∧
       (n1 ≠ 0 →
        ∃ m, m < n ∧ Rn m k_M_takePhase 25 [(2, 175), (0, l1), (0, i_add l2 1), (0, i_add l3 1)] [] (fu F1 203 l3 l1) v F')) ∧
    ((F 190 l3) = (F 176 (i_add 20 l3)) →
     ∃ m, m < n ∧ Rn m k_M_takePhase 25 [(2, 175), (0, l1), (0, l2), (0, i_add l3 1)] [] F v F')) := by
  have t := q_ok cv_279 ap_279 (hd := [(2, [1, 1, 1, 0]), (25, [1, 1, 1, 1])]) h rfl rfl
  exact t
-- TurnNetModel.through(III)J
theorem c_M_through {a1 a2 a3 : Nat} {F : fx_F} {v : fx_V} {F' : fx_F} (h : Cl k_M_through [(2, 175), (0, a1), (0, a2), (0, a3)] F v F') : ∃ n, Rn n k_M_through 0 [(2, 175), (0, a1), (0, a2), (0, a3), (3, 0), (3, 0), (3, 0)] [] F v F' := by
  obtain ⟨n, s, hs, h⟩ := h
  rw [sg_280] at hs
  cases hs
  exact ⟨n, h⟩
set_option maxRecDepth 40000 in
theorem q_M_through_0 {n : Nat} {a1 a2 a3 : Nat} {F : fx_F} {v : fx_V} {F' : fx_F} (h : Rn n k_M_through 0 [(2, 175), (0, a1), (0, a2), (0, a3), (3, 0), (3, 0), (3, 0)] [] F v F') :
  (s_lt a1 0 →
   v = (1, 18446744073709551615) ∧ F' = F) ∧
  (s_le 0 a1 →
   (s_lt (i_sub (F 177 (F 175 9)) 1) a1 →
     v = (1, 18446744073709551615) ∧ F' = F) ∧
    (s_le a1 (i_sub (F 177 (F 175 9)) 1) →
     (s_lt a2 0 →
       v = (1, 18446744073709551615) ∧ F' = F) ∧
      (s_le 0 a2 →
       (s_lt (i_sub (F 177 (F 175 9)) 1) a2 →
         v = (1, 18446744073709551615) ∧ F' = F) ∧
        (s_le a2 (i_sub (F 177 (F 175 9)) 1) →
         (s_lt a3 0 →
           v = (1, 18446744073709551615) ∧ F' = F) ∧
          (s_le 0 a3 →
           (s_lt (i_sub (i_mul 2 (F 178 (F 175 9))) 1) a3 →
             v = (1, 18446744073709551615) ∧ F' = F) ∧
            (s_le a3 (i_sub (i_mul 2 (F 178 (F 175 9))) 1) →
             ∃ F1 : fx_F, Cl k_M_layOnward [(2, 175), (0, a2)] F (2, 0) F1 ∧
              (s_lt (F1 193 (i_add (i_add (i_mul 20 a2) (i_mul 2 a1)) 0)) 100000 →
                ∃ F2 : fx_F, Cl k_M_layCome [(2, 175), (0, a1), (0, a2)] F1 (2, 0) F2 ∧
                 ∃ m, m < n ∧ Rn m k_M_through 59 [(2, 175), (3, 0), (0, a2), (0, a3), (1, 0), (3, 0), (0, 0)] [] F2 v F') ∧
               (s_le 100000 (F1 193 (i_add (i_add (i_mul 20 a2) (i_mul 2 a1)) 0)) →
                v = (1, 0) ∧ F' = F1))))))) := by
  have t := q_ok cv_280 ap_280 (hd := [(59, [1, 0, 1, 1, 1, 0, 1])]) h rfl rfl
  exact t
set_option maxRecDepth 40000 in
theorem q_M_through_59 {n : Nat} {l2 l3 l4 l6 : Nat} {F : fx_F} {v : fx_V} {F' : fx_F} (h : Rn n k_M_through 59 [(2, 175), (3, 0), (0, l2), (0, l3), (1, l4), (3, 0), (0, l6)] [] F v F') :
  (s_le 2 l6 →
   v = (1, l4) ∧ F' = F) ∧
  (s_lt l6 2 →
   ∃ (n1 : Nat) (F1 : fx_F), Cl k_M_isNext [(2, 175), (0, l2), (0, l3), (0, l6)] F (0, n1) F1 ∧
    (n1 = 0 →
      ∃ m, m < n ∧ Rn m k_M_through 59 [(2, 175), (3, 0), (0, l2), (0, l3), (1, l4), (3, 0), (0, i_add l6 1)] [] F1 v F') ∧
     (n1 ≠ 0 →
      ((F1 183 (i_add (i_add (i_mul 40 (F1 175 9)) (i_mul 2 (i_div l3 2))) (i_rem l3 2))) ≠ l2 →
        ((F1 183 (i_add (i_add (i_mul 40 (F1 175 9)) (i_mul 2 (i_div l3 2))) (i_sub 1 (i_rem l3 2)))) ≠ (F1 176 (i_add 20 (i_div l3 2))) →
          (l6 = 1 →
            ∃ m, m < n ∧ Rn m k_M_through 59 [(2, 175), (3, 0), (0, l2), (0, l3), (1, rx_j_add l4 (rx_j_mul (F1 195 (i_add (i_mul 2 (F1 183 (i_add (i_add (i_mul 40 (F1 175 9)) (i_mul 2 (i_div l3 2))) (i_rem l3 2)))) l6)) (F1 194 (i_add (i_mul 2 (F1 183 (i_add (i_add (i_mul 40 (F1 175 9)) (i_mul 2 (i_div l3 2))) (i_sub 1 (i_rem l3 2))))) 1)))), (3, 0), (0, i_add l6 1)] [] F1 v F') ∧
           (l6 ≠ 1 →
            ∃ m, m < n ∧ Rn m k_M_through 59 [(2, 175), (3, 0), (0, l2), (0, l3), (1, rx_j_add l4 (rx_j_mul (F1 195 (i_add (i_mul 2 (F1 183 (i_add (i_add (i_mul 40 (F1 175 9)) (i_mul 2 (i_div l3 2))) (i_rem l3 2)))) l6)) (F1 194 (i_add (i_mul 2 (F1 183 (i_add (i_add (i_mul 40 (F1 175 9)) (i_mul 2 (i_div l3 2))) (i_sub 1 (i_rem l3 2))))) 1)))), (3, 0), (0, i_add l6 1)] [] F1 v F')) ∧
         ((F1 183 (i_add (i_add (i_mul 40 (F1 175 9)) (i_mul 2 (i_div l3 2))) (i_sub 1 (i_rem l3 2)))) = (F1 176 (i_add 20 (i_div l3 2))) →
          (l6 = 1 →
            ∃ m, m < n ∧ Rn m k_M_through 59 [(2, 175), (3, 0), (0, l2), (0, l3), (1, rx_j_add l4 (rx_j_mul (F1 195 (i_add (i_mul 2 (F1 183 (i_add (i_add (i_mul 40 (F1 175 9)) (i_mul 2 (i_div l3 2))) (i_rem l3 2)))) l6)) (F1 194 (i_add (i_mul 2 (F1 183 (i_add (i_add (i_mul 40 (F1 175 9)) (i_mul 2 (i_div l3 2))) (i_sub 1 (i_rem l3 2))))) 1)))), (3, 0), (0, i_add l6 1)] [] F1 v F') ∧
           (l6 ≠ 1 →
            ∃ m, m < n ∧ Rn m k_M_through 59 [(2, 175), (3, 0), (0, l2), (0, l3), (1, rx_j_add l4 (rx_j_mul (F1 195 (i_add (i_mul 2 (F1 183 (i_add (i_add (i_mul 40 (F1 175 9)) (i_mul 2 (i_div l3 2))) (i_rem l3 2)))) l6)) (F1 194 (i_add (i_mul 2 (F1 183 (i_add (i_add (i_mul 40 (F1 175 9)) (i_mul 2 (i_div l3 2))) (i_sub 1 (i_rem l3 2))))) 0)))), (3, 0), (0, i_add l6 1)] [] F1 v F'))) ∧
       ((F1 183 (i_add (i_add (i_mul 40 (F1 175 9)) (i_mul 2 (i_div l3 2))) (i_rem l3 2))) = l2 →
        ∃ m, m < n ∧ Rn m k_M_through 59 [(2, 175), (3, 0), (0, l2), (0, l3), (1, l4), (3, 0), (0, i_add l6 1)] [] F1 v F'))) := by
  have t := q_ok cv_280 ap_280 (hd := [(59, [1, 0, 1, 1, 1, 0, 1])]) h rfl rfl
  exact t
-- TurnNetModel.ways(II)J
theorem c_M_ways {a1 a2 : Nat} {F : fx_F} {v : fx_V} {F' : fx_F} (h : Cl k_M_ways [(2, 175), (0, a1), (0, a2)] F v F') : ∃ n, Rn n k_M_ways 0 [(2, 175), (0, a1), (0, a2)] [] F v F' := by
  obtain ⟨n, s, hs, h⟩ := h
  rw [sg_281] at hs
  cases hs
  exact ⟨n, h⟩
set_option maxRecDepth 40000 in
theorem q_M_ways_0 {n : Nat} {a1 a2 : Nat} {F : fx_F} {v : fx_V} {F' : fx_F} (h : Rn n k_M_ways 0 [(2, 175), (0, a1), (0, a2)] [] F v F') :
  (s_lt a1 0 →
   v = (1, 18446744073709551615) ∧ F' = F) ∧
  (s_le 0 a1 →
   (s_lt (i_sub (F 177 (F 175 9)) 1) a1 →
     v = (1, 18446744073709551615) ∧ F' = F) ∧
    (s_le a1 (i_sub (F 177 (F 175 9)) 1) →
     (s_lt a2 0 →
       v = (1, 18446744073709551615) ∧ F' = F) ∧
      (s_le 0 a2 →
       (s_lt (i_sub (F 177 (F 175 9)) 1) a2 →
         v = (1, 18446744073709551615) ∧ F' = F) ∧
        (s_le a2 (i_sub (F 177 (F 175 9)) 1) →
         ∃ F1 : fx_F, Cl k_M_layOnward [(2, 175), (0, a2)] F (2, 0) F1 ∧
          v = (1, F1 194 (i_mul 2 a1)) ∧ F' = F1)))) := by
  have t := q_ok cv_281 ap_281 (hd := []) h rfl rfl
  exact t
-- TurnNet$Reader.readSwitches()Z
theorem c_Rd_readSwitches {F : fx_F} {v : fx_V} {F' : fx_F} (h : Cl k_Rd_readSwitches [(2, 10)] F v F') : ∃ n, Rn n k_Rd_readSwitches 0 [(2, 10)] [] F v F' := by
  obtain ⟨n, s, hs, h⟩ := h
  rw [sg_282] at hs
  cases hs
  exact ⟨n, h⟩
set_option maxRecDepth 40000 in
theorem q_Rd_readSwitches_0 {n : Nat} {F : fx_F} {v : fx_V} {F' : fx_F} (h : Rn n k_Rd_readSwitches 0 [(2, 10)] [] F v F') :
  ∃ (n1 : Nat) (F1 : fx_F), Cl k_Rd_isWord [(2, 10), (2, 1000)] F (0, n1) F1 ∧
  (n1 ≠ 0 →
    ∃ (n2 : Nat) (F2 : fx_F), Cl k_Rd_readNumber [(2, 10), (0, 2), (0, 10)] F1 (0, n2) F2 ∧
     (n2 ≠ 0 →
       ∃ (n3 : Nat) (F3 : fx_F), Cl k_Rd_closeLine [(2, 10)] (fu F2 12 0 (F2 10 8)) (0, n3) F3 ∧
        v = (0, n3) ∧ F' = F3) ∧
      (n2 = 0 →
       v = (0, 0) ∧ F' = F2)) ∧
   (n1 = 0 →
    ∃ (n2 : Nat) (F2 : fx_F), Cl k_Rd_fail [(2, 10), (0, 1)] F1 (0, n2) F2 ∧
     v = (0, n2) ∧ F' = F2) := by
  have t := q_ok cv_282 ap_282 (hd := []) h rfl rfl
  exact t
-- TurnNet$Reader.unitKind()I
theorem c_Rd_unitKind {F : fx_F} {v : fx_V} {F' : fx_F} (h : Cl k_Rd_unitKind [(2, 10)] F v F') : ∃ n, Rn n k_Rd_unitKind 0 [(2, 10)] [] F v F' := by
  obtain ⟨n, s, hs, h⟩ := h
  rw [sg_283] at hs
  cases hs
  exact ⟨n, h⟩
set_option maxRecDepth 40000 in
theorem q_Rd_unitKind_0 {n : Nat} {F : fx_F} {v : fx_V} {F' : fx_F} (h : Rn n k_Rd_unitKind 0 [(2, 10)] [] F v F') :
  ((F 10 7) ≠ 2 →
   ((F 10 7) ≠ 40 →
     ((F 10 7) ≠ 45 →
       ∃ (n1 : Nat) (F1 : fx_F), Cl k_Rd_isWord [(2, 10), (2, 1005)] F (0, n1) F1 ∧
        (n1 = 0 →
          ∃ (n2 : Nat) (F2 : fx_F), Cl k_Rd_isWord [(2, 10), (2, 1006)] F1 (0, n2) F2 ∧
           (n2 = 0 →
             ∃ (n3 : Nat) (F3 : fx_F), Cl k_Rd_isWord [(2, 10), (2, 1007)] F2 (0, n3) F3 ∧
              (n3 = 0 →
                v = (0, 0) ∧ F' = F3) ∧
               (n3 ≠ 0 →
                v = (0, 4) ∧ F' = F3)) ∧
            (n2 ≠ 0 →
             v = (0, 3) ∧ F' = F2)) ∧
         (n1 ≠ 0 →
          v = (0, 2) ∧ F' = F1)) ∧
      ((F 10 7) = 45 →
       v = (0, 5) ∧ F' = F)) ∧
    ((F 10 7) = 40 →
     v = (0, 40) ∧ F' = F)) ∧
  ((F 10 7) = 2 →
   v = (0, 1) ∧ F' = F) := by
  have t := q_ok cv_283 ap_283 (hd := []) h rfl rfl
  exact t
-- TurnNetModel.entry(III)I
theorem c_M_entry {a1 a2 a3 : Nat} {F : fx_F} {v : fx_V} {F' : fx_F} (h : Cl k_M_entry [(2, 175), (0, a1), (0, a2), (0, a3)] F v F') : ∃ n, Rn n k_M_entry 0 [(2, 175), (0, a1), (0, a2), (0, a3)] [] F v F' := by
  obtain ⟨n, s, hs, h⟩ := h
  rw [sg_284] at hs
  cases hs
  exact ⟨n, h⟩
set_option maxRecDepth 40000 in
theorem q_M_entry_0 {n : Nat} {a1 a2 a3 : Nat} {F : fx_F} {v : fx_V} {F' : fx_F} (h : Rn n k_M_entry 0 [(2, 175), (0, a1), (0, a2), (0, a3)] [] F v F') :
  (s_lt a1 0 →
   v = (0, 4294967295) ∧ F' = F) ∧
  (s_le 0 a1 →
   (s_lt (i_sub (F 177 (F 175 9)) 1) a1 →
     v = (0, 4294967295) ∧ F' = F) ∧
    (s_le a1 (i_sub (F 177 (F 175 9)) 1) →
     (s_lt a2 0 →
       v = (0, 4294967295) ∧ F' = F) ∧
      (s_le 0 a2 →
       (s_lt (i_sub (F 177 (F 175 9)) 1) a2 →
         v = (0, 4294967295) ∧ F' = F) ∧
        (s_le a2 (i_sub (F 177 (F 175 9)) 1) →
         (s_lt a3 0 →
           v = (0, 4294967295) ∧ F' = F) ∧
          (s_le 0 a3 →
           (s_lt 1 a3 →
             v = (0, 4294967295) ∧ F' = F) ∧
            (s_le a3 1 →
             ∃ F1 : fx_F, Cl k_M_layTable [(2, 175)] F (2, 0) F1 ∧
              v = (0, F1 196 (i_add (i_add (i_mul 20 a1) (i_mul 2 a2)) a3)) ∧ F' = F1)))))) := by
  have t := q_ok cv_284 ap_284 (hd := []) h rfl rfl
  exact t
-- TurnNetModel.goStep()I
theorem c_M_goStep {F : fx_F} {v : fx_V} {F' : fx_F} (h : Cl k_M_goStep [(2, 175)] F v F') : ∃ n, Rn n k_M_goStep 0 [(2, 175), (3, 0), (3, 0)] [] F v F' := by
  obtain ⟨n, s, hs, h⟩ := h
  rw [sg_285] at hs
  cases hs
  exact ⟨n, h⟩
set_option maxRecDepth 40000 in
theorem q_M_goStep_0 {n : Nat} {F : fx_F} {v : fx_V} {F' : fx_F} (h : Rn n k_M_goStep 0 [(2, 175), (3, 0), (3, 0)] [] F v F') :
  ∃ F1 : fx_F, Cl k_M_layTable [(2, 175)] F (2, 0) F1 ∧
  ∃ m, m < n ∧ Rn m k_M_goStep 19 [(2, 175), (0, 0), (0, 0)] [] (fu F1 176 102 (i_add (F1 176 102) 1)) v F' := by
  have t := q_ok cv_285 ap_285 (hd := [(19, [1, 1, 1])]) h rfl rfl
  exact t
set_option maxRecDepth 40000 in
theorem q_M_goStep_19 {n : Nat} {l1 l2 : Nat} {F : fx_F} {v : fx_V} {F' : fx_F} (h : Rn n k_M_goStep 19 [(2, 175), (0, l1), (0, l2)] [] F v F') :
  (s_le 12 l2 →
   v = (0, l1) ∧ F' = F) ∧
  (s_lt l2 12 →
   ((F 176 (i_add 41 l2)) ≠ 0 →
     ∃ (n1 : Nat) (F1 : fx_F), Cl k_M_goPacket [(2, 175), (0, l2)] F (0, n1) F1 ∧
      (n1 = 0 →
        ∃ m, m < n ∧ Rn m k_M_goStep 19 [(2, 175), (0, l1), (0, i_add l2 1)] [] (fu F1 176 (i_add 89 l2) (i_add (F1 176 (i_add 89 l2)) 1)) v F') ∧
       (n1 ≠ 0 →
        ∃ m, m < n ∧ Rn m k_M_goStep 19 [(2, 175), (0, i_add l1 1), (0, i_add l2 1)] [] F1 v F')) ∧
    ((F 176 (i_add 41 l2)) = 0 →
     ∃ m, m < n ∧ Rn m k_M_goStep 19 [(2, 175), (0, l1), (0, i_add l2 1)] [] F v F')) := by
  have t := q_ok cv_285 ap_285 (hd := [(19, [1, 1, 1])]) h rfl rfl
  exact t
-- TurnNetModel.layLoads()V
theorem c_M_layLoads {F : fx_F} {v : fx_V} {F' : fx_F} (h : Cl k_M_layLoads [(2, 175)] F v F') : ∃ n, Rn n k_M_layLoads 0 [(2, 175), (3, 0), (3, 0), (3, 0)] [] F v F' := by
  obtain ⟨n, s, hs, h⟩ := h
  rw [sg_286] at hs
  cases hs
  exact ⟨n, h⟩
set_option maxRecDepth 40000 in
theorem q_M_layLoads_0 {n : Nat} {F : fx_F} {v : fx_V} {F' : fx_F} (h : Rn n k_M_layLoads 0 [(2, 175), (3, 0), (3, 0), (3, 0)] [] F v F') :
  ∃ F1 : fx_F, Cl k_M_layTable [(2, 175)] F (2, 0) F1 ∧
  ∃ m, m < n ∧ Rn m k_M_layLoads 6 [(2, 175), (0, 0), (3, 0), (3, 0)] [] F1 v F' := by
  have t := q_ok cv_286 ap_286 (hd := [(6, [1, 1, 0, 0]), (27, [1, 1, 0, 0]), (37, [1, 1, 1, 0]), (47, [1, 1, 1, 1])]) h rfl rfl
  exact t
set_option maxRecDepth 40000 in
theorem q_M_layLoads_6 {n : Nat} {l1 : Nat} {F : fx_F} {v : fx_V} {F' : fx_F} (h : Rn n k_M_layLoads 6 [(2, 175), (0, l1), (3, 0), (3, 0)] [] F v F') :
  (s_le 40 l1 →
   ∃ m, m < n ∧ Rn m k_M_layLoads 27 [(2, 175), (0, 0), (3, 0), (3, 0)] [] F v F') ∧
  (s_lt l1 40 →
   ∃ m, m < n ∧ Rn m k_M_layLoads 6 [(2, 175), (0, i_add l1 1), (3, 0), (3, 0)] [] (fu F 198 l1 0) v F') := by
  have t := q_ok cv_286 ap_286 (hd := [(6, [1, 1, 0, 0]), (27, [1, 1, 0, 0]), (37, [1, 1, 1, 0]), (47, [1, 1, 1, 1])]) h rfl rfl
  exact t
set_option maxRecDepth 40000 in
theorem q_M_layLoads_27 {n : Nat} {l1 : Nat} {F : fx_F} {v : fx_V} {F' : fx_F} (h : Rn n k_M_layLoads 27 [(2, 175), (0, l1), (3, 0), (3, 0)] [] F v F') :
  (s_le (F 177 (F 175 9)) l1 →
   v = (2, 0) ∧ F' = F) ∧
  (s_lt l1 (F 177 (F 175 9)) →
   ∃ m, m < n ∧ Rn m k_M_layLoads 37 [(2, 175), (0, l1), (0, 0), (3, 0)] [] F v F') := by
  have t := q_ok cv_286 ap_286 (hd := [(6, [1, 1, 0, 0]), (27, [1, 1, 0, 0]), (37, [1, 1, 1, 0]), (47, [1, 1, 1, 1])]) h rfl rfl
  exact t
set_option maxRecDepth 40000 in
theorem q_M_layLoads_37 {n : Nat} {l1 l2 : Nat} {F : fx_F} {v : fx_V} {F' : fx_F} (h : Rn n k_M_layLoads 37 [(2, 175), (0, l1), (0, l2), (3, 0)] [] F v F') :
  (s_le (F 177 (F 175 9)) l2 →
   ∃ m, m < n ∧ Rn m k_M_layLoads 27 [(2, 175), (0, i_add l1 1), (3, 0), (3, 0)] [] F v F') ∧
  (s_lt l2 (F 177 (F 175 9)) →
   ∃ m, m < n ∧ Rn m k_M_layLoads 47 [(2, 175), (0, l1), (0, l2), (0, 0)] [] F v F') := by
  have t := q_ok cv_286 ap_286 (hd := [(6, [1, 1, 0, 0]), (27, [1, 1, 0, 0]), (37, [1, 1, 1, 0]), (47, [1, 1, 1, 1])]) h rfl rfl
  exact t
set_option maxRecDepth 40000 in
theorem q_M_layLoads_47 {n : Nat} {l1 l2 l3 : Nat} {F : fx_F} {v : fx_V} {F' : fx_F} (h : Rn n k_M_layLoads 47 [(2, 175), (0, l1), (0, l2), (0, l3)] [] F v F') :
  ∃ (n1 : Nat) (F1 : fx_F), Cl k_M_pathAt [(2, 175), (0, l1), (0, l2), (0, l3)] F (0, n1) F1 ∧
  (s_lt n1 0 →
    ∃ m, m < n ∧ Rn m k_M_layLoads 37 [(2, 175), (0, l1), (0, i_add l2 1), (3, 0)] [] F1 v F') ∧
   (s_le 0 n1 →
    ∃ (n2 : Nat) (F2 : fx_F), Cl k_M_pathAt [(2, 175), (0, l1), (0, l2), (0, l3)] F1 (0, n2) F2 ∧
     ∃ m, m < n ∧ Rn m k_M_layLoads 47 [(2, 175), (0, l1), (0, l2), (0, i_add l3 1)] [] (fu F2 198 n2 (i_add (F2 198 n2) 1)) v F') := by
  have t := q_ok cv_286 ap_286 (hd := [(6, [1, 1, 0, 0]), (27, [1, 1, 0, 0]), (37, [1, 1, 1, 0]), (47, [1, 1, 1, 1])]) h rfl rfl
  exact t
-- TurnNetModel.packet(II)I
theorem c_M_packet {a1 a2 : Nat} {F : fx_F} {v : fx_V} {F' : fx_F} (h : Cl k_M_packet [(2, 175), (0, a1), (0, a2)] F v F') : ∃ n, Rn n k_M_packet 0 [(2, 175), (0, a1), (0, a2)] [] F v F' := by
  obtain ⟨n, s, hs, h⟩ := h
  rw [sg_287] at hs
  cases hs
  exact ⟨n, h⟩
set_option maxRecDepth 40000 in
theorem q_M_packet_0 {n : Nat} {a1 a2 : Nat} {F : fx_F} {v : fx_V} {F' : fx_F} (h : Rn n k_M_packet 0 [(2, 175), (0, a1), (0, a2)] [] F v F') :
  (s_lt a1 0 →
   v = (0, 4294967294) ∧ F' = F) ∧
  (s_le 0 a1 →
   (s_lt 11 a1 →
     v = (0, 4294967294) ∧ F' = F) ∧
    (s_le a1 11 →
     ((F 176 (i_add 41 a1)) ≠ 1 →
       v = (0, 4294967294) ∧ F' = F) ∧
      ((F 176 (i_add 41 a1)) = 1 →
       ((a2 < 0 ∨ 5 ≤ a2) →
         v = (0, 4294967294) ∧ F' = F) ∧
        ((a2 = 0 →
         v = (0, F 176 (i_add 65 a1)) ∧ F' = F) ∧
        ((a2 = 1 →
         v = (0, F 176 (i_add 53 a1)) ∧ F' = F) ∧
        ((a2 = 2 →
         v = (0, F 176 (i_add 77 a1)) ∧ F' = F) ∧
        ((a2 = 3 →
         v = (0, F 176 (i_add 89 a1)) ∧ F' = F) ∧
        ((a2 = 4 →
         ∃ F1 : fx_F, Cl k_M_layTable [(2, 175)] F (2, 0) F1 ∧
          ((F1 176 (i_add 65 a1)) ≠ (F1 176 (i_add 53 a1)) →
            (s_lt (F1 176 (i_add 77 a1)) 0 →
              v = (0, F1 196 (i_add (i_add (i_mul 20 (F1 176 (i_add 53 a1))) (i_mul 2 (F1 176 (i_add 65 a1)))) 0)) ∧ F' = F1) ∧
             (s_le 0 (F1 176 (i_add 77 a1)) →
              ((F1 183 (i_add (i_add (i_mul 40 (F1 175 9)) (i_mul 2 (i_div (F1 176 (i_add 77 a1)) 2))) (i_sub 1 (i_rem (F1 176 (i_add 77 a1)) 2)))) ≠ (F1 176 (i_add 20 (i_div (F1 176 (i_add 77 a1)) 2))) →
                v = (0, F1 196 (i_add (i_add (i_mul 20 (F1 176 (i_add 53 a1))) (i_mul 2 (F1 176 (i_add 65 a1)))) 1)) ∧ F' = F1) ∧
               ((F1 183 (i_add (i_add (i_mul 40 (F1 175 9)) (i_mul 2 (i_div (F1 176 (i_add 77 a1)) 2))) (i_sub 1 (i_rem (F1 176 (i_add 77 a1)) 2)))) = (F1 176 (i_add 20 (i_div (F1 176 (i_add 77 a1)) 2))) →
                v = (0, F1 196 (i_add (i_add (i_mul 20 (F1 176 (i_add 53 a1))) (i_mul 2 (F1 176 (i_add 65 a1)))) 0)) ∧ F' = F1))) ∧
           ((F1 176 (i_add 65 a1)) = (F1 176 (i_add 53 a1)) →
            v = (0, 4294967295) ∧ F' = F1)) ∧ True)))))))) := by
  have t := q_ok cv_287 ap_287 (hd := []) h rfl rfl
  exact t
-- TurnNetModel.pairs(I)I
theorem c_M_pairs {a1 : Nat} {F : fx_F} {v : fx_V} {F' : fx_F} (h : Cl k_M_pairs [(2, 175), (0, a1)] F v F') : ∃ n, Rn n k_M_pairs 0 [(2, 175), (0, a1)] [] F v F' := by
  obtain ⟨n, s, hs, h⟩ := h
  rw [sg_288] at hs
  cases hs
  exact ⟨n, h⟩
set_option maxRecDepth 40000 in
theorem q_M_pairs_0 {n : Nat} {a1 : Nat} {F : fx_F} {v : fx_V} {F' : fx_F} (h : Rn n k_M_pairs 0 [(2, 175), (0, a1)] [] F v F') :
  ∃ F1 : fx_F, Cl k_M_layPairs [(2, 175)] F (2, 0) F1 ∧
  ((a1 < 0 ∨ 4 ≤ a1) →
    v = (0, 4294967295) ∧ F' = F1) ∧
   ((a1 = 0 →
    v = (0, F1 175 40) ∧ F' = F1) ∧
   ((a1 = 1 →
    v = (0, F1 175 41) ∧ F' = F1) ∧
   ((a1 = 2 →
    v = (0, F1 175 42) ∧ F' = F1) ∧
   ((a1 = 3 →
    v = (0, F1 175 43) ∧ F' = F1) ∧ True)))) := by
  have t := q_ok cv_288 ap_288 (hd := []) h rfl rfl
  exact t
-- TurnNetModel.path(III)I
theorem c_M_path {a1 a2 a3 : Nat} {F : fx_F} {v : fx_V} {F' : fx_F} (h : Cl k_M_path [(2, 175), (0, a1), (0, a2), (0, a3)] F v F') : ∃ n, Rn n k_M_path 0 [(2, 175), (0, a1), (0, a2), (0, a3)] [] F v F' := by
  obtain ⟨n, s, hs, h⟩ := h
  rw [sg_289] at hs
  cases hs
  exact ⟨n, h⟩
set_option maxRecDepth 40000 in
theorem q_M_path_0 {n : Nat} {a1 a2 a3 : Nat} {F : fx_F} {v : fx_V} {F' : fx_F} (h : Rn n k_M_path 0 [(2, 175), (0, a1), (0, a2), (0, a3)] [] F v F') :
  (s_lt a1 0 →
   v = (0, 4294967295) ∧ F' = F) ∧
  (s_le 0 a1 →
   (s_lt (i_sub (F 177 (F 175 9)) 1) a1 →
     v = (0, 4294967295) ∧ F' = F) ∧
    (s_le a1 (i_sub (F 177 (F 175 9)) 1) →
     (s_lt a2 0 →
       v = (0, 4294967295) ∧ F' = F) ∧
      (s_le 0 a2 →
       (s_lt (i_sub (F 177 (F 175 9)) 1) a2 →
         v = (0, 4294967295) ∧ F' = F) ∧
        (s_le a2 (i_sub (F 177 (F 175 9)) 1) →
         (s_le 0 a3 →
           ∃ F1 : fx_F, Cl k_M_layTable [(2, 175)] F (2, 0) F1 ∧
            ∃ (n2 : Nat) (F2 : fx_F), Cl k_M_pathAt [(2, 175), (0, a1), (0, a2), (0, a3)] F1 (0, n2) F2 ∧
             v = (0, n2) ∧ F' = F2) ∧
          (s_lt a3 0 →
           v = (0, 4294967295) ∧ F' = F))))) := by
  have t := q_ok cv_289 ap_289 (hd := []) h rfl rfl
  exact t
-- TurnNetModel.without(II)I
theorem c_M_without {a1 a2 : Nat} {F : fx_F} {v : fx_V} {F' : fx_F} (h : Cl k_M_without [(2, 175), (0, a1), (0, a2)] F v F') : ∃ n, Rn n k_M_without 0 [(2, 175), (0, a1), (0, a2), (3, 0)] [] F v F' := by
  obtain ⟨n, s, hs, h⟩ := h
  rw [sg_290] at hs
  cases hs
  exact ⟨n, h⟩
set_option maxRecDepth 40000 in
theorem q_M_without_0 {n : Nat} {a1 a2 : Nat} {F : fx_F} {v : fx_V} {F' : fx_F} (h : Rn n k_M_without 0 [(2, 175), (0, a1), (0, a2), (3, 0)] [] F v F') :
  (s_lt a1 0 →
   v = (0, 4294967295) ∧ F' = F) ∧
  (s_le 0 a1 →
   (s_lt (i_sub (F 178 (F 175 9)) 1) a1 →
     v = (0, 4294967295) ∧ F' = F) ∧
    (s_le a1 (i_sub (F 178 (F 175 9)) 1) →
     ((F 176 (i_add 0 a1)) ≠ 1 →
       v = (0, 4294967295) ∧ F' = F) ∧
      ((F 176 (i_add 0 a1)) = 1 →
       (s_lt a2 0 →
         v = (0, 4294967295) ∧ F' = F) ∧
        (s_le 0 a2 →
         (s_lt 2 a2 →
           v = (0, 4294967295) ∧ F' = F) ∧
          (s_le a2 2 →
           ∃ F1 : fx_F, Cl k_M_putAside [(2, 175)] F (2, 0) F1 ∧
            ∃ F2 : fx_F, Cl k_M_orientBy [(2, 175), (0, (fu F1 176 (i_add 0 a1) 0) 176 40)] (fu F1 176 (i_add 0 a1) 0) (2, 0) F2 ∧
             ∃ (n3 : Nat) (F3 : fx_F), Cl k_M_flips [(2, 175)] F2 (0, n3) F3 ∧
              (a2 ≠ 1 →
                ∃ F4 : fx_F, Cl k_M_layPairs [(2, 175)] F3 (2, 0) F4 ∧
                 ∃ F5 : fx_F, Cl k_M_bringBack [(2, 175)] F4 (2, 0) F5 ∧
                  (a2 ≠ 2 →
                    v = (0, F5 175 40) ∧ F' = F5) ∧
                   (a2 = 2 →
                    v = (0, n3) ∧ F' = F5)) ∧
               (a2 = 1 →
                ∃ F4 : fx_F, Cl k_M_takeOver [(2, 175)] F3 (2, 0) F4 ∧
                 ∃ F5 : fx_F, Cl k_M_layPairs [(2, 175)] F4 (2, 0) F5 ∧
                  ∃ F6 : fx_F, Cl k_M_bringBack [(2, 175)] F5 (2, 0) F6 ∧
                   (a2 ≠ 2 →
                     v = (0, F6 175 40) ∧ F' = F6) ∧
                    (a2 = 2 →
                     v = (0, n3) ∧ F' = F6))))))) := by
  have t := q_ok cv_290 ap_290 (hd := []) h rfl rfl
  exact t
-- TurnNet$Reader.readUnit(I)Z
theorem c_Rd_readUnit6 {a1 : Nat} {F : fx_F} {v : fx_V} {F' : fx_F} (h : Cl k_Rd_readUnit6 [(2, 10), (0, a1)] F v F') : ∃ n, Rn n k_Rd_readUnit6 0 [(2, 10), (0, a1), (3, 0), (3, 0)] [] F v F' := by
  obtain ⟨n, s, hs, h⟩ := h
  rw [sg_291] at hs
  cases hs
  exact ⟨n, h⟩
set_option maxRecDepth 40000 in
theorem q_Rd_readUnit6_0 {n : Nat} {a1 : Nat} {F : fx_F} {v : fx_V} {F' : fx_F} (h : Rn n k_Rd_readUnit6 0 [(2, 10), (0, a1), (3, 0), (3, 0)] [] F v F') :
  ∃ (n1 : Nat) (F1 : fx_F), Cl k_Rd_unitKind [(2, 10)] F (0, n1) F1 ∧
  (n1 ≠ 0 →
    (n1 ≠ 1 →
      (s_le 40 (F1 12 4) →
        ∃ (n2 : Nat) (F2 : fx_F), Cl k_Rd_fail [(2, 10), (0, 4)] F1 (0, n2) F2 ∧
         v = (0, n2) ∧ F' = F2) ∧
       (s_lt (F1 12 4) 40 →
        (s_le a1 5 →
          ∃ F2 : fx_F, Cl k_Rd_advance [(2, 10)] (fu F1 12 4 (i_add (F1 12 4) 1)) (2, 0) F2 ∧
           (n1 ≠ 40 →
             (n1 ≠ 5 →
               (s_le 80 (F2 12 5) →
                 v = (0, 1) ∧ F' = F2) ∧
                (s_lt (F2 12 5) 80 →
                 v = (0, 1) ∧ F' = (fu (fu (fu F2 17 (F2 12 5) n1) 18 (F2 12 5) (F1 10 8)) 12 5 (i_add (F2 12 5) 1)))) ∧
              (n1 = 5 →
               ∃ (n3 : Nat) (F3 : fx_F), Cl k_Rd_readUnit6 [(2, 10), (0, i_add a1 1)] F2 (0, n3) F3 ∧
                (n3 ≠ 0 →
                  (s_le 80 (F3 12 5) →
                    v = (0, 1) ∧ F' = F3) ∧
                   (s_lt (F3 12 5) 80 →
                    v = (0, 1) ∧ F' = (fu (fu (fu F3 17 (F3 12 5) n1) 18 (F3 12 5) (F1 10 8)) 12 5 (i_add (F3 12 5) 1)))) ∧
                 (n3 = 0 →
                  v = (0, 0) ∧ F' = F3))) ∧
            (n1 = 40 →
             ∃ (n3 : Nat) (F3 : fx_F), Cl k_Rd_readSum6 [(2, 10), (0, i_add a1 1)] F2 (0, n3) F3 ∧
              (n3 = 0 →
                v = (0, 0) ∧ F' = F3) ∧
               (n3 ≠ 0 →
                ∃ (n4 : Nat) (F4 : fx_F), Cl k_Rd_readSign [(2, 10), (0, 41)] F3 (0, n4) F4 ∧
                 (n4 = 0 →
                   v = (0, 0) ∧ F' = F4) ∧
                  (n4 ≠ 0 →
                   v = (0, 1) ∧ F' = F4)))) ∧
         (s_lt 5 a1 →
          ∃ (n2 : Nat) (F2 : fx_F), Cl k_Rd_fail [(2, 10), (0, 4)] F1 (0, n2) F2 ∧
           v = (0, n2) ∧ F' = F2))) ∧
     (n1 = 1 →
      (s_le (F1 10 8) 999 →
        (s_le 40 (F1 12 4) →
          ∃ (n2 : Nat) (F2 : fx_F), Cl k_Rd_fail [(2, 10), (0, 4)] F1 (0, n2) F2 ∧
           v = (0, n2) ∧ F' = F2) ∧
         (s_lt (F1 12 4) 40 →
          (s_le a1 5 →
            ∃ F2 : fx_F, Cl k_Rd_advance [(2, 10)] (fu F1 12 4 (i_add (F1 12 4) 1)) (2, 0) F2 ∧
             (n1 ≠ 40 →
               (n1 ≠ 5 →
                 (s_le 80 (F2 12 5) →
                   v = (0, 1) ∧ F' = F2) ∧
                  (s_lt (F2 12 5) 80 →
                   v = (0, 1) ∧ F' = (fu (fu (fu F2 17 (F2 12 5) n1) 18 (F2 12 5) (F1 10 8)) 12 5 (i_add (F2 12 5) 1)))) ∧
                (n1 = 5 →
                 ∃ (n3 : Nat) (F3 : fx_F), Cl k_Rd_readUnit6 [(2, 10), (0, i_add a1 1)] F2 (0, n3) F3 ∧
                  (n3 ≠ 0 →
                    (s_le 80 (F3 12 5) →
                      v = (0, 1) ∧ F' = F3) ∧
                     (s_lt (F3 12 5) 80 →
                      v = (0, 1) ∧ F' = (fu (fu (fu F3 17 (F3 12 5) n1) 18 (F3 12 5) (F1 10 8)) 12 5 (i_add (F3 12 5) 1)))) ∧
                   (n3 = 0 →
                    v = (0, 0) ∧ F' = F3))) ∧
              (n1 = 40 →
               ∃ (n3 : Nat) (F3 : fx_F), Cl k_Rd_readSum6 [(2, 10), (0, i_add a1 1)] F2 (0, n3) F3 ∧
                (n3 = 0 →
                  v = (0, 0) ∧ F' = F3) ∧
                 (n3 ≠ 0 →
                  ∃ (n4 : Nat) (F4 : fx_F), Cl k_Rd_readSign [(2, 10), (0, 41)] F3 (0, n4) F4 ∧
                   (n4 = 0 →
                     v = (0, 0) ∧ F' = F4) ∧
                    (n4 ≠ 0 →
                     v = (0, 1) ∧ F' = F4)))) ∧
           (s_lt 5 a1 →
            ∃ (n2 : Nat) (F2 : fx_F), Cl k_Rd_fail [(2, 10), (0, 4)] F1 (0, n2) F2 ∧
             v = (0, n2) ∧ F' = F2))) ∧
       (s_lt 999 (F1 10 8) →
        ∃ (n2 : Nat) (F2 : fx_F), Cl k_Rd_fail [(2, 10), (0, 2)] F1 (0, n2) F2 ∧
         v = (0, n2) ∧ F' = F2))) ∧
   (n1 = 0 →
    ∃ (n2 : Nat) (F2 : fx_F), Cl k_Rd_fail [(2, 10), (0, 1)] F1 (0, n2) F2 ∧
     v = (0, n2) ∧ F' = F2) := by
  have t := q_ok cv_291 ap_291 (hd := []) h rfl rfl
  exact t
-- TurnNetModel.dearest()I
theorem c_M_dearest {F : fx_F} {v : fx_V} {F' : fx_F} (h : Cl k_M_dearest [(2, 175)] F v F') : ∃ n, Rn n k_M_dearest 0 [(2, 175), (3, 0), (3, 0), (3, 0), (3, 0)] [] F v F' := by
  obtain ⟨n, s, hs, h⟩ := h
  rw [sg_292] at hs
  cases hs
  exact ⟨n, h⟩
set_option maxRecDepth 40000 in
theorem q_M_dearest_0 {n : Nat} {F : fx_F} {v : fx_V} {F' : fx_F} (h : Rn n k_M_dearest 0 [(2, 175), (3, 0), (3, 0), (3, 0), (3, 0)] [] F v F') :
  ∃ m, m < n ∧ Rn m k_M_dearest 6 [(2, 175), (0, 4294967295), (0, 4294967295), (0, 0), (3, 0)] [] F v F' := by
  have t := q_ok cv_292 ap_292 (hd := [(6, [1, 1, 1, 1, 0])]) h rfl rfl
  exact t
set_option maxRecDepth 40000 in
theorem q_M_dearest_6 {n : Nat} {l1 l2 l3 : Nat} {F : fx_F} {v : fx_V} {F' : fx_F} (h : Rn n k_M_dearest 6 [(2, 175), (0, l1), (0, l2), (0, l3), (3, 0)] [] F v F') :
  (s_le (F 178 (F 175 9)) l3 →
   v = (0, l1) ∧ F' = F) ∧
  (s_lt l3 (F 178 (F 175 9)) →
   ∃ (n1 : Nat) (F1 : fx_F), Cl k_M_without [(2, 175), (0, l3), (0, 0)] F (0, n1) F1 ∧
    (s_lt l2 n1 →
      ∃ m, m < n ∧ Rn m k_M_dearest 6 [(2, 175), (0, l3), (0, n1), (0, i_add l3 1), (3, 0)] [] F1 v F') ∧
     (s_le n1 l2 →
      ∃ m, m < n ∧ Rn m k_M_dearest 6 [(2, 175), (0, l1), (0, l2), (0, i_add l3 1), (3, 0)] [] F1 v F')) := by
  have t := q_ok cv_292 ap_292 (hd := [(6, [1, 1, 1, 1, 0])]) h rfl rfl
  exact t
-- TurnNetModel.drains()I
theorem c_M_drains {F : fx_F} {v : fx_V} {F' : fx_F} (h : Cl k_M_drains [(2, 175)] F v F') : ∃ n, Rn n k_M_drains 0 [(2, 175), (3, 0), (3, 0)] [] F v F' := by
  obtain ⟨n, s, hs, h⟩ := h
  rw [sg_293] at hs
  cases hs
  exact ⟨n, h⟩
set_option maxRecDepth 40000 in
theorem q_M_drains_0 {n : Nat} {F : fx_F} {v : fx_V} {F' : fx_F} (h : Rn n k_M_drains 0 [(2, 175), (3, 0), (3, 0)] [] F v F') :
  ∃ F1 : fx_F, Cl k_M_putAside [(2, 175)] F (2, 0) F1 ∧
  ∃ m, m < n ∧ Rn m k_M_drains 8 [(2, 175), (0, 0), (0, 0)] [] F1 v F' := by
  have t := q_ok cv_293 ap_293 (hd := [(8, [1, 1, 1])]) h rfl rfl
  exact t
set_option maxRecDepth 40000 in
theorem q_M_drains_8 {n : Nat} {l1 l2 : Nat} {F : fx_F} {v : fx_V} {F' : fx_F} (h : Rn n k_M_drains 8 [(2, 175), (0, l1), (0, l2)] [] F v F') :
  ∃ (n1 : Nat) (F1 : fx_F), Cl k_M_packetsNow [(2, 175)] F (0, n1) F1 ∧
  (s_le n1 0 →
    ∃ F2 : fx_F, Cl k_M_bringBack [(2, 175)] F1 (2, 0) F2 ∧
     (s_lt 200 l1 →
       v = (0, 4294967295) ∧ F' = F2) ∧
      (s_le l1 200 →
       (s_le 0 l2 →
         v = (0, l1) ∧ F' = F2) ∧
        (s_lt l2 0 →
         v = (0, 4294967295) ∧ F' = F2))) ∧
   (s_lt 0 n1 →
    (s_lt 200 l1 →
      ∃ F2 : fx_F, Cl k_M_bringBack [(2, 175)] F1 (2, 0) F2 ∧
       (s_lt 200 l1 →
         v = (0, 4294967295) ∧ F' = F2) ∧
        (s_le l1 200 →
         (s_le 0 l2 →
           v = (0, l1) ∧ F' = F2) ∧
          (s_lt l2 0 →
           v = (0, 4294967295) ∧ F' = F2))) ∧
     (s_le l1 200 →
      ∃ (n2 : Nat) (F2 : fx_F), Cl k_M_goStep [(2, 175)] F1 (0, n2) F2 ∧
       ∃ m, m < n ∧ Rn m k_M_drains 8 [(2, 175), (0, i_add l1 1), (0, i_add l2 n2)] [] F2 v F')) := by
  have t := q_ok cv_293 ap_293 (hd := [(8, [1, 1, 1])]) h rfl rfl
  exact t
-- TurnNetModel.gameOnce()V
theorem c_M_gameOnce {F : fx_F} {v : fx_V} {F' : fx_F} (h : Cl k_M_gameOnce [(2, 175)] F v F') : ∃ n, Rn n k_M_gameOnce 0 [(2, 175), (3, 0), (3, 0), (3, 0), (3, 0)] [] F v F' := by
  obtain ⟨n, s, hs, h⟩ := h
  rw [sg_294] at hs
  cases hs
  exact ⟨n, h⟩
set_option maxRecDepth 40000 in
theorem q_M_gameOnce_0 {n : Nat} {F : fx_F} {v : fx_V} {F' : fx_F} (h : Rn n k_M_gameOnce 0 [(2, 175), (3, 0), (3, 0), (3, 0), (3, 0)] [] F v F') :
  (s_lt (i_rem (i_rem (i_add (i_mul 137 (F 175 49)) 71) 10007) (F 177 (F 175 9))) 0 →
   ∃ (n1 : Nat) (F1 : fx_F), Cl k_M_packetsNow [(2, 175)] (fu (fu (fu F 175 49 (i_rem (i_add (i_mul 137 (F 175 49)) 71) 10007)) 175 49 (i_rem (i_add (i_mul 137 (i_rem (i_add (i_mul 137 (F 175 49)) 71) 10007)) 71) 10007)) 175 52 (i_add (F 175 52) 1)) (0, n1) F1 ∧
    ∃ (n2 : Nat) (F2 : fx_F), Cl k_M_goStep [(2, 175)] F1 (0, n2) F2 ∧
     v = (2, 0) ∧ F' = (fu (fu F2 175 50 (i_add (F2 175 50) (i_sub n1 n2))) 175 51 (i_add (F2 175 51) n2))) ∧
  (s_le 0 (i_rem (i_rem (i_add (i_mul 137 (F 175 49)) 71) 10007) (F 177 (F 175 9))) →
   (s_lt (i_sub (F 177 (F 175 9)) 1) (i_rem (i_rem (i_add (i_mul 137 (F 175 49)) 71) 10007) (F 177 (F 175 9))) →
     ∃ (n1 : Nat) (F1 : fx_F), Cl k_M_packetsNow [(2, 175)] (fu (fu (fu F 175 49 (i_rem (i_add (i_mul 137 (F 175 49)) 71) 10007)) 175 49 (i_rem (i_add (i_mul 137 (i_rem (i_add (i_mul 137 (F 175 49)) 71) 10007)) 71) 10007)) 175 52 (i_add (F 175 52) 1)) (0, n1) F1 ∧
      ∃ (n2 : Nat) (F2 : fx_F), Cl k_M_goStep [(2, 175)] F1 (0, n2) F2 ∧
       v = (2, 0) ∧ F' = (fu (fu F2 175 50 (i_add (F2 175 50) (i_sub n1 n2))) 175 51 (i_add (F2 175 51) n2))) ∧
    (s_le (i_rem (i_rem (i_add (i_mul 137 (F 175 49)) 71) 10007) (F 177 (F 175 9))) (i_sub (F 177 (F 175 9)) 1) →
     (s_lt (i_rem (i_rem (i_add (i_mul 137 (i_rem (i_add (i_mul 137 (F 175 49)) 71) 10007)) 71) 10007) (F 177 (F 175 9))) 0 →
       ∃ (n1 : Nat) (F1 : fx_F), Cl k_M_packetsNow [(2, 175)] (fu (fu (fu F 175 49 (i_rem (i_add (i_mul 137 (F 175 49)) 71) 10007)) 175 49 (i_rem (i_add (i_mul 137 (i_rem (i_add (i_mul 137 (F 175 49)) 71) 10007)) 71) 10007)) 175 52 (i_add (F 175 52) 1)) (0, n1) F1 ∧
        ∃ (n2 : Nat) (F2 : fx_F), Cl k_M_goStep [(2, 175)] F1 (0, n2) F2 ∧
         v = (2, 0) ∧ F' = (fu (fu F2 175 50 (i_add (F2 175 50) (i_sub n1 n2))) 175 51 (i_add (F2 175 51) n2))) ∧
      (s_le 0 (i_rem (i_rem (i_add (i_mul 137 (i_rem (i_add (i_mul 137 (F 175 49)) 71) 10007)) 71) 10007) (F 177 (F 175 9))) →
       (s_lt (i_sub (F 177 (F 175 9)) 1) (i_rem (i_rem (i_add (i_mul 137 (i_rem (i_add (i_mul 137 (F 175 49)) 71) 10007)) 71) 10007) (F 177 (F 175 9))) →
         ∃ (n1 : Nat) (F1 : fx_F), Cl k_M_packetsNow [(2, 175)] (fu (fu (fu F 175 49 (i_rem (i_add (i_mul 137 (F 175 49)) 71) 10007)) 175 49 (i_rem (i_add (i_mul 137 (i_rem (i_add (i_mul 137 (F 175 49)) 71) 10007)) 71) 10007)) 175 52 (i_add (F 175 52) 1)) (0, n1) F1 ∧
          ∃ (n2 : Nat) (F2 : fx_F), Cl k_M_goStep [(2, 175)] F1 (0, n2) F2 ∧
           v = (2, 0) ∧ F' = (fu (fu F2 175 50 (i_add (F2 175 50) (i_sub n1 n2))) 175 51 (i_add (F2 175 51) n2))) ∧
        (s_le (i_rem (i_rem (i_add (i_mul 137 (i_rem (i_add (i_mul 137 (F 175 49)) 71) 10007)) 71) 10007) (F 177 (F 175 9))) (i_sub (F 177 (F 175 9)) 1) →
         ((i_rem (i_rem (i_add (i_mul 137 (F 175 49)) 71) 10007) (F 177 (F 175 9))) = (i_rem (i_rem (i_add (i_mul 137 (i_rem (i_add (i_mul 137 (F 175 49)) 71) 10007)) 71) 10007) (F 177 (F 175 9))) →
           ∃ (n1 : Nat) (F1 : fx_F), Cl k_M_packetsNow [(2, 175)] (fu (fu (fu F 175 49 (i_rem (i_add (i_mul 137 (F 175 49)) 71) 10007)) 175 49 (i_rem (i_add (i_mul 137 (i_rem (i_add (i_mul 137 (F 175 49)) 71) 10007)) 71) 10007)) 175 52 (i_add (F 175 52) 1)) (0, n1) F1 ∧
            ∃ (n2 : Nat) (F2 : fx_F), Cl k_M_goStep [(2, 175)] F1 (0, n2) F2 ∧
             v = (2, 0) ∧ F' = (fu (fu F2 175 50 (i_add (F2 175 50) (i_sub n1 n2))) 175 51 (i_add (F2 175 51) n2))) ∧
          ((i_rem (i_rem (i_add (i_mul 137 (F 175 49)) 71) 10007) (F 177 (F 175 9))) ≠ (i_rem (i_rem (i_add (i_mul 137 (i_rem (i_add (i_mul 137 (F 175 49)) 71) 10007)) 71) 10007) (F 177 (F 175 9))) →
           ∃ (n1 : Nat) (F1 : fx_F), Cl k_M_freePacket [(2, 175)] (fu (fu F 175 49 (i_rem (i_add (i_mul 137 (F 175 49)) 71) 10007)) 175 49 (i_rem (i_add (i_mul 137 (i_rem (i_add (i_mul 137 (F 175 49)) 71) 10007)) 71) 10007)) (0, n1) F1 ∧
            (s_lt n1 0 →
              ∃ (n2 : Nat) (F2 : fx_F), Cl k_M_packetsNow [(2, 175)] (fu F1 175 52 (i_add (F1 175 52) 1)) (0, n2) F2 ∧
               ∃ (n3 : Nat) (F3 : fx_F), Cl k_M_goStep [(2, 175)] F2 (0, n3) F3 ∧
                v = (2, 0) ∧ F' = (fu (fu F3 175 50 (i_add (F3 175 50) (i_sub n2 n3))) 175 51 (i_add (F3 175 51) n3))) ∧
             (s_le 0 n1 →
              ∃ (n2 : Nat) (F2 : fx_F), Cl k_M_freePacket [(2, 175)] F1 (0, n2) F2 ∧
               (s_lt n2 0 →
                 ∃ (n3 : Nat) (F3 : fx_F), Cl k_M_packetsNow [(2, 175)] (fu (fu (fu (fu (fu (fu F2 176 (i_add 41 n2) 1) 176 (i_add 53 n2) (i_rem (i_rem (i_add (i_mul 137 (i_rem (i_add (i_mul 137 (F 175 49)) 71) 10007)) 71) 10007) (F 177 (F 175 9)))) 176 (i_add 65 n2) (i_rem (i_rem (i_add (i_mul 137 (F 175 49)) 71) 10007) (F 177 (F 175 9)))) 176 (i_add 77 n2) 4294967295) 176 (i_add 89 n2) 0) 175 51 (i_add (F1 175 51) 1)) (0, n3) F3 ∧
                  ∃ (n4 : Nat) (F4 : fx_F), Cl k_M_goStep [(2, 175)] F3 (0, n4) F4 ∧
                   v = (2, 0) ∧ F' = (fu (fu F4 175 50 (i_add (F4 175 50) (i_sub n3 n4))) 175 51 (i_add (F4 175 51) n4))) ∧
                (s_le 0 n2 →
                 ∃ (n3 : Nat) (F3 : fx_F), Cl k_M_packetsNow [(2, 175)] (fu (fu (fu (fu (fu (fu F2 176 (i_add 41 n2) 1) 176 (i_add 53 n2) (i_rem (i_rem (i_add (i_mul 137 (i_rem (i_add (i_mul 137 (F 175 49)) 71) 10007)) 71) 10007) (F 177 (F 175 9)))) 176 (i_add 65 n2) (i_rem (i_rem (i_add (i_mul 137 (F 175 49)) 71) 10007) (F 177 (F 175 9)))) 176 (i_add 77 n2) 4294967295) 176 (i_add 89 n2) 0) 175 51 (i_add (F1 175 51) 0)) (0, n3) F3 ∧
                  ∃ (n4 : Nat) (F4 : fx_F), Cl k_M_goStep [(2, 175)] F3 (0, n4) F4 ∧
                   v = (2, 0) ∧ F' = (fu (fu F4 175 50 (i_add (F4 175 50) (i_sub n3 n4))) 175 51 (i_add (F4 175 51) n4))))))))) := by
  have t := q_ok cv_294 ap_294 (hd := []) h rfl rfl
  exact t
-- TurnNetModel.goSteps(I)I
theorem c_M_goSteps {a1 : Nat} {F : fx_F} {v : fx_V} {F' : fx_F} (h : Cl k_M_goSteps [(2, 175), (0, a1)] F v F') : ∃ n, Rn n k_M_goSteps 0 [(2, 175), (0, a1), (3, 0), (3, 0)] [] F v F' := by
  obtain ⟨n, s, hs, h⟩ := h
  rw [sg_295] at hs
  cases hs
  exact ⟨n, h⟩
set_option maxRecDepth 40000 in
theorem q_M_goSteps_0 {n : Nat} {a1 : Nat} {F : fx_F} {v : fx_V} {F' : fx_F} (h : Rn n k_M_goSteps 0 [(2, 175), (0, a1), (3, 0), (3, 0)] [] F v F') :
  ∃ m, m < n ∧ Rn m k_M_goSteps 4 [(2, 175), (0, a1), (0, 0), (0, 0)] [] F v F' := by
  have t := q_ok cv_295 ap_295 (hd := [(4, [1, 1, 1, 1])]) h rfl rfl
  exact t
set_option maxRecDepth 40000 in
theorem q_M_goSteps_4 {n : Nat} {l1 l2 l3 : Nat} {F : fx_F} {v : fx_V} {F' : fx_F} (h : Rn n k_M_goSteps 4 [(2, 175), (0, l1), (0, l2), (0, l3)] [] F v F') :
  (s_le l1 l3 →
   v = (0, l2) ∧ F' = F) ∧
  (s_lt l3 l1 →
   ∃ (n1 : Nat) (F1 : fx_F), Cl k_M_goStep [(2, 175)] F (0, n1) F1 ∧
    ∃ m, m < n ∧ Rn m k_M_goSteps 4 [(2, 175), (0, l1), (0, i_add l2 n1), (0, i_add l3 1)] [] F1 v F') := by
  have t := q_ok cv_295 ap_295 (hd := [(4, [1, 1, 1, 1])]) h rfl rfl
  exact t
-- TurnNetModel.heaviest(I)I
theorem c_M_heaviest {a1 : Nat} {F : fx_F} {v : fx_V} {F' : fx_F} (h : Cl k_M_heaviest [(2, 175), (0, a1)] F v F') : ∃ n, Rn n k_M_heaviest 0 [(2, 175), (0, a1)] [] F v F' := by
  obtain ⟨n, s, hs, h⟩ := h
  rw [sg_296] at hs
  cases hs
  exact ⟨n, h⟩
set_option maxRecDepth 40000 in
theorem q_M_heaviest_0 {n : Nat} {a1 : Nat} {F : fx_F} {v : fx_V} {F' : fx_F} (h : Rn n k_M_heaviest 0 [(2, 175), (0, a1)] [] F v F') :
  (s_lt a1 0 →
   v = (0, 4294967295) ∧ F' = F) ∧
  (s_le 0 a1 →
   (s_lt 1 a1 →
     v = (0, 4294967295) ∧ F' = F) ∧
    (s_le a1 1 →
     ((F 178 (F 175 9)) ≠ 0 →
       ∃ F1 : fx_F, Cl k_M_layLoads [(2, 175)] F (2, 0) F1 ∧
        (a1 ≠ 0 →
          ∃ (n2 : Nat) (F2 : fx_F), Cl k_M_heaviestNow [(2, 175)] F1 (0, n2) F2 ∧
           v = (0, F2 198 n2) ∧ F' = F2) ∧
         (a1 = 0 →
          ∃ (n2 : Nat) (F2 : fx_F), Cl k_M_heaviestNow [(2, 175)] F1 (0, n2) F2 ∧
           v = (0, n2) ∧ F' = F2)) ∧
      ((F 178 (F 175 9)) = 0 →
       v = (0, 4294967295) ∧ F' = F))) := by
  have t := q_ok cv_296 ap_296 (hd := []) h rfl rfl
  exact t
-- TurnNetModel.load(I)I
theorem c_M_load {a1 : Nat} {F : fx_F} {v : fx_V} {F' : fx_F} (h : Cl k_M_load [(2, 175), (0, a1)] F v F') : ∃ n, Rn n k_M_load 0 [(2, 175), (0, a1)] [] F v F' := by
  obtain ⟨n, s, hs, h⟩ := h
  rw [sg_297] at hs
  cases hs
  exact ⟨n, h⟩
set_option maxRecDepth 40000 in
theorem q_M_load_0 {n : Nat} {a1 : Nat} {F : fx_F} {v : fx_V} {F' : fx_F} (h : Rn n k_M_load 0 [(2, 175), (0, a1)] [] F v F') :
  (s_lt a1 0 →
   v = (0, 4294967295) ∧ F' = F) ∧
  (s_le 0 a1 →
   (s_lt (i_sub (i_mul 2 (F 178 (F 175 9))) 1) a1 →
     v = (0, 4294967295) ∧ F' = F) ∧
    (s_le a1 (i_sub (i_mul 2 (F 178 (F 175 9))) 1) →
     ∃ F1 : fx_F, Cl k_M_layLoads [(2, 175)] F (2, 0) F1 ∧
      v = (0, F1 198 a1) ∧ F' = F1)) := by
  have t := q_ok cv_297 ap_297 (hd := []) h rfl rfl
  exact t
-- TurnNetModel.rootedBy(II)I
theorem c_M_rootedBy {a1 a2 : Nat} {F : fx_F} {v : fx_V} {F' : fx_F} (h : Cl k_M_rootedBy [(2, 175), (0, a1), (0, a2)] F v F') : ∃ n, Rn n k_M_rootedBy 0 [(2, 175), (0, a1), (0, a2), (3, 0)] [] F v F' := by
  obtain ⟨n, s, hs, h⟩ := h
  rw [sg_298] at hs
  cases hs
  exact ⟨n, h⟩
set_option maxRecDepth 40000 in
theorem q_M_rootedBy_0 {n : Nat} {a1 a2 : Nat} {F : fx_F} {v : fx_V} {F' : fx_F} (h : Rn n k_M_rootedBy 0 [(2, 175), (0, a1), (0, a2), (3, 0)] [] F v F') :
  ∃ F1 : fx_F, Cl k_M_putAside [(2, 175)] F (2, 0) F1 ∧
  ∃ F2 : fx_F, Cl k_M_orientBy [(2, 175), (0, a1)] F1 (2, 0) F2 ∧
   ∃ F3 : fx_F, Cl k_M_takeOver [(2, 175)] F2 (2, 0) F3 ∧
    ∃ F4 : fx_F, Cl k_M_layPairs [(2, 175)] F3 (2, 0) F4 ∧
     (a2 ≠ 0 →
       (a2 ≠ 2 →
         ∃ F5 : fx_F, Cl k_M_bringBack [(2, 175)] F4 (2, 0) F5 ∧
          v = (0, F4 175 41) ∧ F' = F5) ∧
        (a2 = 2 →
         ∃ F5 : fx_F, Cl k_M_layLoads [(2, 175)] F4 (2, 0) F5 ∧
          ((F5 178 (F5 175 9)) ≠ 0 →
            ∃ (n6 : Nat) (F6 : fx_F), Cl k_M_heaviestNow [(2, 175)] F5 (0, n6) F6 ∧
             ∃ F7 : fx_F, Cl k_M_bringBack [(2, 175)] F6 (2, 0) F7 ∧
              v = (0, F6 198 n6) ∧ F' = F7) ∧
           ((F5 178 (F5 175 9)) = 0 →
            ∃ F6 : fx_F, Cl k_M_bringBack [(2, 175)] F5 (2, 0) F6 ∧
             v = (0, 0) ∧ F' = F6))) ∧
      (a2 = 0 →
       (a2 ≠ 2 →
         ∃ F5 : fx_F, Cl k_M_bringBack [(2, 175)] F4 (2, 0) F5 ∧
          v = (0, F4 175 40) ∧ F' = F5) ∧
        (a2 = 2 →
         ∃ F5 : fx_F, Cl k_M_layLoads [(2, 175)] F4 (2, 0) F5 ∧
          ((F5 178 (F5 175 9)) ≠ 0 →
            ∃ (n6 : Nat) (F6 : fx_F), Cl k_M_heaviestNow [(2, 175)] F5 (0, n6) F6 ∧
             ∃ F7 : fx_F, Cl k_M_bringBack [(2, 175)] F6 (2, 0) F7 ∧
              v = (0, F6 198 n6) ∧ F' = F7) ∧
           ((F5 178 (F5 175 9)) = 0 →
            ∃ F6 : fx_F, Cl k_M_bringBack [(2, 175)] F5 (2, 0) F6 ∧
             v = (0, 0) ∧ F' = F6))) := by
  have t := q_ok cv_298 ap_298 (hd := []) h rfl rfl
  exact t
-- TurnNet$Reader.readProduct(I)Z
theorem c_Rd_readProduct6 {a1 : Nat} {F : fx_F} {v : fx_V} {F' : fx_F} (h : Cl k_Rd_readProduct6 [(2, 10), (0, a1)] F v F') : ∃ n, Rn n k_Rd_readProduct6 0 [(2, 10), (0, a1), (3, 0), (3, 0)] [] F v F' := by
  obtain ⟨n, s, hs, h⟩ := h
  rw [sg_299] at hs
  cases hs
  exact ⟨n, h⟩
set_option maxRecDepth 40000 in
theorem q_Rd_readProduct6_0 {n : Nat} {a1 : Nat} {F : fx_F} {v : fx_V} {F' : fx_F} (h : Rn n k_Rd_readProduct6 0 [(2, 10), (0, a1), (3, 0), (3, 0)] [] F v F') :
  ∃ (n1 : Nat) (F1 : fx_F), Cl k_Rd_readUnit6 [(2, 10), (0, a1)] F (0, n1) F1 ∧
  (n1 ≠ 0 →
    ∃ m, m < n ∧ Rn m k_Rd_readProduct6 12 [(2, 10), (0, a1), (0, 0), (3, 0)] [] F1 v F') ∧
   (n1 = 0 →
    v = (0, 0) ∧ F' = F1) := by
  have t := q_ok cv_299 ap_299 (hd := [(12, [1, 1, 1, 0])]) h rfl rfl
  exact t
set_option maxRecDepth 40000 in
theorem q_Rd_readProduct6_12 {n : Nat} {l1 l2 : Nat} {F : fx_F} {v : fx_V} {F' : fx_F} (h : Rn n k_Rd_readProduct6 12 [(2, 10), (0, l1), (0, l2), (3, 0)] [] F v F') :
  (s_le 800 l2 →
   v = (0, 1) ∧ F' = F) ∧
  (s_lt l2 800 →
   ((F 10 7) = 42 →
     ∃ F1 : fx_F, Cl k_Rd_advance [(2, 10)] F (2, 0) F1 ∧
      ∃ (n2 : Nat) (F2 : fx_F), Cl k_Rd_readUnit6 [(2, 10), (0, l1)] F1 (0, n2) F2 ∧
       (n2 ≠ 0 →
         (s_le 80 (F2 12 5) →
           ∃ m, m < n ∧ Rn m k_Rd_readProduct6 12 [(2, 10), (0, l1), (0, i_add l2 1), (3, 0)] [] F2 v F') ∧
          (s_lt (F2 12 5) 80 →
           ∃ m, m < n ∧ Rn m k_Rd_readProduct6 12 [(2, 10), (0, l1), (0, i_add l2 1), (3, 0)] [] (fu (fu (fu F2 17 (F2 12 5) (F 10 7)) 18 (F2 12 5) 0) 12 5 (i_add (F2 12 5) 1)) v F')) ∧
        (n2 = 0 →
         v = (0, 0) ∧ F' = F2)) ∧
    ((F 10 7) ≠ 42 →
     ((F 10 7) = 47 →
       ∃ F1 : fx_F, Cl k_Rd_advance [(2, 10)] F (2, 0) F1 ∧
        ∃ (n2 : Nat) (F2 : fx_F), Cl k_Rd_readUnit6 [(2, 10), (0, l1)] F1 (0, n2) F2 ∧
         (n2 ≠ 0 →
           (s_le 80 (F2 12 5) →
             ∃ m, m < n ∧ Rn m k_Rd_readProduct6 12 [(2, 10), (0, l1), (0, i_add l2 1), (3, 0)] [] F2 v F') ∧
            (s_lt (F2 12 5) 80 →
             ∃ m, m < n ∧ Rn m k_Rd_readProduct6 12 [(2, 10), (0, l1), (0, i_add l2 1), (3, 0)] [] (fu (fu (fu F2 17 (F2 12 5) (F 10 7)) 18 (F2 12 5) 0) 12 5 (i_add (F2 12 5) 1)) v F')) ∧
          (n2 = 0 →
           v = (0, 0) ∧ F' = F2)) ∧
      ((F 10 7) ≠ 47 →
       ((F 10 7) ≠ 37 →
         v = (0, 1) ∧ F' = F) ∧
        ((F 10 7) = 37 →
         ∃ F1 : fx_F, Cl k_Rd_advance [(2, 10)] F (2, 0) F1 ∧
          ∃ (n2 : Nat) (F2 : fx_F), Cl k_Rd_readUnit6 [(2, 10), (0, l1)] F1 (0, n2) F2 ∧
           (n2 ≠ 0 →
             (s_le 80 (F2 12 5) →
               ∃ m, m < n ∧ Rn m k_Rd_readProduct6 12 [(2, 10), (0, l1), (0, i_add l2 1), (3, 0)] [] F2 v F') ∧
              (s_lt (F2 12 5) 80 →
               ∃ m, m < n ∧ Rn m k_Rd_readProduct6 12 [(2, 10), (0, l1), (0, i_add l2 1), (3, 0)] [] (fu (fu (fu F2 17 (F2 12 5) (F 10 7)) 18 (F2 12 5) 0) 12 5 (i_add (F2 12 5) 1)) v F')) ∧
            (n2 = 0 →
             v = (0, 0) ∧ F' = F2))))) := by
  have t := q_ok cv_299 ap_299 (hd := [(12, [1, 1, 1, 0])]) h rfl rfl
  exact t
-- TurnNetModel.best(I)I
theorem c_M_best {a1 : Nat} {F : fx_F} {v : fx_V} {F' : fx_F} (h : Cl k_M_best [(2, 175), (0, a1)] F v F') : ∃ n, Rn n k_M_best 0 [(2, 175), (0, a1), (3, 0), (3, 0), (3, 0), (3, 0)] [] F v F' := by
  obtain ⟨n, s, hs, h⟩ := h
  rw [sg_300] at hs
  cases hs
  exact ⟨n, h⟩
set_option maxRecDepth 40000 in
theorem q_M_best_0 {n : Nat} {a1 : Nat} {F : fx_F} {v : fx_V} {F' : fx_F} (h : Rn n k_M_best 0 [(2, 175), (0, a1), (3, 0), (3, 0), (3, 0), (3, 0)] [] F v F') :
  (s_lt a1 0 →
   v = (0, 4294967295) ∧ F' = F) ∧
  (s_le 0 a1 →
   (s_lt 2 a1 →
     v = (0, 4294967295) ∧ F' = F) ∧
    (s_le a1 2 →
     ((F 177 (F 175 9)) ≠ 0 →
       ∃ (n1 : Nat) (F1 : fx_F), Cl k_M_rootedBy [(2, 175), (0, 0), (0, a1)] F (0, n1) F1 ∧
        ∃ m, m < n ∧ Rn m k_M_best 30 [(2, 175), (0, a1), (0, 0), (0, n1), (0, 1), (3, 0)] [] F1 v F') ∧
      ((F 177 (F 175 9)) = 0 →
       v = (0, 4294967295) ∧ F' = F))) := by
  have t := q_ok cv_300 ap_300 (hd := [(30, [1, 1, 1, 1, 1, 0])]) h rfl rfl
  exact t
set_option maxRecDepth 40000 in
theorem q_M_best_30 {n : Nat} {l1 l2 l3 l4 : Nat} {F : fx_F} {v : fx_V} {F' : fx_F} (h : Rn n k_M_best 30 [(2, 175), (0, l1), (0, l2), (0, l3), (0, l4), (3, 0)] [] F v F') :
  (s_le (F 177 (F 175 9)) l4 →
   v = (0, l2) ∧ F' = F) ∧
  (s_lt l4 (F 177 (F 175 9)) →
   ∃ (n1 : Nat) (F1 : fx_F), Cl k_M_rootedBy [(2, 175), (0, l4), (0, l1)] F (0, n1) F1 ∧
    (s_lt n1 l3 →
      ∃ m, m < n ∧ Rn m k_M_best 30 [(2, 175), (0, l1), (0, l4), (0, n1), (0, i_add l4 1), (3, 0)] [] F1 v F') ∧
     (s_le l3 n1 →
      ∃ m, m < n ∧ Rn m k_M_best 30 [(2, 175), (0, l1), (0, l2), (0, l3), (0, i_add l4 1), (3, 0)] [] F1 v F')) := by
  have t := q_ok cv_300 ap_300 (hd := [(30, [1, 1, 1, 1, 1, 0])]) h rfl rfl
  exact t
end
section
-- TurnNetModel.game(III)I
theorem c_M_game {a1 a2 a3 : Nat} {F : fx_F} {v : fx_V} {F' : fx_F} (h : Cl k_M_game [(2, 175), (0, a1), (0, a2), (0, a3)] F v F') : ∃ n, Rn n k_M_game 0 [(2, 175), (0, a1), (0, a2), (0, a3), (3, 0), (3, 0)] [] F v F' := by
  obtain ⟨n, s, hs, h⟩ := h
  rw [sg_301] at hs
  cases hs
  exact ⟨n, h⟩
set_option maxRecDepth 40000 in
theorem q_M_game_0 {n : Nat} {a1 a2 a3 : Nat} {F : fx_F} {v : fx_V} {F' : fx_F} (h : Rn n k_M_game 0 [(2, 175), (0, a1), (0, a2), (0, a3), (3, 0), (3, 0)] [] F v F') :
  ((F 177 (F 175 9)) = 0 →
   v = (0, 4294967295) ∧ F' = F) ∧
  ((F 177 (F 175 9)) ≠ 0 →
   (s_lt a1 0 →
     v = (0, 4294967295) ∧ F' = F) ∧
    (s_le 0 a1 →
     (s_lt 9999 a1 →
       v = (0, 4294967295) ∧ F' = F) ∧
      (s_le a1 9999 →
       (s_lt a2 1 →
         v = (0, 4294967295) ∧ F' = F) ∧
        (s_le 1 a2 →
         (s_lt 60 a2 →
           v = (0, 4294967295) ∧ F' = F) ∧
          (s_le a2 60 →
           (s_lt a3 0 →
             v = (0, 4294967295) ∧ F' = F) ∧
            (s_le 0 a3 →
             (s_lt 3 a3 →
               v = (0, 4294967295) ∧ F' = F) ∧
              (s_le a3 3 →
               ∃ F1 : fx_F, Cl k_M_putAside [(2, 175)] F (2, 0) F1 ∧
                ∃ m, m < n ∧ Rn m k_M_game 66 [(2, 175), (3, 0), (0, a2), (0, a3), (0, 0), (3, 0)] [] (fu (fu (fu (fu F1 175 49 a1) 175 50 0) 175 51 0) 175 52 0) v F'))))))) := by
  have t := q_ok cv_301 ap_301 (hd := [(66, [1, 0, 1, 1, 1, 0])]) h rfl rfl
  exact t
set_option maxRecDepth 40000 in
theorem q_M_game_66 {n : Nat} {l2 l3 l4 : Nat} {F : fx_F} {v : fx_V} {F' : fx_F} (h : Rn n k_M_game 66 [(2, 175), (3, 0), (0, l2), (0, l3), (0, l4), (3, 0)] [] F v F') :
  (s_le l2 l4 →
   ∃ (n1 : Nat) (F1 : fx_F), Cl k_M_packetsNow [(2, 175)] F (0, n1) F1 ∧
    ∃ F2 : fx_F, Cl k_M_bringBack [(2, 175)] F1 (2, 0) F2 ∧
     (l3 ≠ 0 →
       (l3 ≠ 1 →
         (l3 ≠ 2 →
           v = (0, F2 175 52) ∧ F' = F2) ∧
          (l3 = 2 →
           v = (0, F2 175 50) ∧ F' = F2)) ∧
        (l3 = 1 →
         v = (0, n1) ∧ F' = F2)) ∧
      (l3 = 0 →
       v = (0, i_sub (F 176 101) (F 199 101)) ∧ F' = F2)) ∧
  (s_lt l4 l2 →
   ∃ F1 : fx_F, Cl k_M_gameOnce [(2, 175)] F (2, 0) F1 ∧
    ∃ m, m < n ∧ Rn m k_M_game 66 [(2, 175), (3, 0), (0, l2), (0, l3), (0, i_add l4 1), (3, 0)] [] F1 v F') := by
  have t := q_ok cv_301 ap_301 (hd := [(66, [1, 0, 1, 1, 1, 0])]) h rfl rfl
  exact t
-- TurnNetModel.goPhases(II)I
theorem c_M_goPhases {a1 a2 : Nat} {F : fx_F} {v : fx_V} {F' : fx_F} (h : Cl k_M_goPhases [(2, 175), (0, a1), (0, a2)] F v F') : ∃ n, Rn n k_M_goPhases 0 [(2, 175), (0, a1), (0, a2), (3, 0)] [] F v F' := by
  obtain ⟨n, s, hs, h⟩ := h
  rw [sg_302] at hs
  cases hs
  exact ⟨n, h⟩
set_option maxRecDepth 40000 in
theorem q_M_goPhases_0 {n : Nat} {a1 a2 : Nat} {F : fx_F} {v : fx_V} {F' : fx_F} (h : Rn n k_M_goPhases 0 [(2, 175), (0, a1), (0, a2), (3, 0)] [] F v F') :
  ∃ F1 : fx_F, Cl k_M_orientBy [(2, 175), (0, a1)] F (2, 0) F1 ∧
  ∃ m, m < n ∧ Rn m k_M_goPhases 7 [(2, 175), (3, 0), (0, a2), (0, 0)] [] F1 v F' := by
  have t := q_ok cv_302 ap_302 (hd := [(7, [1, 0, 1, 1]), (28, [1, 0, 1, 1])]) h rfl rfl
  exact t
set_option maxRecDepth 40000 in
theorem q_M_goPhases_7 {n : Nat} {l2 l3 : Nat} {F : fx_F} {v : fx_V} {F' : fx_F} (h : Rn n k_M_goPhases 7 [(2, 175), (3, 0), (0, l2), (0, l3)] [] F v F') :
  (s_le 20 l3 →
   ∃ m, m < n ∧ Rn m k_M_goPhases 28 [(2, 175), (3, 0), (0, l2), (0, 0)] [] F v F') ∧
  (s_lt l3 20 →
   ∃ m, m < n ∧ Rn m k_M_goPhases 7 [(2, 175), (3, 0), (0, l2), (0, i_add l3 1)] [] (fu F 203 l3 4294967295) v F') := by
  have t := q_ok cv_302 ap_302 (hd := [(7, [1, 0, 1, 1]), (28, [1, 0, 1, 1])]) h rfl rfl
  exact t
set_option maxRecDepth 40000 in
theorem q_M_goPhases_28 {n : Nat} {l2 l3 : Nat} {F : fx_F} {v : fx_V} {F' : fx_F} (h : Rn n k_M_goPhases 28 [(2, 175), (3, 0), (0, l2), (0, l3)] [] F v F') :
  ∃ (n1 : Nat) (F1 : fx_F), Cl k_M_flips [(2, 175)] F (0, n1) F1 ∧
  (s_le n1 0 →
    v = (0, l3) ∧ F' = F1) ∧
   (s_lt 0 n1 →
    ∃ (n2 : Nat) (F2 : fx_F), Cl k_M_takePhase [(2, 175), (0, l3)] F1 (0, n2) F2 ∧
     (n2 ≠ 0 →
       ∃ F3 : fx_F, Cl k_M_turnTaken [(2, 175)] F2 (2, 0) F3 ∧
        ∃ (n4 : Nat) (F4 : fx_F), Cl k_M_goSteps [(2, 175), (0, l2)] F3 (0, n4) F4 ∧
         ∃ m, m < n ∧ Rn m k_M_goPhases 28 [(2, 175), (3, 0), (0, l2), (0, i_add l3 1)] [] F4 v F') ∧
      (n2 = 0 →
       v = (0, 4294967294) ∧ F' = F2)) := by
  have t := q_ok cv_302 ap_302 (hd := [(7, [1, 0, 1, 1]), (28, [1, 0, 1, 1])]) h rfl rfl
  exact t
-- TurnNetModel.rooted(II)I
theorem c_M_rooted {a1 a2 : Nat} {F : fx_F} {v : fx_V} {F' : fx_F} (h : Cl k_M_rooted [(2, 175), (0, a1), (0, a2)] F v F') : ∃ n, Rn n k_M_rooted 0 [(2, 175), (0, a1), (0, a2)] [] F v F' := by
  obtain ⟨n, s, hs, h⟩ := h
  rw [sg_303] at hs
  cases hs
  exact ⟨n, h⟩
set_option maxRecDepth 40000 in
theorem q_M_rooted_0 {n : Nat} {a1 a2 : Nat} {F : fx_F} {v : fx_V} {F' : fx_F} (h : Rn n k_M_rooted 0 [(2, 175), (0, a1), (0, a2)] [] F v F') :
  (s_lt a1 0 →
   v = (0, 4294967295) ∧ F' = F) ∧
  (s_le 0 a1 →
   (s_lt (i_sub (F 177 (F 175 9)) 1) a1 →
     v = (0, 4294967295) ∧ F' = F) ∧
    (s_le a1 (i_sub (F 177 (F 175 9)) 1) →
     (s_lt a2 0 →
       v = (0, 4294967295) ∧ F' = F) ∧
      (s_le 0 a2 →
       (s_lt 2 a2 →
         v = (0, 4294967295) ∧ F' = F) ∧
        (s_le a2 2 →
         ∃ (n1 : Nat) (F1 : fx_F), Cl k_M_rootedBy [(2, 175), (0, a1), (0, a2)] F (0, n1) F1 ∧
          v = (0, n1) ∧ F' = F1)))) := by
  have t := q_ok cv_303 ap_303 (hd := []) h rfl rfl
  exact t
-- TurnNetModel.steps(I)I
theorem c_M_steps {a1 : Nat} {F : fx_F} {v : fx_V} {F' : fx_F} (h : Cl k_M_steps [(2, 175), (0, a1)] F v F') : ∃ n, Rn n k_M_steps 0 [(2, 175), (0, a1)] [] F v F' := by
  obtain ⟨n, s, hs, h⟩ := h
  rw [sg_304] at hs
  cases hs
  exact ⟨n, h⟩
set_option maxRecDepth 40000 in
theorem q_M_steps_0 {n : Nat} {a1 : Nat} {F : fx_F} {v : fx_V} {F' : fx_F} (h : Rn n k_M_steps 0 [(2, 175), (0, a1)] [] F v F') :
  (s_lt a1 1 →
   v = (0, 4294967295) ∧ F' = F) ∧
  (s_le 1 a1 →
   (s_lt 50 a1 →
     v = (0, 4294967295) ∧ F' = F) ∧
    (s_le a1 50 →
     ((F 177 (F 175 9)) ≠ 0 →
       ∃ F1 : fx_F, Cl k_M_keepAct [(2, 175)] F (2, 0) F1 ∧
        ∃ (n2 : Nat) (F2 : fx_F), Cl k_M_goSteps [(2, 175), (0, a1)] F1 (0, n2) F2 ∧
         v = (0, n2) ∧ F' = F2) ∧
      ((F 177 (F 175 9)) = 0 →
       v = (0, 4294967295) ∧ F' = F))) := by
  have t := q_ok cv_304 ap_304 (hd := []) h rfl rfl
  exact t
-- TurnNetModel.stuck()I
theorem c_M_stuck {F : fx_F} {v : fx_V} {F' : fx_F} (h : Cl k_M_stuck [(2, 175)] F v F') : ∃ n, Rn n k_M_stuck 0 [(2, 175), (3, 0), (3, 0)] [] F v F' := by
  obtain ⟨n, s, hs, h⟩ := h
  rw [sg_305] at hs
  cases hs
  exact ⟨n, h⟩
set_option maxRecDepth 40000 in
theorem q_M_stuck_0 {n : Nat} {F : fx_F} {v : fx_V} {F' : fx_F} (h : Rn n k_M_stuck 0 [(2, 175), (3, 0), (3, 0)] [] F v F') :
  ∃ F1 : fx_F, Cl k_M_putAside [(2, 175)] F (2, 0) F1 ∧
  ∃ (n2 : Nat) (F2 : fx_F), Cl k_M_goSteps [(2, 175), (0, 200)] F1 (0, n2) F2 ∧
   (s_le 0 n2 →
     ∃ m, m < n ∧ Rn m k_M_stuck 22 [(2, 175), (0, 0), (0, 0)] [] F2 v F') ∧
    (s_lt n2 0 →
     ∃ m, m < n ∧ Rn m k_M_stuck 22 [(2, 175), (0, 4294967295), (0, 0)] [] F2 v F') := by
  have t := q_ok cv_305 ap_305 (hd := [(22, [1, 1, 1])]) h rfl rfl
  exact t
set_option maxRecDepth 40000 in
theorem q_M_stuck_22 {n : Nat} {l1 l2 : Nat} {F : fx_F} {v : fx_V} {F' : fx_F} (h : Rn n k_M_stuck 22 [(2, 175), (0, l1), (0, l2)] [] F v F') :
  (s_le 12 l2 →
   ∃ F1 : fx_F, Cl k_M_bringBack [(2, 175)] F (2, 0) F1 ∧
    v = (0, l1) ∧ F' = F1) ∧
  (s_lt l2 12 →
   ((F 176 (i_add 41 l2)) ≠ 1 →
     ∃ m, m < n ∧ Rn m k_M_stuck 22 [(2, 175), (0, l1), (0, i_add l2 1)] [] F v F') ∧
    ((F 176 (i_add 41 l2)) = 1 →
     ∃ m, m < n ∧ Rn m k_M_stuck 22 [(2, 175), (0, i_or l1 (i_shl 1 l2)), (0, i_add l2 1)] [] F v F')) := by
  have t := q_ok cv_305 ap_305 (hd := [(22, [1, 1, 1])]) h rfl rfl
  exact t
-- TurnNet$Reader.readSum(I)Z
theorem c_Rd_readSum6 {a1 : Nat} {F : fx_F} {v : fx_V} {F' : fx_F} (h : Cl k_Rd_readSum6 [(2, 10), (0, a1)] F v F') : ∃ n, Rn n k_Rd_readSum6 0 [(2, 10), (0, a1), (3, 0), (3, 0)] [] F v F' := by
  obtain ⟨n, s, hs, h⟩ := h
  rw [sg_306] at hs
  cases hs
  exact ⟨n, h⟩
set_option maxRecDepth 40000 in
theorem q_Rd_readSum6_0 {n : Nat} {a1 : Nat} {F : fx_F} {v : fx_V} {F' : fx_F} (h : Rn n k_Rd_readSum6 0 [(2, 10), (0, a1), (3, 0), (3, 0)] [] F v F') :
  ∃ (n1 : Nat) (F1 : fx_F), Cl k_Rd_readProduct6 [(2, 10), (0, a1)] F (0, n1) F1 ∧
  (n1 ≠ 0 →
    ∃ m, m < n ∧ Rn m k_Rd_readSum6 12 [(2, 10), (0, a1), (0, 0), (3, 0)] [] F1 v F') ∧
   (n1 = 0 →
    v = (0, 0) ∧ F' = F1) := by
  have t := q_ok cv_306 ap_306 (hd := [(12, [1, 1, 1, 0])]) h rfl rfl
  exact t
set_option maxRecDepth 40000 in
theorem q_Rd_readSum6_12 {n : Nat} {l1 l2 : Nat} {F : fx_F} {v : fx_V} {F' : fx_F} (h : Rn n k_Rd_readSum6 12 [(2, 10), (0, l1), (0, l2), (3, 0)] [] F v F') :
  (s_le 800 l2 →
   v = (0, 1) ∧ F' = F) ∧
  (s_lt l2 800 →
   ((F 10 7) = 43 →
     ∃ F1 : fx_F, Cl k_Rd_advance [(2, 10)] F (2, 0) F1 ∧
      ∃ (n2 : Nat) (F2 : fx_F), Cl k_Rd_readProduct6 [(2, 10), (0, l1)] F1 (0, n2) F2 ∧
       (n2 ≠ 0 →
         (s_le 80 (F2 12 5) →
           ∃ m, m < n ∧ Rn m k_Rd_readSum6 12 [(2, 10), (0, l1), (0, i_add l2 1), (3, 0)] [] F2 v F') ∧
          (s_lt (F2 12 5) 80 →
           ∃ m, m < n ∧ Rn m k_Rd_readSum6 12 [(2, 10), (0, l1), (0, i_add l2 1), (3, 0)] [] (fu (fu (fu F2 17 (F2 12 5) (F 10 7)) 18 (F2 12 5) 0) 12 5 (i_add (F2 12 5) 1)) v F')) ∧
        (n2 = 0 →
         v = (0, 0) ∧ F' = F2)) ∧
    ((F 10 7) ≠ 43 →
     ((F 10 7) ≠ 45 →
       v = (0, 1) ∧ F' = F) ∧
      ((F 10 7) = 45 →
       ∃ F1 : fx_F, Cl k_Rd_advance [(2, 10)] F (2, 0) F1 ∧
        ∃ (n2 : Nat) (F2 : fx_F), Cl k_Rd_readProduct6 [(2, 10), (0, l1)] F1 (0, n2) F2 ∧
         (n2 ≠ 0 →
           (s_le 80 (F2 12 5) →
             ∃ m, m < n ∧ Rn m k_Rd_readSum6 12 [(2, 10), (0, l1), (0, i_add l2 1), (3, 0)] [] F2 v F') ∧
            (s_lt (F2 12 5) 80 →
             ∃ m, m < n ∧ Rn m k_Rd_readSum6 12 [(2, 10), (0, l1), (0, i_add l2 1), (3, 0)] [] (fu (fu (fu F2 17 (F2 12 5) (F 10 7)) 18 (F2 12 5) 0) 12 5 (i_add (F2 12 5) 1)) v F')) ∧
          (n2 = 0 →
           v = (0, 0) ∧ F' = F2)))) := by
  have t := q_ok cv_306 ap_306 (hd := [(12, [1, 1, 1, 0])]) h rfl rfl
  exact t
-- TurnNetModel.planFor(I)I
theorem c_M_planFor {a1 : Nat} {F : fx_F} {v : fx_V} {F' : fx_F} (h : Cl k_M_planFor [(2, 175), (0, a1)] F v F') : ∃ n, Rn n k_M_planFor 0 [(2, 175), (0, a1), (3, 0)] [] F v F' := by
  obtain ⟨n, s, hs, h⟩ := h
  rw [sg_307] at hs
  cases hs
  exact ⟨n, h⟩
set_option maxRecDepth 40000 in
theorem q_M_planFor_0 {n : Nat} {a1 : Nat} {F : fx_F} {v : fx_V} {F' : fx_F} (h : Rn n k_M_planFor 0 [(2, 175), (0, a1), (3, 0)] [] F v F') :
  ∃ F1 : fx_F, Cl k_M_putAside [(2, 175)] F (2, 0) F1 ∧
  ∃ (n2 : Nat) (F2 : fx_F), Cl k_M_goPhases [(2, 175), (0, a1), (0, 0)] F1 (0, n2) F2 ∧
   ∃ F3 : fx_F, Cl k_M_bringBack [(2, 175)] F2 (2, 0) F3 ∧
    v = (0, n2) ∧ F' = F3 := by
  have t := q_ok cv_307 ap_307 (hd := []) h rfl rfl
  exact t
-- TurnNet$Reader.readUnit(I)Z
theorem c_Rd_readUnit5 {a1 : Nat} {F : fx_F} {v : fx_V} {F' : fx_F} (h : Cl k_Rd_readUnit5 [(2, 10), (0, a1)] F v F') : ∃ n, Rn n k_Rd_readUnit5 0 [(2, 10), (0, a1), (3, 0), (3, 0)] [] F v F' := by
  obtain ⟨n, s, hs, h⟩ := h
  rw [sg_308] at hs
  cases hs
  exact ⟨n, h⟩
set_option maxRecDepth 40000 in
theorem q_Rd_readUnit5_0 {n : Nat} {a1 : Nat} {F : fx_F} {v : fx_V} {F' : fx_F} (h : Rn n k_Rd_readUnit5 0 [(2, 10), (0, a1), (3, 0), (3, 0)] [] F v F') :
  ∃ (n1 : Nat) (F1 : fx_F), Cl k_Rd_unitKind [(2, 10)] F (0, n1) F1 ∧
  (n1 ≠ 0 →
    (n1 ≠ 1 →
      (s_le 40 (F1 12 4) →
        ∃ (n2 : Nat) (F2 : fx_F), Cl k_Rd_fail [(2, 10), (0, 4)] F1 (0, n2) F2 ∧
         v = (0, n2) ∧ F' = F2) ∧
       (s_lt (F1 12 4) 40 →
        (s_le a1 5 →
          ∃ F2 : fx_F, Cl k_Rd_advance [(2, 10)] (fu F1 12 4 (i_add (F1 12 4) 1)) (2, 0) F2 ∧
           (n1 ≠ 40 →
             (n1 ≠ 5 →
               (s_le 80 (F2 12 5) →
                 v = (0, 1) ∧ F' = F2) ∧
                (s_lt (F2 12 5) 80 →
                 v = (0, 1) ∧ F' = (fu (fu (fu F2 17 (F2 12 5) n1) 18 (F2 12 5) (F1 10 8)) 12 5 (i_add (F2 12 5) 1)))) ∧
              (n1 = 5 →
               ∃ (n3 : Nat) (F3 : fx_F), Cl k_Rd_readUnit6 [(2, 10), (0, i_add a1 1)] F2 (0, n3) F3 ∧
                (n3 ≠ 0 →
                  (s_le 80 (F3 12 5) →
                    v = (0, 1) ∧ F' = F3) ∧
                   (s_lt (F3 12 5) 80 →
                    v = (0, 1) ∧ F' = (fu (fu (fu F3 17 (F3 12 5) n1) 18 (F3 12 5) (F1 10 8)) 12 5 (i_add (F3 12 5) 1)))) ∧
                 (n3 = 0 →
                  v = (0, 0) ∧ F' = F3))) ∧
            (n1 = 40 →
             ∃ (n3 : Nat) (F3 : fx_F), Cl k_Rd_readSum6 [(2, 10), (0, i_add a1 1)] F2 (0, n3) F3 ∧
              (n3 = 0 →
                v = (0, 0) ∧ F' = F3) ∧
               (n3 ≠ 0 →
                ∃ (n4 : Nat) (F4 : fx_F), Cl k_Rd_readSign [(2, 10), (0, 41)] F3 (0, n4) F4 ∧
                 (n4 = 0 →
                   v = (0, 0) ∧ F' = F4) ∧
                  (n4 ≠ 0 →
                   v = (0, 1) ∧ F' = F4)))) ∧
         (s_lt 5 a1 →
          ∃ (n2 : Nat) (F2 : fx_F), Cl k_Rd_fail [(2, 10), (0, 4)] F1 (0, n2) F2 ∧
           v = (0, n2) ∧ F' = F2))) ∧
     (n1 = 1 →
      (s_le (F1 10 8) 999 →
        (s_le 40 (F1 12 4) →
          ∃ (n2 : Nat) (F2 : fx_F), Cl k_Rd_fail [(2, 10), (0, 4)] F1 (0, n2) F2 ∧
           v = (0, n2) ∧ F' = F2) ∧
         (s_lt (F1 12 4) 40 →
          (s_le a1 5 →
            ∃ F2 : fx_F, Cl k_Rd_advance [(2, 10)] (fu F1 12 4 (i_add (F1 12 4) 1)) (2, 0) F2 ∧
             (n1 ≠ 40 →
               (n1 ≠ 5 →
                 (s_le 80 (F2 12 5) →
                   v = (0, 1) ∧ F' = F2) ∧
                  (s_lt (F2 12 5) 80 →
                   v = (0, 1) ∧ F' = (fu (fu (fu F2 17 (F2 12 5) n1) 18 (F2 12 5) (F1 10 8)) 12 5 (i_add (F2 12 5) 1)))) ∧
                (n1 = 5 →
                 ∃ (n3 : Nat) (F3 : fx_F), Cl k_Rd_readUnit6 [(2, 10), (0, i_add a1 1)] F2 (0, n3) F3 ∧
                  (n3 ≠ 0 →
                    (s_le 80 (F3 12 5) →
                      v = (0, 1) ∧ F' = F3) ∧
                     (s_lt (F3 12 5) 80 →
                      v = (0, 1) ∧ F' = (fu (fu (fu F3 17 (F3 12 5) n1) 18 (F3 12 5) (F1 10 8)) 12 5 (i_add (F3 12 5) 1)))) ∧
                   (n3 = 0 →
                    v = (0, 0) ∧ F' = F3))) ∧
              (n1 = 40 →
               ∃ (n3 : Nat) (F3 : fx_F), Cl k_Rd_readSum6 [(2, 10), (0, i_add a1 1)] F2 (0, n3) F3 ∧
                (n3 = 0 →
                  v = (0, 0) ∧ F' = F3) ∧
                 (n3 ≠ 0 →
                  ∃ (n4 : Nat) (F4 : fx_F), Cl k_Rd_readSign [(2, 10), (0, 41)] F3 (0, n4) F4 ∧
                   (n4 = 0 →
                     v = (0, 0) ∧ F' = F4) ∧
                    (n4 ≠ 0 →
                     v = (0, 1) ∧ F' = F4)))) ∧
           (s_lt 5 a1 →
            ∃ (n2 : Nat) (F2 : fx_F), Cl k_Rd_fail [(2, 10), (0, 4)] F1 (0, n2) F2 ∧
             v = (0, n2) ∧ F' = F2))) ∧
       (s_lt 999 (F1 10 8) →
        ∃ (n2 : Nat) (F2 : fx_F), Cl k_Rd_fail [(2, 10), (0, 2)] F1 (0, n2) F2 ∧
         v = (0, n2) ∧ F' = F2))) ∧
   (n1 = 0 →
    ∃ (n2 : Nat) (F2 : fx_F), Cl k_Rd_fail [(2, 10), (0, 1)] F1 (0, n2) F2 ∧
     v = (0, n2) ∧ F' = F2) := by
  have t := q_ok cv_308 ap_308 (hd := []) h rfl rfl
  exact t
-- TurnNetModel.change(II)I
theorem c_M_change {a1 a2 : Nat} {F : fx_F} {v : fx_V} {F' : fx_F} (h : Cl k_M_change [(2, 175), (0, a1), (0, a2)] F v F') : ∃ n, Rn n k_M_change 0 [(2, 175), (0, a1), (0, a2), (3, 0)] [] F v F' := by
  obtain ⟨n, s, hs, h⟩ := h
  rw [sg_309] at hs
  cases hs
  exact ⟨n, h⟩
set_option maxRecDepth 40000 in
theorem q_M_change_0 {n : Nat} {a1 a2 : Nat} {F : fx_F} {v : fx_V} {F' : fx_F} (h : Rn n k_M_change 0 [(2, 175), (0, a1), (0, a2), (3, 0)] [] F v F') :
  (s_lt a1 0 →
   v = (0, 4294967295) ∧ F' = F) ∧
  (s_le 0 a1 →
   (s_lt (i_sub (F 177 (F 175 9)) 1) a1 →
     v = (0, 4294967295) ∧ F' = F) ∧
    (s_le a1 (i_sub (F 177 (F 175 9)) 1) →
     (s_lt a2 0 →
       v = (0, 4294967295) ∧ F' = F) ∧
      (s_le 0 a2 →
       (s_lt 20 a2 →
         v = (0, 4294967295) ∧ F' = F) ∧
        (s_le a2 20 →
         ∃ (n1 : Nat) (F1 : fx_F), Cl k_M_planFor [(2, 175), (0, a1)] F (0, n1) F1 ∧
          (s_le 0 n1 →
            ∃ F2 : fx_F, Cl k_M_keepAct [(2, 175)] F1 (2, 0) F2 ∧
             ∃ (n3 : Nat) (F3 : fx_F), Cl k_M_goPhases [(2, 175), (0, a1), (0, a2)] F2 (0, n3) F3 ∧
              v = (0, n3) ∧ F' = (fu F3 176 40 a1)) ∧
           (s_lt n1 0 →
            v = (0, 4294967294) ∧ F' = F1))))) := by
  have t := q_ok cv_309 ap_309 (hd := []) h rfl rfl
  exact t
-- TurnNetModel.phase(II)I
theorem c_M_phase {a1 a2 : Nat} {F : fx_F} {v : fx_V} {F' : fx_F} (h : Cl k_M_phase [(2, 175), (0, a1), (0, a2)] F v F') : ∃ n, Rn n k_M_phase 0 [(2, 175), (0, a1), (0, a2)] [] F v F' := by
  obtain ⟨n, s, hs, h⟩ := h
  rw [sg_310] at hs
  cases hs
  exact ⟨n, h⟩
set_option maxRecDepth 40000 in
theorem q_M_phase_0 {n : Nat} {a1 a2 : Nat} {F : fx_F} {v : fx_V} {F' : fx_F} (h : Rn n k_M_phase 0 [(2, 175), (0, a1), (0, a2)] [] F v F') :
  (s_lt a1 0 →
   v = (0, 4294967295) ∧ F' = F) ∧
  (s_le 0 a1 →
   (s_lt (i_sub (F 177 (F 175 9)) 1) a1 →
     v = (0, 4294967295) ∧ F' = F) ∧
    (s_le a1 (i_sub (F 177 (F 175 9)) 1) →
     (s_lt a2 0 →
       v = (0, 4294967295) ∧ F' = F) ∧
      (s_le 0 a2 →
       (s_lt (i_sub (F 178 (F 175 9)) 1) a2 →
         v = (0, 4294967295) ∧ F' = F) ∧
        (s_le a2 (i_sub (F 178 (F 175 9)) 1) →
         ∃ (n1 : Nat) (F1 : fx_F), Cl k_M_planFor [(2, 175), (0, a1)] F (0, n1) F1 ∧
          (s_le 0 n1 →
            v = (0, F1 203 a2) ∧ F' = F1) ∧
           (s_lt n1 0 →
            v = (0, 4294967295) ∧ F' = F1))))) := by
  have t := q_ok cv_310 ap_310 (hd := []) h rfl rfl
  exact t
-- TurnNetModel.plan(II)I
theorem c_M_plan {a1 a2 : Nat} {F : fx_F} {v : fx_V} {F' : fx_F} (h : Cl k_M_plan [(2, 175), (0, a1), (0, a2)] F v F') : ∃ n, Rn n k_M_plan 0 [(2, 175), (0, a1), (0, a2)] [] F v F' := by
  obtain ⟨n, s, hs, h⟩ := h
  rw [sg_311] at hs
  cases hs
  exact ⟨n, h⟩
set_option maxRecDepth 40000 in
theorem q_M_plan_0 {n : Nat} {a1 a2 : Nat} {F : fx_F} {v : fx_V} {F' : fx_F} (h : Rn n k_M_plan 0 [(2, 175), (0, a1), (0, a2)] [] F v F') :
  (s_lt a1 0 →
   v = (0, 4294967295) ∧ F' = F) ∧
  (s_le 0 a1 →
   (s_lt (i_sub (F 177 (F 175 9)) 1) a1 →
     v = (0, 4294967295) ∧ F' = F) ∧
    (s_le a1 (i_sub (F 177 (F 175 9)) 1) →
     (s_lt a2 0 →
       v = (0, 4294967295) ∧ F' = F) ∧
      (s_le 0 a2 →
       (s_lt 1 a2 →
         v = (0, 4294967295) ∧ F' = F) ∧
        (s_le a2 1 →
         (a2 ≠ 1 →
           ∃ F1 : fx_F, Cl k_M_orientBy [(2, 175), (0, a1)] F (2, 0) F1 ∧
            ∃ (n2 : Nat) (F2 : fx_F), Cl k_M_flips [(2, 175)] F1 (0, n2) F2 ∧
             v = (0, n2) ∧ F' = F2) ∧
          (a2 = 1 →
           ∃ (n1 : Nat) (F1 : fx_F), Cl k_M_planFor [(2, 175), (0, a1)] F (0, n1) F1 ∧
            v = (0, n1) ∧ F' = F1))))) := by
  have t := q_ok cv_311 ap_311 (hd := []) h rfl rfl
  exact t
-- TurnNet$Reader.readProduct(I)Z
theorem c_Rd_readProduct5 {a1 : Nat} {F : fx_F} {v : fx_V} {F' : fx_F} (h : Cl k_Rd_readProduct5 [(2, 10), (0, a1)] F v F') : ∃ n, Rn n k_Rd_readProduct5 0 [(2, 10), (0, a1), (3, 0), (3, 0)] [] F v F' := by
  obtain ⟨n, s, hs, h⟩ := h
  rw [sg_312] at hs
  cases hs
  exact ⟨n, h⟩
set_option maxRecDepth 40000 in
theorem q_Rd_readProduct5_0 {n : Nat} {a1 : Nat} {F : fx_F} {v : fx_V} {F' : fx_F} (h : Rn n k_Rd_readProduct5 0 [(2, 10), (0, a1), (3, 0), (3, 0)] [] F v F') :
  ∃ (n1 : Nat) (F1 : fx_F), Cl k_Rd_readUnit5 [(2, 10), (0, a1)] F (0, n1) F1 ∧
  (n1 ≠ 0 →
    ∃ m, m < n ∧ Rn m k_Rd_readProduct5 12 [(2, 10), (0, a1), (0, 0), (3, 0)] [] F1 v F') ∧
   (n1 = 0 →
    v = (0, 0) ∧ F' = F1) := by
  have t := q_ok cv_312 ap_312 (hd := [(12, [1, 1, 1, 0])]) h rfl rfl
  exact t
set_option maxRecDepth 40000 in
theorem q_Rd_readProduct5_12 {n : Nat} {l1 l2 : Nat} {F : fx_F} {v : fx_V} {F' : fx_F} (h : Rn n k_Rd_readProduct5 12 [(2, 10), (0, l1), (0, l2), (3, 0)] [] F v F') :
  (s_le 800 l2 →
   v = (0, 1) ∧ F' = F) ∧
  (s_lt l2 800 →
   ((F 10 7) = 42 →
     ∃ F1 : fx_F, Cl k_Rd_advance [(2, 10)] F (2, 0) F1 ∧
      ∃ (n2 : Nat) (F2 : fx_F), Cl k_Rd_readUnit5 [(2, 10), (0, l1)] F1 (0, n2) F2 ∧
       (n2 ≠ 0 →
         (s_le 80 (F2 12 5) →
           ∃ m, m < n ∧ Rn m k_Rd_readProduct5 12 [(2, 10), (0, l1), (0, i_add l2 1), (3, 0)] [] F2 v F') ∧
          (s_lt (F2 12 5) 80 →
           ∃ m, m < n ∧ Rn m k_Rd_readProduct5 12 [(2, 10), (0, l1), (0, i_add l2 1), (3, 0)] [] (fu (fu (fu F2 17 (F2 12 5) (F 10 7)) 18 (F2 12 5) 0) 12 5 (i_add (F2 12 5) 1)) v F')) ∧
        (n2 = 0 →
         v = (0, 0) ∧ F' = F2)) ∧
    ((F 10 7) ≠ 42 →
     ((F 10 7) = 47 →
       ∃ F1 : fx_F, Cl k_Rd_advance [(2, 10)] F (2, 0) F1 ∧
        ∃ (n2 : Nat) (F2 : fx_F), Cl k_Rd_readUnit5 [(2, 10), (0, l1)] F1 (0, n2) F2 ∧
         (n2 ≠ 0 →
           (s_le 80 (F2 12 5) →
             ∃ m, m < n ∧ Rn m k_Rd_readProduct5 12 [(2, 10), (0, l1), (0, i_add l2 1), (3, 0)] [] F2 v F') ∧
            (s_lt (F2 12 5) 80 →
             ∃ m, m < n ∧ Rn m k_Rd_readProduct5 12 [(2, 10), (0, l1), (0, i_add l2 1), (3, 0)] [] (fu (fu (fu F2 17 (F2 12 5) (F 10 7)) 18 (F2 12 5) 0) 12 5 (i_add (F2 12 5) 1)) v F')) ∧
          (n2 = 0 →
           v = (0, 0) ∧ F' = F2)) ∧
      ((F 10 7) ≠ 47 →
       ((F 10 7) ≠ 37 →
         v = (0, 1) ∧ F' = F) ∧
        ((F 10 7) = 37 →
         ∃ F1 : fx_F, Cl k_Rd_advance [(2, 10)] F (2, 0) F1 ∧
          ∃ (n2 : Nat) (F2 : fx_F), Cl k_Rd_readUnit5 [(2, 10), (0, l1)] F1 (0, n2) F2 ∧
           (n2 ≠ 0 →
             (s_le 80 (F2 12 5) →
               ∃ m, m < n ∧ Rn m k_Rd_readProduct5 12 [(2, 10), (0, l1), (0, i_add l2 1), (3, 0)] [] F2 v F') ∧
              (s_lt (F2 12 5) 80 →
               ∃ m, m < n ∧ Rn m k_Rd_readProduct5 12 [(2, 10), (0, l1), (0, i_add l2 1), (3, 0)] [] (fu (fu (fu F2 17 (F2 12 5) (F 10 7)) 18 (F2 12 5) 0) 12 5 (i_add (F2 12 5) 1)) v F')) ∧
            (n2 = 0 →
             v = (0, 0) ∧ F' = F2))))) := by
  have t := q_ok cv_312 ap_312 (hd := [(12, [1, 1, 1, 0])]) h rfl rfl
  exact t
-- TurnNet$Reader.readSum(I)Z
theorem c_Rd_readSum5 {a1 : Nat} {F : fx_F} {v : fx_V} {F' : fx_F} (h : Cl k_Rd_readSum5 [(2, 10), (0, a1)] F v F') : ∃ n, Rn n k_Rd_readSum5 0 [(2, 10), (0, a1), (3, 0), (3, 0)] [] F v F' := by
  obtain ⟨n, s, hs, h⟩ := h
  rw [sg_313] at hs
  cases hs
  exact ⟨n, h⟩
set_option maxRecDepth 40000 in
theorem q_Rd_readSum5_0 {n : Nat} {a1 : Nat} {F : fx_F} {v : fx_V} {F' : fx_F} (h : Rn n k_Rd_readSum5 0 [(2, 10), (0, a1), (3, 0), (3, 0)] [] F v F') :
  ∃ (n1 : Nat) (F1 : fx_F), Cl k_Rd_readProduct5 [(2, 10), (0, a1)] F (0, n1) F1 ∧
  (n1 ≠ 0 →
    ∃ m, m < n ∧ Rn m k_Rd_readSum5 12 [(2, 10), (0, a1), (0, 0), (3, 0)] [] F1 v F') ∧
   (n1 = 0 →
    v = (0, 0) ∧ F' = F1) := by
  have t := q_ok cv_313 ap_313 (hd := [(12, [1, 1, 1, 0])]) h rfl rfl
  exact t
set_option maxRecDepth 40000 in
theorem q_Rd_readSum5_12 {n : Nat} {l1 l2 : Nat} {F : fx_F} {v : fx_V} {F' : fx_F} (h : Rn n k_Rd_readSum5 12 [(2, 10), (0, l1), (0, l2), (3, 0)] [] F v F') :
  (s_le 800 l2 →
   v = (0, 1) ∧ F' = F) ∧
  (s_lt l2 800 →
   ((F 10 7) = 43 →
     ∃ F1 : fx_F, Cl k_Rd_advance [(2, 10)] F (2, 0) F1 ∧
      ∃ (n2 : Nat) (F2 : fx_F), Cl k_Rd_readProduct5 [(2, 10), (0, l1)] F1 (0, n2) F2 ∧
       (n2 ≠ 0 →
         (s_le 80 (F2 12 5) →
           ∃ m, m < n ∧ Rn m k_Rd_readSum5 12 [(2, 10), (0, l1), (0, i_add l2 1), (3, 0)] [] F2 v F') ∧
          (s_lt (F2 12 5) 80 →
           ∃ m, m < n ∧ Rn m k_Rd_readSum5 12 [(2, 10), (0, l1), (0, i_add l2 1), (3, 0)] [] (fu (fu (fu F2 17 (F2 12 5) (F 10 7)) 18 (F2 12 5) 0) 12 5 (i_add (F2 12 5) 1)) v F')) ∧
        (n2 = 0 →
         v = (0, 0) ∧ F' = F2)) ∧
    ((F 10 7) ≠ 43 →
     ((F 10 7) ≠ 45 →
       v = (0, 1) ∧ F' = F) ∧
      ((F 10 7) = 45 →
       ∃ F1 : fx_F, Cl k_Rd_advance [(2, 10)] F (2, 0) F1 ∧
        ∃ (n2 : Nat) (F2 : fx_F), Cl k_Rd_readProduct5 [(2, 10), (0, l1)] F1 (0, n2) F2 ∧
         (n2 ≠ 0 →
           (s_le 80 (F2 12 5) →
             ∃ m, m < n ∧ Rn m k_Rd_readSum5 12 [(2, 10), (0, l1), (0, i_add l2 1), (3, 0)] [] F2 v F') ∧
            (s_lt (F2 12 5) 80 →
             ∃ m, m < n ∧ Rn m k_Rd_readSum5 12 [(2, 10), (0, l1), (0, i_add l2 1), (3, 0)] [] (fu (fu (fu F2 17 (F2 12 5) (F 10 7)) 18 (F2 12 5) 0) 12 5 (i_add (F2 12 5) 1)) v F')) ∧
          (n2 = 0 →
           v = (0, 0) ∧ F' = F2)))) := by
  have t := q_ok cv_313 ap_313 (hd := [(12, [1, 1, 1, 0])]) h rfl rfl
  exact t
-- TurnNet$Reader.readUnit(I)Z
theorem c_Rd_readUnit4 {a1 : Nat} {F : fx_F} {v : fx_V} {F' : fx_F} (h : Cl k_Rd_readUnit4 [(2, 10), (0, a1)] F v F') : ∃ n, Rn n k_Rd_readUnit4 0 [(2, 10), (0, a1), (3, 0), (3, 0)] [] F v F' := by
  obtain ⟨n, s, hs, h⟩ := h
  rw [sg_314] at hs
  cases hs
  exact ⟨n, h⟩
set_option maxRecDepth 40000 in
theorem q_Rd_readUnit4_0 {n : Nat} {a1 : Nat} {F : fx_F} {v : fx_V} {F' : fx_F} (h : Rn n k_Rd_readUnit4 0 [(2, 10), (0, a1), (3, 0), (3, 0)] [] F v F') :
  ∃ (n1 : Nat) (F1 : fx_F), Cl k_Rd_unitKind [(2, 10)] F (0, n1) F1 ∧
  (n1 ≠ 0 →
    (n1 ≠ 1 →
      (s_le 40 (F1 12 4) →
        ∃ (n2 : Nat) (F2 : fx_F), Cl k_Rd_fail [(2, 10), (0, 4)] F1 (0, n2) F2 ∧
         v = (0, n2) ∧ F' = F2) ∧
       (s_lt (F1 12 4) 40 →
        (s_le a1 5 →
          ∃ F2 : fx_F, Cl k_Rd_advance [(2, 10)] (fu F1 12 4 (i_add (F1 12 4) 1)) (2, 0) F2 ∧
           (n1 ≠ 40 →
             (n1 ≠ 5 →
               (s_le 80 (F2 12 5) →
                 v = (0, 1) ∧ F' = F2) ∧
                (s_lt (F2 12 5) 80 →
                 v = (0, 1) ∧ F' = (fu (fu (fu F2 17 (F2 12 5) n1) 18 (F2 12 5) (F1 10 8)) 12 5 (i_add (F2 12 5) 1)))) ∧
              (n1 = 5 →
               ∃ (n3 : Nat) (F3 : fx_F), Cl k_Rd_readUnit5 [(2, 10), (0, i_add a1 1)] F2 (0, n3) F3 ∧
                (n3 ≠ 0 →
                  (s_le 80 (F3 12 5) →
                    v = (0, 1) ∧ F' = F3) ∧
                   (s_lt (F3 12 5) 80 →
                    v = (0, 1) ∧ F' = (fu (fu (fu F3 17 (F3 12 5) n1) 18 (F3 12 5) (F1 10 8)) 12 5 (i_add (F3 12 5) 1)))) ∧
                 (n3 = 0 →
                  v = (0, 0) ∧ F' = F3))) ∧
            (n1 = 40 →
             ∃ (n3 : Nat) (F3 : fx_F), Cl k_Rd_readSum5 [(2, 10), (0, i_add a1 1)] F2 (0, n3) F3 ∧
              (n3 = 0 →
                v = (0, 0) ∧ F' = F3) ∧
               (n3 ≠ 0 →
                ∃ (n4 : Nat) (F4 : fx_F), Cl k_Rd_readSign [(2, 10), (0, 41)] F3 (0, n4) F4 ∧
                 (n4 = 0 →
                   v = (0, 0) ∧ F' = F4) ∧
                  (n4 ≠ 0 →
                   v = (0, 1) ∧ F' = F4)))) ∧
         (s_lt 5 a1 →
          ∃ (n2 : Nat) (F2 : fx_F), Cl k_Rd_fail [(2, 10), (0, 4)] F1 (0, n2) F2 ∧
           v = (0, n2) ∧ F' = F2))) ∧
     (n1 = 1 →
      (s_le (F1 10 8) 999 →
        (s_le 40 (F1 12 4) →
          ∃ (n2 : Nat) (F2 : fx_F), Cl k_Rd_fail [(2, 10), (0, 4)] F1 (0, n2) F2 ∧
           v = (0, n2) ∧ F' = F2) ∧
         (s_lt (F1 12 4) 40 →
          (s_le a1 5 →
            ∃ F2 : fx_F, Cl k_Rd_advance [(2, 10)] (fu F1 12 4 (i_add (F1 12 4) 1)) (2, 0) F2 ∧
             (n1 ≠ 40 →
               (n1 ≠ 5 →
                 (s_le 80 (F2 12 5) →
                   v = (0, 1) ∧ F' = F2) ∧
                  (s_lt (F2 12 5) 80 →
                   v = (0, 1) ∧ F' = (fu (fu (fu F2 17 (F2 12 5) n1) 18 (F2 12 5) (F1 10 8)) 12 5 (i_add (F2 12 5) 1)))) ∧
                (n1 = 5 →
                 ∃ (n3 : Nat) (F3 : fx_F), Cl k_Rd_readUnit5 [(2, 10), (0, i_add a1 1)] F2 (0, n3) F3 ∧
                  (n3 ≠ 0 →
                    (s_le 80 (F3 12 5) →
                      v = (0, 1) ∧ F' = F3) ∧
                     (s_lt (F3 12 5) 80 →
                      v = (0, 1) ∧ F' = (fu (fu (fu F3 17 (F3 12 5) n1) 18 (F3 12 5) (F1 10 8)) 12 5 (i_add (F3 12 5) 1)))) ∧
                   (n3 = 0 →
                    v = (0, 0) ∧ F' = F3))) ∧
              (n1 = 40 →
               ∃ (n3 : Nat) (F3 : fx_F), Cl k_Rd_readSum5 [(2, 10), (0, i_add a1 1)] F2 (0, n3) F3 ∧
                (n3 = 0 →
                  v = (0, 0) ∧ F' = F3) ∧
                 (n3 ≠ 0 →
                  ∃ (n4 : Nat) (F4 : fx_F), Cl k_Rd_readSign [(2, 10), (0, 41)] F3 (0, n4) F4 ∧
                   (n4 = 0 →
                     v = (0, 0) ∧ F' = F4) ∧
                    (n4 ≠ 0 →
                     v = (0, 1) ∧ F' = F4)))) ∧
           (s_lt 5 a1 →
            ∃ (n2 : Nat) (F2 : fx_F), Cl k_Rd_fail [(2, 10), (0, 4)] F1 (0, n2) F2 ∧
             v = (0, n2) ∧ F' = F2))) ∧
       (s_lt 999 (F1 10 8) →
        ∃ (n2 : Nat) (F2 : fx_F), Cl k_Rd_fail [(2, 10), (0, 2)] F1 (0, n2) F2 ∧
         v = (0, n2) ∧ F' = F2))) ∧
   (n1 = 0 →
    ∃ (n2 : Nat) (F2 : fx_F), Cl k_Rd_fail [(2, 10), (0, 1)] F1 (0, n2) F2 ∧
     v = (0, n2) ∧ F' = F2) := by
  have t := q_ok cv_314 ap_314 (hd := []) h rfl rfl
  exact t
-- TurnNet$Reader.readProduct(I)Z
theorem c_Rd_readProduct4 {a1 : Nat} {F : fx_F} {v : fx_V} {F' : fx_F} (h : Cl k_Rd_readProduct4 [(2, 10), (0, a1)] F v F') : ∃ n, Rn n k_Rd_readProduct4 0 [(2, 10), (0, a1), (3, 0), (3, 0)] [] F v F' := by
  obtain ⟨n, s, hs, h⟩ := h
  rw [sg_315] at hs
  cases hs
  exact ⟨n, h⟩
set_option maxRecDepth 40000 in
theorem q_Rd_readProduct4_0 {n : Nat} {a1 : Nat} {F : fx_F} {v : fx_V} {F' : fx_F} (h : Rn n k_Rd_readProduct4 0 [(2, 10), (0, a1), (3, 0), (3, 0)] [] F v F') :
  ∃ (n1 : Nat) (F1 : fx_F), Cl k_Rd_readUnit4 [(2, 10), (0, a1)] F (0, n1) F1 ∧
  (n1 ≠ 0 →
    ∃ m, m < n ∧ Rn m k_Rd_readProduct4 12 [(2, 10), (0, a1), (0, 0), (3, 0)] [] F1 v F') ∧
   (n1 = 0 →
    v = (0, 0) ∧ F' = F1) := by
  have t := q_ok cv_315 ap_315 (hd := [(12, [1, 1, 1, 0])]) h rfl rfl
  exact t
set_option maxRecDepth 40000 in
theorem q_Rd_readProduct4_12 {n : Nat} {l1 l2 : Nat} {F : fx_F} {v : fx_V} {F' : fx_F} (h : Rn n k_Rd_readProduct4 12 [(2, 10), (0, l1), (0, l2), (3, 0)] [] F v F') :
  (s_le 800 l2 →
   v = (0, 1) ∧ F' = F) ∧
  (s_lt l2 800 →
   ((F 10 7) = 42 →
     ∃ F1 : fx_F, Cl k_Rd_advance [(2, 10)] F (2, 0) F1 ∧
      ∃ (n2 : Nat) (F2 : fx_F), Cl k_Rd_readUnit4 [(2, 10), (0, l1)] F1 (0, n2) F2 ∧
       (n2 ≠ 0 →
         (s_le 80 (F2 12 5) →
           ∃ m, m < n ∧ Rn m k_Rd_readProduct4 12 [(2, 10), (0, l1), (0, i_add l2 1), (3, 0)] [] F2 v F') ∧
          (s_lt (F2 12 5) 80 →
           ∃ m, m < n ∧ Rn m k_Rd_readProduct4 12 [(2, 10), (0, l1), (0, i_add l2 1), (3, 0)] [] (fu (fu (fu F2 17 (F2 12 5) (F 10 7)) 18 (F2 12 5) 0) 12 5 (i_add (F2 12 5) 1)) v F')) ∧
        (n2 = 0 →
         v = (0, 0) ∧ F' = F2)) ∧
    ((F 10 7) ≠ 42 →
     ((F 10 7) = 47 →
       ∃ F1 : fx_F, Cl k_Rd_advance [(2, 10)] F (2, 0) F1 ∧
        ∃ (n2 : Nat) (F2 : fx_F), Cl k_Rd_readUnit4 [(2, 10), (0, l1)] F1 (0, n2) F2 ∧
         (n2 ≠ 0 →
           (s_le 80 (F2 12 5) →
             ∃ m, m < n ∧ Rn m k_Rd_readProduct4 12 [(2, 10), (0, l1), (0, i_add l2 1), (3, 0)] [] F2 v F') ∧
            (s_lt (F2 12 5) 80 →
             ∃ m, m < n ∧ Rn m k_Rd_readProduct4 12 [(2, 10), (0, l1), (0, i_add l2 1), (3, 0)] [] (fu (fu (fu F2 17 (F2 12 5) (F 10 7)) 18 (F2 12 5) 0) 12 5 (i_add (F2 12 5) 1)) v F')) ∧
          (n2 = 0 →
           v = (0, 0) ∧ F' = F2)) ∧
      ((F 10 7) ≠ 47 →
       ((F 10 7) ≠ 37 →
         v = (0, 1) ∧ F' = F) ∧
        ((F 10 7) = 37 →
         ∃ F1 : fx_F, Cl k_Rd_advance [(2, 10)] F (2, 0) F1 ∧
          ∃ (n2 : Nat) (F2 : fx_F), Cl k_Rd_readUnit4 [(2, 10), (0, l1)] F1 (0, n2) F2 ∧
           (n2 ≠ 0 →
             (s_le 80 (F2 12 5) →
               ∃ m, m < n ∧ Rn m k_Rd_readProduct4 12 [(2, 10), (0, l1), (0, i_add l2 1), (3, 0)] [] F2 v F') ∧
              (s_lt (F2 12 5) 80 →
               ∃ m, m < n ∧ Rn m k_Rd_readProduct4 12 [(2, 10), (0, l1), (0, i_add l2 1), (3, 0)] [] (fu (fu (fu F2 17 (F2 12 5) (F 10 7)) 18 (F2 12 5) 0) 12 5 (i_add (F2 12 5) 1)) v F')) ∧
            (n2 = 0 →
             v = (0, 0) ∧ F' = F2))))) := by
  have t := q_ok cv_315 ap_315 (hd := [(12, [1, 1, 1, 0])]) h rfl rfl
  exact t
-- TurnNet$Reader.readSum(I)Z
theorem c_Rd_readSum4 {a1 : Nat} {F : fx_F} {v : fx_V} {F' : fx_F} (h : Cl k_Rd_readSum4 [(2, 10), (0, a1)] F v F') : ∃ n, Rn n k_Rd_readSum4 0 [(2, 10), (0, a1), (3, 0), (3, 0)] [] F v F' := by
  obtain ⟨n, s, hs, h⟩ := h
  rw [sg_316] at hs
  cases hs
  exact ⟨n, h⟩
set_option maxRecDepth 40000 in
theorem q_Rd_readSum4_0 {n : Nat} {a1 : Nat} {F : fx_F} {v : fx_V} {F' : fx_F} (h : Rn n k_Rd_readSum4 0 [(2, 10), (0, a1), (3, 0), (3, 0)] [] F v F') :
  ∃ (n1 : Nat) (F1 : fx_F), Cl k_Rd_readProduct4 [(2, 10), (0, a1)] F (0, n1) F1 ∧
  (n1 ≠ 0 →
    ∃ m, m < n ∧ Rn m k_Rd_readSum4 12 [(2, 10), (0, a1), (0, 0), (3, 0)] [] F1 v F') ∧
   (n1 = 0 →
    v = (0, 0) ∧ F' = F1) := by
  have t := q_ok cv_316 ap_316 (hd := [(12, [1, 1, 1, 0])]) h rfl rfl
  exact t
set_option maxRecDepth 40000 in
theorem q_Rd_readSum4_12 {n : Nat} {l1 l2 : Nat} {F : fx_F} {v : fx_V} {F' : fx_F} (h : Rn n k_Rd_readSum4 12 [(2, 10), (0, l1), (0, l2), (3, 0)] [] F v F') :
  (s_le 800 l2 →
   v = (0, 1) ∧ F' = F) ∧
  (s_lt l2 800 →
   ((F 10 7) = 43 →
     ∃ F1 : fx_F, Cl k_Rd_advance [(2, 10)] F (2, 0) F1 ∧
      ∃ (n2 : Nat) (F2 : fx_F), Cl k_Rd_readProduct4 [(2, 10), (0, l1)] F1 (0, n2) F2 ∧
       (n2 ≠ 0 →
         (s_le 80 (F2 12 5) →
           ∃ m, m < n ∧ Rn m k_Rd_readSum4 12 [(2, 10), (0, l1), (0, i_add l2 1), (3, 0)] [] F2 v F') ∧
          (s_lt (F2 12 5) 80 →
           ∃ m, m < n ∧ Rn m k_Rd_readSum4 12 [(2, 10), (0, l1), (0, i_add l2 1), (3, 0)] [] (fu (fu (fu F2 17 (F2 12 5) (F 10 7)) 18 (F2 12 5) 0) 12 5 (i_add (F2 12 5) 1)) v F')) ∧
        (n2 = 0 →
         v = (0, 0) ∧ F' = F2)) ∧
    ((F 10 7) ≠ 43 →
     ((F 10 7) ≠ 45 →
       v = (0, 1) ∧ F' = F) ∧
      ((F 10 7) = 45 →
       ∃ F1 : fx_F, Cl k_Rd_advance [(2, 10)] F (2, 0) F1 ∧
        ∃ (n2 : Nat) (F2 : fx_F), Cl k_Rd_readProduct4 [(2, 10), (0, l1)] F1 (0, n2) F2 ∧
         (n2 ≠ 0 →
           (s_le 80 (F2 12 5) →
             ∃ m, m < n ∧ Rn m k_Rd_readSum4 12 [(2, 10), (0, l1), (0, i_add l2 1), (3, 0)] [] F2 v F') ∧
            (s_lt (F2 12 5) 80 →
             ∃ m, m < n ∧ Rn m k_Rd_readSum4 12 [(2, 10), (0, l1), (0, i_add l2 1), (3, 0)] [] (fu (fu (fu F2 17 (F2 12 5) (F 10 7)) 18 (F2 12 5) 0) 12 5 (i_add (F2 12 5) 1)) v F')) ∧
          (n2 = 0 →
           v = (0, 0) ∧ F' = F2)))) := by
  have t := q_ok cv_316 ap_316 (hd := [(12, [1, 1, 1, 0])]) h rfl rfl
  exact t
-- TurnNet$Reader.readUnit(I)Z
theorem c_Rd_readUnit3 {a1 : Nat} {F : fx_F} {v : fx_V} {F' : fx_F} (h : Cl k_Rd_readUnit3 [(2, 10), (0, a1)] F v F') : ∃ n, Rn n k_Rd_readUnit3 0 [(2, 10), (0, a1), (3, 0), (3, 0)] [] F v F' := by
  obtain ⟨n, s, hs, h⟩ := h
  rw [sg_317] at hs
  cases hs
  exact ⟨n, h⟩
set_option maxRecDepth 40000 in
theorem q_Rd_readUnit3_0 {n : Nat} {a1 : Nat} {F : fx_F} {v : fx_V} {F' : fx_F} (h : Rn n k_Rd_readUnit3 0 [(2, 10), (0, a1), (3, 0), (3, 0)] [] F v F') :
  ∃ (n1 : Nat) (F1 : fx_F), Cl k_Rd_unitKind [(2, 10)] F (0, n1) F1 ∧
  (n1 ≠ 0 →
    (n1 ≠ 1 →
      (s_le 40 (F1 12 4) →
        ∃ (n2 : Nat) (F2 : fx_F), Cl k_Rd_fail [(2, 10), (0, 4)] F1 (0, n2) F2 ∧
         v = (0, n2) ∧ F' = F2) ∧
       (s_lt (F1 12 4) 40 →
        (s_le a1 5 →
          ∃ F2 : fx_F, Cl k_Rd_advance [(2, 10)] (fu F1 12 4 (i_add (F1 12 4) 1)) (2, 0) F2 ∧
           (n1 ≠ 40 →
             (n1 ≠ 5 →
               (s_le 80 (F2 12 5) →
                 v = (0, 1) ∧ F' = F2) ∧
                (s_lt (F2 12 5) 80 →
                 v = (0, 1) ∧ F' = (fu (fu (fu F2 17 (F2 12 5) n1) 18 (F2 12 5) (F1 10 8)) 12 5 (i_add (F2 12 5) 1)))) ∧
              (n1 = 5 →
               ∃ (n3 : Nat) (F3 : fx_F), Cl k_Rd_readUnit4 [(2, 10), (0, i_add a1 1)] F2 (0, n3) F3 ∧
                (n3 ≠ 0 →
                  (s_le 80 (F3 12 5) →
                    v = (0, 1) ∧ F' = F3) ∧
                   (s_lt (F3 12 5) 80 →
                    v = (0, 1) ∧ F' = (fu (fu (fu F3 17 (F3 12 5) n1) 18 (F3 12 5) (F1 10 8)) 12 5 (i_add (F3 12 5) 1)))) ∧
                 (n3 = 0 →
                  v = (0, 0) ∧ F' = F3))) ∧
            (n1 = 40 →
             ∃ (n3 : Nat) (F3 : fx_F), Cl k_Rd_readSum4 [(2, 10), (0, i_add a1 1)] F2 (0, n3) F3 ∧
              (n3 = 0 →
                v = (0, 0) ∧ F' = F3) ∧
               (n3 ≠ 0 →
                ∃ (n4 : Nat) (F4 : fx_F), Cl k_Rd_readSign [(2, 10), (0, 41)] F3 (0, n4) F4 ∧
                 (n4 = 0 →
                   v = (0, 0) ∧ F' = F4) ∧
                  (n4 ≠ 0 →
                   v = (0, 1) ∧ F' = F4)))) ∧
         (s_lt 5 a1 →
          ∃ (n2 : Nat) (F2 : fx_F), Cl k_Rd_fail [(2, 10), (0, 4)] F1 (0, n2) F2 ∧
           v = (0, n2) ∧ F' = F2))) ∧
     (n1 = 1 →
      (s_le (F1 10 8) 999 →
        (s_le 40 (F1 12 4) →
          ∃ (n2 : Nat) (F2 : fx_F), Cl k_Rd_fail [(2, 10), (0, 4)] F1 (0, n2) F2 ∧
           v = (0, n2) ∧ F' = F2) ∧
         (s_lt (F1 12 4) 40 →
          (s_le a1 5 →
            ∃ F2 : fx_F, Cl k_Rd_advance [(2, 10)] (fu F1 12 4 (i_add (F1 12 4) 1)) (2, 0) F2 ∧
             (n1 ≠ 40 →
               (n1 ≠ 5 →
                 (s_le 80 (F2 12 5) →
                   v = (0, 1) ∧ F' = F2) ∧
                  (s_lt (F2 12 5) 80 →
                   v = (0, 1) ∧ F' = (fu (fu (fu F2 17 (F2 12 5) n1) 18 (F2 12 5) (F1 10 8)) 12 5 (i_add (F2 12 5) 1)))) ∧
                (n1 = 5 →
                 ∃ (n3 : Nat) (F3 : fx_F), Cl k_Rd_readUnit4 [(2, 10), (0, i_add a1 1)] F2 (0, n3) F3 ∧
                  (n3 ≠ 0 →
                    (s_le 80 (F3 12 5) →
                      v = (0, 1) ∧ F' = F3) ∧
                     (s_lt (F3 12 5) 80 →
                      v = (0, 1) ∧ F' = (fu (fu (fu F3 17 (F3 12 5) n1) 18 (F3 12 5) (F1 10 8)) 12 5 (i_add (F3 12 5) 1)))) ∧
                   (n3 = 0 →
                    v = (0, 0) ∧ F' = F3))) ∧
              (n1 = 40 →
               ∃ (n3 : Nat) (F3 : fx_F), Cl k_Rd_readSum4 [(2, 10), (0, i_add a1 1)] F2 (0, n3) F3 ∧
                (n3 = 0 →
                  v = (0, 0) ∧ F' = F3) ∧
                 (n3 ≠ 0 →
                  ∃ (n4 : Nat) (F4 : fx_F), Cl k_Rd_readSign [(2, 10), (0, 41)] F3 (0, n4) F4 ∧
                   (n4 = 0 →
                     v = (0, 0) ∧ F' = F4) ∧
                    (n4 ≠ 0 →
                     v = (0, 1) ∧ F' = F4)))) ∧
           (s_lt 5 a1 →
            ∃ (n2 : Nat) (F2 : fx_F), Cl k_Rd_fail [(2, 10), (0, 4)] F1 (0, n2) F2 ∧
             v = (0, n2) ∧ F' = F2))) ∧
       (s_lt 999 (F1 10 8) →
        ∃ (n2 : Nat) (F2 : fx_F), Cl k_Rd_fail [(2, 10), (0, 2)] F1 (0, n2) F2 ∧
         v = (0, n2) ∧ F' = F2))) ∧
   (n1 = 0 →
    ∃ (n2 : Nat) (F2 : fx_F), Cl k_Rd_fail [(2, 10), (0, 1)] F1 (0, n2) F2 ∧
     v = (0, n2) ∧ F' = F2) := by
  have t := q_ok cv_317 ap_317 (hd := []) h rfl rfl
  exact t
-- TurnNet$Reader.readProduct(I)Z
theorem c_Rd_readProduct3 {a1 : Nat} {F : fx_F} {v : fx_V} {F' : fx_F} (h : Cl k_Rd_readProduct3 [(2, 10), (0, a1)] F v F') : ∃ n, Rn n k_Rd_readProduct3 0 [(2, 10), (0, a1), (3, 0), (3, 0)] [] F v F' := by
  obtain ⟨n, s, hs, h⟩ := h
  rw [sg_318] at hs
  cases hs
  exact ⟨n, h⟩
set_option maxRecDepth 40000 in
theorem q_Rd_readProduct3_0 {n : Nat} {a1 : Nat} {F : fx_F} {v : fx_V} {F' : fx_F} (h : Rn n k_Rd_readProduct3 0 [(2, 10), (0, a1), (3, 0), (3, 0)] [] F v F') :
  ∃ (n1 : Nat) (F1 : fx_F), Cl k_Rd_readUnit3 [(2, 10), (0, a1)] F (0, n1) F1 ∧
  (n1 ≠ 0 →
    ∃ m, m < n ∧ Rn m k_Rd_readProduct3 12 [(2, 10), (0, a1), (0, 0), (3, 0)] [] F1 v F') ∧
   (n1 = 0 →
    v = (0, 0) ∧ F' = F1) := by
  have t := q_ok cv_318 ap_318 (hd := [(12, [1, 1, 1, 0])]) h rfl rfl
  exact t
set_option maxRecDepth 40000 in
theorem q_Rd_readProduct3_12 {n : Nat} {l1 l2 : Nat} {F : fx_F} {v : fx_V} {F' : fx_F} (h : Rn n k_Rd_readProduct3 12 [(2, 10), (0, l1), (0, l2), (3, 0)] [] F v F') :
  (s_le 800 l2 →
   v = (0, 1) ∧ F' = F) ∧
  (s_lt l2 800 →
   ((F 10 7) = 42 →
     ∃ F1 : fx_F, Cl k_Rd_advance [(2, 10)] F (2, 0) F1 ∧
      ∃ (n2 : Nat) (F2 : fx_F), Cl k_Rd_readUnit3 [(2, 10), (0, l1)] F1 (0, n2) F2 ∧
       (n2 ≠ 0 →
         (s_le 80 (F2 12 5) →
           ∃ m, m < n ∧ Rn m k_Rd_readProduct3 12 [(2, 10), (0, l1), (0, i_add l2 1), (3, 0)] [] F2 v F') ∧
          (s_lt (F2 12 5) 80 →
           ∃ m, m < n ∧ Rn m k_Rd_readProduct3 12 [(2, 10), (0, l1), (0, i_add l2 1), (3, 0)] [] (fu (fu (fu F2 17 (F2 12 5) (F 10 7)) 18 (F2 12 5) 0) 12 5 (i_add (F2 12 5) 1)) v F')) ∧
        (n2 = 0 →
         v = (0, 0) ∧ F' = F2)) ∧
    ((F 10 7) ≠ 42 →
     ((F 10 7) = 47 →
       ∃ F1 : fx_F, Cl k_Rd_advance [(2, 10)] F (2, 0) F1 ∧
        ∃ (n2 : Nat) (F2 : fx_F), Cl k_Rd_readUnit3 [(2, 10), (0, l1)] F1 (0, n2) F2 ∧
         (n2 ≠ 0 →
           (s_le 80 (F2 12 5) →
             ∃ m, m < n ∧ Rn m k_Rd_readProduct3 12 [(2, 10), (0, l1), (0, i_add l2 1), (3, 0)] [] F2 v F') ∧
            (s_lt (F2 12 5) 80 →
             ∃ m, m < n ∧ Rn m k_Rd_readProduct3 12 [(2, 10), (0, l1), (0, i_add l2 1), (3, 0)] [] (fu (fu (fu F2 17 (F2 12 5) (F 10 7)) 18 (F2 12 5) 0) 12 5 (i_add (F2 12 5) 1)) v F')) ∧
          (n2 = 0 →
           v = (0, 0) ∧ F' = F2)) ∧
      ((F 10 7) ≠ 47 →
       ((F 10 7) ≠ 37 →
         v = (0, 1) ∧ F' = F) ∧
        ((F 10 7) = 37 →
         ∃ F1 : fx_F, Cl k_Rd_advance [(2, 10)] F (2, 0) F1 ∧
          ∃ (n2 : Nat) (F2 : fx_F), Cl k_Rd_readUnit3 [(2, 10), (0, l1)] F1 (0, n2) F2 ∧
           (n2 ≠ 0 →
             (s_le 80 (F2 12 5) →
               ∃ m, m < n ∧ Rn m k_Rd_readProduct3 12 [(2, 10), (0, l1), (0, i_add l2 1), (3, 0)] [] F2 v F') ∧
              (s_lt (F2 12 5) 80 →
               ∃ m, m < n ∧ Rn m k_Rd_readProduct3 12 [(2, 10), (0, l1), (0, i_add l2 1), (3, 0)] [] (fu (fu (fu F2 17 (F2 12 5) (F 10 7)) 18 (F2 12 5) 0) 12 5 (i_add (F2 12 5) 1)) v F')) ∧
            (n2 = 0 →
             v = (0, 0) ∧ F' = F2))))) := by
  have t := q_ok cv_318 ap_318 (hd := [(12, [1, 1, 1, 0])]) h rfl rfl
  exact t
-- TurnNet$Reader.readSum(I)Z
theorem c_Rd_readSum3 {a1 : Nat} {F : fx_F} {v : fx_V} {F' : fx_F} (h : Cl k_Rd_readSum3 [(2, 10), (0, a1)] F v F') : ∃ n, Rn n k_Rd_readSum3 0 [(2, 10), (0, a1), (3, 0), (3, 0)] [] F v F' := by
  obtain ⟨n, s, hs, h⟩ := h
  rw [sg_319] at hs
  cases hs
  exact ⟨n, h⟩
set_option maxRecDepth 40000 in
theorem q_Rd_readSum3_0 {n : Nat} {a1 : Nat} {F : fx_F} {v : fx_V} {F' : fx_F} (h : Rn n k_Rd_readSum3 0 [(2, 10), (0, a1), (3, 0), (3, 0)] [] F v F') :
  ∃ (n1 : Nat) (F1 : fx_F), Cl k_Rd_readProduct3 [(2, 10), (0, a1)] F (0, n1) F1 ∧
  (n1 ≠ 0 →
    ∃ m, m < n ∧ Rn m k_Rd_readSum3 12 [(2, 10), (0, a1), (0, 0), (3, 0)] [] F1 v F') ∧
   (n1 = 0 →
    v = (0, 0) ∧ F' = F1) := by
  have t := q_ok cv_319 ap_319 (hd := [(12, [1, 1, 1, 0])]) h rfl rfl
  exact t
set_option maxRecDepth 40000 in
theorem q_Rd_readSum3_12 {n : Nat} {l1 l2 : Nat} {F : fx_F} {v : fx_V} {F' : fx_F} (h : Rn n k_Rd_readSum3 12 [(2, 10), (0, l1), (0, l2), (3, 0)] [] F v F') :
  (s_le 800 l2 →
   v = (0, 1) ∧ F' = F) ∧
  (s_lt l2 800 →
   ((F 10 7) = 43 →
     ∃ F1 : fx_F, Cl k_Rd_advance [(2, 10)] F (2, 0) F1 ∧
      ∃ (n2 : Nat) (F2 : fx_F), Cl k_Rd_readProduct3 [(2, 10), (0, l1)] F1 (0, n2) F2 ∧
       (n2 ≠ 0 →
         (s_le 80 (F2 12 5) →
           ∃ m, m < n ∧ Rn m k_Rd_readSum3 12 [(2, 10), (0, l1), (0, i_add l2 1), (3, 0)] [] F2 v F') ∧
          (s_lt (F2 12 5) 80 →
           ∃ m, m < n ∧ Rn m k_Rd_readSum3 12 [(2, 10), (0, l1), (0, i_add l2 1), (3, 0)] [] (fu (fu (fu F2 17 (F2 12 5) (F 10 7)) 18 (F2 12 5) 0) 12 5 (i_add (F2 12 5) 1)) v F')) ∧
        (n2 = 0 →
         v = (0, 0) ∧ F' = F2)) ∧
    ((F 10 7) ≠ 43 →
     ((F 10 7) ≠ 45 →
       v = (0, 1) ∧ F' = F) ∧
      ((F 10 7) = 45 →
       ∃ F1 : fx_F, Cl k_Rd_advance [(2, 10)] F (2, 0) F1 ∧
        ∃ (n2 : Nat) (F2 : fx_F), Cl k_Rd_readProduct3 [(2, 10), (0, l1)] F1 (0, n2) F2 ∧
         (n2 ≠ 0 →
           (s_le 80 (F2 12 5) →
             ∃ m, m < n ∧ Rn m k_Rd_readSum3 12 [(2, 10), (0, l1), (0, i_add l2 1), (3, 0)] [] F2 v F') ∧
            (s_lt (F2 12 5) 80 →
             ∃ m, m < n ∧ Rn m k_Rd_readSum3 12 [(2, 10), (0, l1), (0, i_add l2 1), (3, 0)] [] (fu (fu (fu F2 17 (F2 12 5) (F 10 7)) 18 (F2 12 5) 0) 12 5 (i_add (F2 12 5) 1)) v F')) ∧
          (n2 = 0 →
           v = (0, 0) ∧ F' = F2)))) := by
  have t := q_ok cv_319 ap_319 (hd := [(12, [1, 1, 1, 0])]) h rfl rfl
  exact t
-- TurnNet$Reader.readUnit(I)Z
theorem c_Rd_readUnit2 {a1 : Nat} {F : fx_F} {v : fx_V} {F' : fx_F} (h : Cl k_Rd_readUnit2 [(2, 10), (0, a1)] F v F') : ∃ n, Rn n k_Rd_readUnit2 0 [(2, 10), (0, a1), (3, 0), (3, 0)] [] F v F' := by
  obtain ⟨n, s, hs, h⟩ := h
  rw [sg_320] at hs
  cases hs
  exact ⟨n, h⟩
set_option maxRecDepth 40000 in
theorem q_Rd_readUnit2_0 {n : Nat} {a1 : Nat} {F : fx_F} {v : fx_V} {F' : fx_F} (h : Rn n k_Rd_readUnit2 0 [(2, 10), (0, a1), (3, 0), (3, 0)] [] F v F') :
  ∃ (n1 : Nat) (F1 : fx_F), Cl k_Rd_unitKind [(2, 10)] F (0, n1) F1 ∧
  (n1 ≠ 0 →
    (n1 ≠ 1 →
      (s_le 40 (F1 12 4) →
        ∃ (n2 : Nat) (F2 : fx_F), Cl k_Rd_fail [(2, 10), (0, 4)] F1 (0, n2) F2 ∧
         v = (0, n2) ∧ F' = F2) ∧
       (s_lt (F1 12 4) 40 →
        (s_le a1 5 →
          ∃ F2 : fx_F, Cl k_Rd_advance [(2, 10)] (fu F1 12 4 (i_add (F1 12 4) 1)) (2, 0) F2 ∧
           (n1 ≠ 40 →
             (n1 ≠ 5 →
               (s_le 80 (F2 12 5) →
                 v = (0, 1) ∧ F' = F2) ∧
                (s_lt (F2 12 5) 80 →
                 v = (0, 1) ∧ F' = (fu (fu (fu F2 17 (F2 12 5) n1) 18 (F2 12 5) (F1 10 8)) 12 5 (i_add (F2 12 5) 1)))) ∧
              (n1 = 5 →
               ∃ (n3 : Nat) (F3 : fx_F), Cl k_Rd_readUnit3 [(2, 10), (0, i_add a1 1)] F2 (0, n3) F3 ∧
                (n3 ≠ 0 →
                  (s_le 80 (F3 12 5) →
                    v = (0, 1) ∧ F' = F3) ∧
                   (s_lt (F3 12 5) 80 →
                    v = (0, 1) ∧ F' = (fu (fu (fu F3 17 (F3 12 5) n1) 18 (F3 12 5) (F1 10 8)) 12 5 (i_add (F3 12 5) 1)))) ∧
                 (n3 = 0 →
                  v = (0, 0) ∧ F' = F3))) ∧
            (n1 = 40 →
             ∃ (n3 : Nat) (F3 : fx_F), Cl k_Rd_readSum3 [(2, 10), (0, i_add a1 1)] F2 (0, n3) F3 ∧
              (n3 = 0 →
                v = (0, 0) ∧ F' = F3) ∧
               (n3 ≠ 0 →
                ∃ (n4 : Nat) (F4 : fx_F), Cl k_Rd_readSign [(2, 10), (0, 41)] F3 (0, n4) F4 ∧
                 (n4 = 0 →
                   v = (0, 0) ∧ F' = F4) ∧
                  (n4 ≠ 0 →
                   v = (0, 1) ∧ F' = F4)))) ∧
         (s_lt 5 a1 →
          ∃ (n2 : Nat) (F2 : fx_F), Cl k_Rd_fail [(2, 10), (0, 4)] F1 (0, n2) F2 ∧
           v = (0, n2) ∧ F' = F2))) ∧
     (n1 = 1 →
      (s_le (F1 10 8) 999 →
        (s_le 40 (F1 12 4) →
          ∃ (n2 : Nat) (F2 : fx_F), Cl k_Rd_fail [(2, 10), (0, 4)] F1 (0, n2) F2 ∧
           v = (0, n2) ∧ F' = F2) ∧
         (s_lt (F1 12 4) 40 →
          (s_le a1 5 →
            ∃ F2 : fx_F, Cl k_Rd_advance [(2, 10)] (fu F1 12 4 (i_add (F1 12 4) 1)) (2, 0) F2 ∧
             (n1 ≠ 40 →
               (n1 ≠ 5 →
                 (s_le 80 (F2 12 5) →
                   v = (0, 1) ∧ F' = F2) ∧
                  (s_lt (F2 12 5) 80 →
                   v = (0, 1) ∧ F' = (fu (fu (fu F2 17 (F2 12 5) n1) 18 (F2 12 5) (F1 10 8)) 12 5 (i_add (F2 12 5) 1)))) ∧
                (n1 = 5 →
                 ∃ (n3 : Nat) (F3 : fx_F), Cl k_Rd_readUnit3 [(2, 10), (0, i_add a1 1)] F2 (0, n3) F3 ∧
                  (n3 ≠ 0 →
                    (s_le 80 (F3 12 5) →
                      v = (0, 1) ∧ F' = F3) ∧
                     (s_lt (F3 12 5) 80 →
                      v = (0, 1) ∧ F' = (fu (fu (fu F3 17 (F3 12 5) n1) 18 (F3 12 5) (F1 10 8)) 12 5 (i_add (F3 12 5) 1)))) ∧
                   (n3 = 0 →
                    v = (0, 0) ∧ F' = F3))) ∧
              (n1 = 40 →
               ∃ (n3 : Nat) (F3 : fx_F), Cl k_Rd_readSum3 [(2, 10), (0, i_add a1 1)] F2 (0, n3) F3 ∧
                (n3 = 0 →
                  v = (0, 0) ∧ F' = F3) ∧
                 (n3 ≠ 0 →
                  ∃ (n4 : Nat) (F4 : fx_F), Cl k_Rd_readSign [(2, 10), (0, 41)] F3 (0, n4) F4 ∧
                   (n4 = 0 →
                     v = (0, 0) ∧ F' = F4) ∧
                    (n4 ≠ 0 →
                     v = (0, 1) ∧ F' = F4)))) ∧
           (s_lt 5 a1 →
            ∃ (n2 : Nat) (F2 : fx_F), Cl k_Rd_fail [(2, 10), (0, 4)] F1 (0, n2) F2 ∧
             v = (0, n2) ∧ F' = F2))) ∧
       (s_lt 999 (F1 10 8) →
        ∃ (n2 : Nat) (F2 : fx_F), Cl k_Rd_fail [(2, 10), (0, 2)] F1 (0, n2) F2 ∧
         v = (0, n2) ∧ F' = F2))) ∧
   (n1 = 0 →
    ∃ (n2 : Nat) (F2 : fx_F), Cl k_Rd_fail [(2, 10), (0, 1)] F1 (0, n2) F2 ∧
     v = (0, n2) ∧ F' = F2) := by
  have t := q_ok cv_320 ap_320 (hd := []) h rfl rfl
  exact t
-- TurnNet$Reader.readProduct(I)Z
theorem c_Rd_readProduct2 {a1 : Nat} {F : fx_F} {v : fx_V} {F' : fx_F} (h : Cl k_Rd_readProduct2 [(2, 10), (0, a1)] F v F') : ∃ n, Rn n k_Rd_readProduct2 0 [(2, 10), (0, a1), (3, 0), (3, 0)] [] F v F' := by
  obtain ⟨n, s, hs, h⟩ := h
  rw [sg_321] at hs
  cases hs
  exact ⟨n, h⟩
set_option maxRecDepth 40000 in
theorem q_Rd_readProduct2_0 {n : Nat} {a1 : Nat} {F : fx_F} {v : fx_V} {F' : fx_F} (h : Rn n k_Rd_readProduct2 0 [(2, 10), (0, a1), (3, 0), (3, 0)] [] F v F') :
  ∃ (n1 : Nat) (F1 : fx_F), Cl k_Rd_readUnit2 [(2, 10), (0, a1)] F (0, n1) F1 ∧
  (n1 ≠ 0 →
    ∃ m, m < n ∧ Rn m k_Rd_readProduct2 12 [(2, 10), (0, a1), (0, 0), (3, 0)] [] F1 v F') ∧
   (n1 = 0 →
    v = (0, 0) ∧ F' = F1) := by
  have t := q_ok cv_321 ap_321 (hd := [(12, [1, 1, 1, 0])]) h rfl rfl
  exact t
set_option maxRecDepth 40000 in
theorem q_Rd_readProduct2_12 {n : Nat} {l1 l2 : Nat} {F : fx_F} {v : fx_V} {F' : fx_F} (h : Rn n k_Rd_readProduct2 12 [(2, 10), (0, l1), (0, l2), (3, 0)] [] F v F') :
  (s_le 800 l2 →
   v = (0, 1) ∧ F' = F) ∧
  (s_lt l2 800 →
   ((F 10 7) = 42 →
     ∃ F1 : fx_F, Cl k_Rd_advance [(2, 10)] F (2, 0) F1 ∧
      ∃ (n2 : Nat) (F2 : fx_F), Cl k_Rd_readUnit2 [(2, 10), (0, l1)] F1 (0, n2) F2 ∧
       (n2 ≠ 0 →
         (s_le 80 (F2 12 5) →
           ∃ m, m < n ∧ Rn m k_Rd_readProduct2 12 [(2, 10), (0, l1), (0, i_add l2 1), (3, 0)] [] F2 v F') ∧
          (s_lt (F2 12 5) 80 →
           ∃ m, m < n ∧ Rn m k_Rd_readProduct2 12 [(2, 10), (0, l1), (0, i_add l2 1), (3, 0)] [] (fu (fu (fu F2 17 (F2 12 5) (F 10 7)) 18 (F2 12 5) 0) 12 5 (i_add (F2 12 5) 1)) v F')) ∧
        (n2 = 0 →
         v = (0, 0) ∧ F' = F2)) ∧
    ((F 10 7) ≠ 42 →
     ((F 10 7) = 47 →
       ∃ F1 : fx_F, Cl k_Rd_advance [(2, 10)] F (2, 0) F1 ∧
        ∃ (n2 : Nat) (F2 : fx_F), Cl k_Rd_readUnit2 [(2, 10), (0, l1)] F1 (0, n2) F2 ∧
         (n2 ≠ 0 →
           (s_le 80 (F2 12 5) →
             ∃ m, m < n ∧ Rn m k_Rd_readProduct2 12 [(2, 10), (0, l1), (0, i_add l2 1), (3, 0)] [] F2 v F') ∧
            (s_lt (F2 12 5) 80 →
             ∃ m, m < n ∧ Rn m k_Rd_readProduct2 12 [(2, 10), (0, l1), (0, i_add l2 1), (3, 0)] [] (fu (fu (fu F2 17 (F2 12 5) (F 10 7)) 18 (F2 12 5) 0) 12 5 (i_add (F2 12 5) 1)) v F')) ∧
          (n2 = 0 →
           v = (0, 0) ∧ F' = F2)) ∧
      ((F 10 7) ≠ 47 →
       ((F 10 7) ≠ 37 →
         v = (0, 1) ∧ F' = F) ∧
        ((F 10 7) = 37 →
         ∃ F1 : fx_F, Cl k_Rd_advance [(2, 10)] F (2, 0) F1 ∧
          ∃ (n2 : Nat) (F2 : fx_F), Cl k_Rd_readUnit2 [(2, 10), (0, l1)] F1 (0, n2) F2 ∧
           (n2 ≠ 0 →
             (s_le 80 (F2 12 5) →
               ∃ m, m < n ∧ Rn m k_Rd_readProduct2 12 [(2, 10), (0, l1), (0, i_add l2 1), (3, 0)] [] F2 v F') ∧
              (s_lt (F2 12 5) 80 →
               ∃ m, m < n ∧ Rn m k_Rd_readProduct2 12 [(2, 10), (0, l1), (0, i_add l2 1), (3, 0)] [] (fu (fu (fu F2 17 (F2 12 5) (F 10 7)) 18 (F2 12 5) 0) 12 5 (i_add (F2 12 5) 1)) v F')) ∧
            (n2 = 0 →
             v = (0, 0) ∧ F' = F2))))) := by
  have t := q_ok cv_321 ap_321 (hd := [(12, [1, 1, 1, 0])]) h rfl rfl
  exact t
-- TurnNet$Reader.readSum(I)Z
theorem c_Rd_readSum2 {a1 : Nat} {F : fx_F} {v : fx_V} {F' : fx_F} (h : Cl k_Rd_readSum2 [(2, 10), (0, a1)] F v F') : ∃ n, Rn n k_Rd_readSum2 0 [(2, 10), (0, a1), (3, 0), (3, 0)] [] F v F' := by
  obtain ⟨n, s, hs, h⟩ := h
  rw [sg_322] at hs
  cases hs
  exact ⟨n, h⟩
set_option maxRecDepth 40000 in
theorem q_Rd_readSum2_0 {n : Nat} {a1 : Nat} {F : fx_F} {v : fx_V} {F' : fx_F} (h : Rn n k_Rd_readSum2 0 [(2, 10), (0, a1), (3, 0), (3, 0)] [] F v F') :
  ∃ (n1 : Nat) (F1 : fx_F), Cl k_Rd_readProduct2 [(2, 10), (0, a1)] F (0, n1) F1 ∧
  (n1 ≠ 0 →
    ∃ m, m < n ∧ Rn m k_Rd_readSum2 12 [(2, 10), (0, a1), (0, 0), (3, 0)] [] F1 v F') ∧
   (n1 = 0 →
    v = (0, 0) ∧ F' = F1) := by
  have t := q_ok cv_322 ap_322 (hd := [(12, [1, 1, 1, 0])]) h rfl rfl
  exact t
set_option maxRecDepth 40000 in
theorem q_Rd_readSum2_12 {n : Nat} {l1 l2 : Nat} {F : fx_F} {v : fx_V} {F' : fx_F} (h : Rn n k_Rd_readSum2 12 [(2, 10), (0, l1), (0, l2), (3, 0)] [] F v F') :
  (s_le 800 l2 →
   v = (0, 1) ∧ F' = F) ∧
  (s_lt l2 800 →
   ((F 10 7) = 43 →
     ∃ F1 : fx_F, Cl k_Rd_advance [(2, 10)] F (2, 0) F1 ∧
      ∃ (n2 : Nat) (F2 : fx_F), Cl k_Rd_readProduct2 [(2, 10), (0, l1)] F1 (0, n2) F2 ∧
       (n2 ≠ 0 →
         (s_le 80 (F2 12 5) →
           ∃ m, m < n ∧ Rn m k_Rd_readSum2 12 [(2, 10), (0, l1), (0, i_add l2 1), (3, 0)] [] F2 v F') ∧
          (s_lt (F2 12 5) 80 →
           ∃ m, m < n ∧ Rn m k_Rd_readSum2 12 [(2, 10), (0, l1), (0, i_add l2 1), (3, 0)] [] (fu (fu (fu F2 17 (F2 12 5) (F 10 7)) 18 (F2 12 5) 0) 12 5 (i_add (F2 12 5) 1)) v F')) ∧
        (n2 = 0 →
         v = (0, 0) ∧ F' = F2)) ∧
    ((F 10 7) ≠ 43 →
     ((F 10 7) ≠ 45 →
       v = (0, 1) ∧ F' = F) ∧
      ((F 10 7) = 45 →
       ∃ F1 : fx_F, Cl k_Rd_advance [(2, 10)] F (2, 0) F1 ∧
        ∃ (n2 : Nat) (F2 : fx_F), Cl k_Rd_readProduct2 [(2, 10), (0, l1)] F1 (0, n2) F2 ∧
         (n2 ≠ 0 →
           (s_le 80 (F2 12 5) →
             ∃ m, m < n ∧ Rn m k_Rd_readSum2 12 [(2, 10), (0, l1), (0, i_add l2 1), (3, 0)] [] F2 v F') ∧
            (s_lt (F2 12 5) 80 →
             ∃ m, m < n ∧ Rn m k_Rd_readSum2 12 [(2, 10), (0, l1), (0, i_add l2 1), (3, 0)] [] (fu (fu (fu F2 17 (F2 12 5) (F 10 7)) 18 (F2 12 5) 0) 12 5 (i_add (F2 12 5) 1)) v F')) ∧
          (n2 = 0 →
           v = (0, 0) ∧ F' = F2)))) := by
  have t := q_ok cv_322 ap_322 (hd := [(12, [1, 1, 1, 0])]) h rfl rfl
  exact t
-- TurnNet$Reader.readUnit(I)Z
theorem c_Rd_readUnit1 {a1 : Nat} {F : fx_F} {v : fx_V} {F' : fx_F} (h : Cl k_Rd_readUnit1 [(2, 10), (0, a1)] F v F') : ∃ n, Rn n k_Rd_readUnit1 0 [(2, 10), (0, a1), (3, 0), (3, 0)] [] F v F' := by
  obtain ⟨n, s, hs, h⟩ := h
  rw [sg_323] at hs
  cases hs
  exact ⟨n, h⟩
set_option maxRecDepth 40000 in
theorem q_Rd_readUnit1_0 {n : Nat} {a1 : Nat} {F : fx_F} {v : fx_V} {F' : fx_F} (h : Rn n k_Rd_readUnit1 0 [(2, 10), (0, a1), (3, 0), (3, 0)] [] F v F') :
  ∃ (n1 : Nat) (F1 : fx_F), Cl k_Rd_unitKind [(2, 10)] F (0, n1) F1 ∧
  (n1 ≠ 0 →
    (n1 ≠ 1 →
      (s_le 40 (F1 12 4) →
        ∃ (n2 : Nat) (F2 : fx_F), Cl k_Rd_fail [(2, 10), (0, 4)] F1 (0, n2) F2 ∧
         v = (0, n2) ∧ F' = F2) ∧
       (s_lt (F1 12 4) 40 →
        (s_le a1 5 →
          ∃ F2 : fx_F, Cl k_Rd_advance [(2, 10)] (fu F1 12 4 (i_add (F1 12 4) 1)) (2, 0) F2 ∧
           (n1 ≠ 40 →
             (n1 ≠ 5 →
               (s_le 80 (F2 12 5) →
                 v = (0, 1) ∧ F' = F2) ∧
                (s_lt (F2 12 5) 80 →
                 v = (0, 1) ∧ F' = (fu (fu (fu F2 17 (F2 12 5) n1) 18 (F2 12 5) (F1 10 8)) 12 5 (i_add (F2 12 5) 1)))) ∧
              (n1 = 5 →
               ∃ (n3 : Nat) (F3 : fx_F), Cl k_Rd_readUnit2 [(2, 10), (0, i_add a1 1)] F2 (0, n3) F3 ∧
                (n3 ≠ 0 →
                  (s_le 80 (F3 12 5) →
                    v = (0, 1) ∧ F' = F3) ∧
                   (s_lt (F3 12 5) 80 →
                    v = (0, 1) ∧ F' = (fu (fu (fu F3 17 (F3 12 5) n1) 18 (F3 12 5) (F1 10 8)) 12 5 (i_add (F3 12 5) 1)))) ∧
                 (n3 = 0 →
                  v = (0, 0) ∧ F' = F3))) ∧
            (n1 = 40 →
             ∃ (n3 : Nat) (F3 : fx_F), Cl k_Rd_readSum2 [(2, 10), (0, i_add a1 1)] F2 (0, n3) F3 ∧
              (n3 = 0 →
                v = (0, 0) ∧ F' = F3) ∧
               (n3 ≠ 0 →
                ∃ (n4 : Nat) (F4 : fx_F), Cl k_Rd_readSign [(2, 10), (0, 41)] F3 (0, n4) F4 ∧
                 (n4 = 0 →
                   v = (0, 0) ∧ F' = F4) ∧
                  (n4 ≠ 0 →
                   v = (0, 1) ∧ F' = F4)))) ∧
         (s_lt 5 a1 →
          ∃ (n2 : Nat) (F2 : fx_F), Cl k_Rd_fail [(2, 10), (0, 4)] F1 (0, n2) F2 ∧
           v = (0, n2) ∧ F' = F2))) ∧
     (n1 = 1 →
      (s_le (F1 10 8) 999 →
        (s_le 40 (F1 12 4) →
          ∃ (n2 : Nat) (F2 : fx_F), Cl k_Rd_fail [(2, 10), (0, 4)] F1 (0, n2) F2 ∧
           v = (0, n2) ∧ F' = F2) ∧
         (s_lt (F1 12 4) 40 →
          (s_le a1 5 →
            ∃ F2 : fx_F, Cl k_Rd_advance [(2, 10)] (fu F1 12 4 (i_add (F1 12 4) 1)) (2, 0) F2 ∧
             (n1 ≠ 40 →
               (n1 ≠ 5 →
                 (s_le 80 (F2 12 5) →
                   v = (0, 1) ∧ F' = F2) ∧
                  (s_lt (F2 12 5) 80 →
                   v = (0, 1) ∧ F' = (fu (fu (fu F2 17 (F2 12 5) n1) 18 (F2 12 5) (F1 10 8)) 12 5 (i_add (F2 12 5) 1)))) ∧
                (n1 = 5 →
                 ∃ (n3 : Nat) (F3 : fx_F), Cl k_Rd_readUnit2 [(2, 10), (0, i_add a1 1)] F2 (0, n3) F3 ∧
                  (n3 ≠ 0 →
                    (s_le 80 (F3 12 5) →
                      v = (0, 1) ∧ F' = F3) ∧
                     (s_lt (F3 12 5) 80 →
                      v = (0, 1) ∧ F' = (fu (fu (fu F3 17 (F3 12 5) n1) 18 (F3 12 5) (F1 10 8)) 12 5 (i_add (F3 12 5) 1)))) ∧
                   (n3 = 0 →
                    v = (0, 0) ∧ F' = F3))) ∧
              (n1 = 40 →
               ∃ (n3 : Nat) (F3 : fx_F), Cl k_Rd_readSum2 [(2, 10), (0, i_add a1 1)] F2 (0, n3) F3 ∧
                (n3 = 0 →
                  v = (0, 0) ∧ F' = F3) ∧
                 (n3 ≠ 0 →
                  ∃ (n4 : Nat) (F4 : fx_F), Cl k_Rd_readSign [(2, 10), (0, 41)] F3 (0, n4) F4 ∧
                   (n4 = 0 →
                     v = (0, 0) ∧ F' = F4) ∧
                    (n4 ≠ 0 →
                     v = (0, 1) ∧ F' = F4)))) ∧
           (s_lt 5 a1 →
            ∃ (n2 : Nat) (F2 : fx_F), Cl k_Rd_fail [(2, 10), (0, 4)] F1 (0, n2) F2 ∧
             v = (0, n2) ∧ F' = F2))) ∧
       (s_lt 999 (F1 10 8) →
        ∃ (n2 : Nat) (F2 : fx_F), Cl k_Rd_fail [(2, 10), (0, 2)] F1 (0, n2) F2 ∧
         v = (0, n2) ∧ F' = F2))) ∧
   (n1 = 0 →
    ∃ (n2 : Nat) (F2 : fx_F), Cl k_Rd_fail [(2, 10), (0, 1)] F1 (0, n2) F2 ∧
     v = (0, n2) ∧ F' = F2) := by
  have t := q_ok cv_323 ap_323 (hd := []) h rfl rfl
  exact t
-- TurnNet$Reader.readProduct(I)Z
theorem c_Rd_readProduct1 {a1 : Nat} {F : fx_F} {v : fx_V} {F' : fx_F} (h : Cl k_Rd_readProduct1 [(2, 10), (0, a1)] F v F') : ∃ n, Rn n k_Rd_readProduct1 0 [(2, 10), (0, a1), (3, 0), (3, 0)] [] F v F' := by
  obtain ⟨n, s, hs, h⟩ := h
  rw [sg_324] at hs
  cases hs
  exact ⟨n, h⟩
set_option maxRecDepth 40000 in
theorem q_Rd_readProduct1_0 {n : Nat} {a1 : Nat} {F : fx_F} {v : fx_V} {F' : fx_F} (h : Rn n k_Rd_readProduct1 0 [(2, 10), (0, a1), (3, 0), (3, 0)] [] F v F') :
  ∃ (n1 : Nat) (F1 : fx_F), Cl k_Rd_readUnit1 [(2, 10), (0, a1)] F (0, n1) F1 ∧
  (n1 ≠ 0 →
    ∃ m, m < n ∧ Rn m k_Rd_readProduct1 12 [(2, 10), (0, a1), (0, 0), (3, 0)] [] F1 v F') ∧
   (n1 = 0 →
    v = (0, 0) ∧ F' = F1) := by
  have t := q_ok cv_324 ap_324 (hd := [(12, [1, 1, 1, 0])]) h rfl rfl
  exact t
set_option maxRecDepth 40000 in
theorem q_Rd_readProduct1_12 {n : Nat} {l1 l2 : Nat} {F : fx_F} {v : fx_V} {F' : fx_F} (h : Rn n k_Rd_readProduct1 12 [(2, 10), (0, l1), (0, l2), (3, 0)] [] F v F') :
  (s_le 800 l2 →
   v = (0, 1) ∧ F' = F) ∧
  (s_lt l2 800 →
   ((F 10 7) = 42 →
     ∃ F1 : fx_F, Cl k_Rd_advance [(2, 10)] F (2, 0) F1 ∧
      ∃ (n2 : Nat) (F2 : fx_F), Cl k_Rd_readUnit1 [(2, 10), (0, l1)] F1 (0, n2) F2 ∧
       (n2 ≠ 0 →
         (s_le 80 (F2 12 5) →
           ∃ m, m < n ∧ Rn m k_Rd_readProduct1 12 [(2, 10), (0, l1), (0, i_add l2 1), (3, 0)] [] F2 v F') ∧
          (s_lt (F2 12 5) 80 →
           ∃ m, m < n ∧ Rn m k_Rd_readProduct1 12 [(2, 10), (0, l1), (0, i_add l2 1), (3, 0)] [] (fu (fu (fu F2 17 (F2 12 5) (F 10 7)) 18 (F2 12 5) 0) 12 5 (i_add (F2 12 5) 1)) v F')) ∧
        (n2 = 0 →
         v = (0, 0) ∧ F' = F2)) ∧
    ((F 10 7) ≠ 42 →
     ((F 10 7) = 47 →
       ∃ F1 : fx_F, Cl k_Rd_advance [(2, 10)] F (2, 0) F1 ∧
        ∃ (n2 : Nat) (F2 : fx_F), Cl k_Rd_readUnit1 [(2, 10), (0, l1)] F1 (0, n2) F2 ∧
         (n2 ≠ 0 →
           (s_le 80 (F2 12 5) →
             ∃ m, m < n ∧ Rn m k_Rd_readProduct1 12 [(2, 10), (0, l1), (0, i_add l2 1), (3, 0)] [] F2 v F') ∧
            (s_lt (F2 12 5) 80 →
             ∃ m, m < n ∧ Rn m k_Rd_readProduct1 12 [(2, 10), (0, l1), (0, i_add l2 1), (3, 0)] [] (fu (fu (fu F2 17 (F2 12 5) (F 10 7)) 18 (F2 12 5) 0) 12 5 (i_add (F2 12 5) 1)) v F')) ∧
          (n2 = 0 →
           v = (0, 0) ∧ F' = F2)) ∧
      ((F 10 7) ≠ 47 →
       ((F 10 7) ≠ 37 →
         v = (0, 1) ∧ F' = F) ∧
        ((F 10 7) = 37 →
         ∃ F1 : fx_F, Cl k_Rd_advance [(2, 10)] F (2, 0) F1 ∧
          ∃ (n2 : Nat) (F2 : fx_F), Cl k_Rd_readUnit1 [(2, 10), (0, l1)] F1 (0, n2) F2 ∧
           (n2 ≠ 0 →
             (s_le 80 (F2 12 5) →
               ∃ m, m < n ∧ Rn m k_Rd_readProduct1 12 [(2, 10), (0, l1), (0, i_add l2 1), (3, 0)] [] F2 v F') ∧
              (s_lt (F2 12 5) 80 →
               ∃ m, m < n ∧ Rn m k_Rd_readProduct1 12 [(2, 10), (0, l1), (0, i_add l2 1), (3, 0)] [] (fu (fu (fu F2 17 (F2 12 5) (F 10 7)) 18 (F2 12 5) 0) 12 5 (i_add (F2 12 5) 1)) v F')) ∧
            (n2 = 0 →
             v = (0, 0) ∧ F' = F2))))) := by
  have t := q_ok cv_324 ap_324 (hd := [(12, [1, 1, 1, 0])]) h rfl rfl
  exact t
end
section
-- TurnNet$Reader.readSum(I)Z
theorem c_Rd_readSum1 {a1 : Nat} {F : fx_F} {v : fx_V} {F' : fx_F} (h : Cl k_Rd_readSum1 [(2, 10), (0, a1)] F v F') : ∃ n, Rn n k_Rd_readSum1 0 [(2, 10), (0, a1), (3, 0), (3, 0)] [] F v F' := by
  obtain ⟨n, s, hs, h⟩ := h
  rw [sg_325] at hs
  cases hs
  exact ⟨n, h⟩
set_option maxRecDepth 40000 in
theorem q_Rd_readSum1_0 {n : Nat} {a1 : Nat} {F : fx_F} {v : fx_V} {F' : fx_F} (h : Rn n k_Rd_readSum1 0 [(2, 10), (0, a1), (3, 0), (3, 0)] [] F v F') :
  ∃ (n1 : Nat) (F1 : fx_F), Cl k_Rd_readProduct1 [(2, 10), (0, a1)] F (0, n1) F1 ∧
  (n1 ≠ 0 →
    ∃ m, m < n ∧ Rn m k_Rd_readSum1 12 [(2, 10), (0, a1), (0, 0), (3, 0)] [] F1 v F') ∧
   (n1 = 0 →
    v = (0, 0) ∧ F' = F1) := by
  have t := q_ok cv_325 ap_325 (hd := [(12, [1, 1, 1, 0])]) h rfl rfl
  exact t
set_option maxRecDepth 40000 in
theorem q_Rd_readSum1_12 {n : Nat} {l1 l2 : Nat} {F : fx_F} {v : fx_V} {F' : fx_F} (h : Rn n k_Rd_readSum1 12 [(2, 10), (0, l1), (0, l2), (3, 0)] [] F v F') :
  (s_le 800 l2 →
   v = (0, 1) ∧ F' = F) ∧
  (s_lt l2 800 →
   ((F 10 7) = 43 →
     ∃ F1 : fx_F, Cl k_Rd_advance [(2, 10)] F (2, 0) F1 ∧
      ∃ (n2 : Nat) (F2 : fx_F), Cl k_Rd_readProduct1 [(2, 10), (0, l1)] F1 (0, n2) F2 ∧
       (n2 ≠ 0 →
         (s_le 80 (F2 12 5) →
           ∃ m, m < n ∧ Rn m k_Rd_readSum1 12 [(2, 10), (0, l1), (0, i_add l2 1), (3, 0)] [] F2 v F') ∧
          (s_lt (F2 12 5) 80 →
           ∃ m, m < n ∧ Rn m k_Rd_readSum1 12 [(2, 10), (0, l1), (0, i_add l2 1), (3, 0)] [] (fu (fu (fu F2 17 (F2 12 5) (F 10 7)) 18 (F2 12 5) 0) 12 5 (i_add (F2 12 5) 1)) v F')) ∧
        (n2 = 0 →
         v = (0, 0) ∧ F' = F2)) ∧
    ((F 10 7) ≠ 43 →
     ((F 10 7) ≠ 45 →
       v = (0, 1) ∧ F' = F) ∧
      ((F 10 7) = 45 →
       ∃ F1 : fx_F, Cl k_Rd_advance [(2, 10)] F (2, 0) F1 ∧
        ∃ (n2 : Nat) (F2 : fx_F), Cl k_Rd_readProduct1 [(2, 10), (0, l1)] F1 (0, n2) F2 ∧
         (n2 ≠ 0 →
           (s_le 80 (F2 12 5) →
             ∃ m, m < n ∧ Rn m k_Rd_readSum1 12 [(2, 10), (0, l1), (0, i_add l2 1), (3, 0)] [] F2 v F') ∧
            (s_lt (F2 12 5) 80 →
             ∃ m, m < n ∧ Rn m k_Rd_readSum1 12 [(2, 10), (0, l1), (0, i_add l2 1), (3, 0)] [] (fu (fu (fu F2 17 (F2 12 5) (F 10 7)) 18 (F2 12 5) 0) 12 5 (i_add (F2 12 5) 1)) v F')) ∧
          (n2 = 0 →
           v = (0, 0) ∧ F' = F2)))) := by
  have t := q_ok cv_325 ap_325 (hd := [(12, [1, 1, 1, 0])]) h rfl rfl
  exact t
-- TurnNet$Reader.readUnit(I)Z
theorem c_Rd_readUnit0 {a1 : Nat} {F : fx_F} {v : fx_V} {F' : fx_F} (h : Cl k_Rd_readUnit0 [(2, 10), (0, a1)] F v F') : ∃ n, Rn n k_Rd_readUnit0 0 [(2, 10), (0, a1), (3, 0), (3, 0)] [] F v F' := by
  obtain ⟨n, s, hs, h⟩ := h
  rw [sg_326] at hs
  cases hs
  exact ⟨n, h⟩
set_option maxRecDepth 40000 in
theorem q_Rd_readUnit0_0 {n : Nat} {a1 : Nat} {F : fx_F} {v : fx_V} {F' : fx_F} (h : Rn n k_Rd_readUnit0 0 [(2, 10), (0, a1), (3, 0), (3, 0)] [] F v F') :
  ∃ (n1 : Nat) (F1 : fx_F), Cl k_Rd_unitKind [(2, 10)] F (0, n1) F1 ∧
  (n1 ≠ 0 →
    (n1 ≠ 1 →
      (s_le 40 (F1 12 4) →
        ∃ (n2 : Nat) (F2 : fx_F), Cl k_Rd_fail [(2, 10), (0, 4)] F1 (0, n2) F2 ∧
         v = (0, n2) ∧ F' = F2) ∧
       (s_lt (F1 12 4) 40 →
        (s_le a1 5 →
          ∃ F2 : fx_F, Cl k_Rd_advance [(2, 10)] (fu F1 12 4 (i_add (F1 12 4) 1)) (2, 0) F2 ∧
           (n1 ≠ 40 →
             (n1 ≠ 5 →
               (s_le 80 (F2 12 5) →
                 v = (0, 1) ∧ F' = F2) ∧
                (s_lt (F2 12 5) 80 →
                 v = (0, 1) ∧ F' = (fu (fu (fu F2 17 (F2 12 5) n1) 18 (F2 12 5) (F1 10 8)) 12 5 (i_add (F2 12 5) 1)))) ∧
              (n1 = 5 →
               ∃ (n3 : Nat) (F3 : fx_F), Cl k_Rd_readUnit1 [(2, 10), (0, i_add a1 1)] F2 (0, n3) F3 ∧
                (n3 ≠ 0 →
                  (s_le 80 (F3 12 5) →
                    v = (0, 1) ∧ F' = F3) ∧
                   (s_lt (F3 12 5) 80 →
                    v = (0, 1) ∧ F' = (fu (fu (fu F3 17 (F3 12 5) n1) 18 (F3 12 5) (F1 10 8)) 12 5 (i_add (F3 12 5) 1)))) ∧
                 (n3 = 0 →
                  v = (0, 0) ∧ F' = F3))) ∧
            (n1 = 40 →
             ∃ (n3 : Nat) (F3 : fx_F), Cl k_Rd_readSum1 [(2, 10), (0, i_add a1 1)] F2 (0, n3) F3 ∧
              (n3 = 0 →
                v = (0, 0) ∧ F' = F3) ∧
               (n3 ≠ 0 →
                ∃ (n4 : Nat) (F4 : fx_F), Cl k_Rd_readSign [(2, 10), (0, 41)] F3 (0, n4) F4 ∧
                 (n4 = 0 →
                   v = (0, 0) ∧ F' = F4) ∧
                  (n4 ≠ 0 →
                   v = (0, 1) ∧ F' = F4)))) ∧
         (s_lt 5 a1 →
          ∃ (n2 : Nat) (F2 : fx_F), Cl k_Rd_fail [(2, 10), (0, 4)] F1 (0, n2) F2 ∧
           v = (0, n2) ∧ F' = F2))) ∧
     (n1 = 1 →
      (s_le (F1 10 8) 999 →
        (s_le 40 (F1 12 4) →
          ∃ (n2 : Nat) (F2 : fx_F), Cl k_Rd_fail [(2, 10), (0, 4)] F1 (0, n2) F2 ∧
           v = (0, n2) ∧ F' = F2) ∧
         (s_lt (F1 12 4) 40 →
          (s_le a1 5 →
            ∃ F2 : fx_F, Cl k_Rd_advance [(2, 10)] (fu F1 12 4 (i_add (F1 12 4) 1)) (2, 0) F2 ∧
             (n1 ≠ 40 →
               (n1 ≠ 5 →
                 (s_le 80 (F2 12 5) →
                   v = (0, 1) ∧ F' = F2) ∧
                  (s_lt (F2 12 5) 80 →
                   v = (0, 1) ∧ F' = (fu (fu (fu F2 17 (F2 12 5) n1) 18 (F2 12 5) (F1 10 8)) 12 5 (i_add (F2 12 5) 1)))) ∧
                (n1 = 5 →
                 ∃ (n3 : Nat) (F3 : fx_F), Cl k_Rd_readUnit1 [(2, 10), (0, i_add a1 1)] F2 (0, n3) F3 ∧
                  (n3 ≠ 0 →
                    (s_le 80 (F3 12 5) →
                      v = (0, 1) ∧ F' = F3) ∧
                     (s_lt (F3 12 5) 80 →
                      v = (0, 1) ∧ F' = (fu (fu (fu F3 17 (F3 12 5) n1) 18 (F3 12 5) (F1 10 8)) 12 5 (i_add (F3 12 5) 1)))) ∧
                   (n3 = 0 →
                    v = (0, 0) ∧ F' = F3))) ∧
              (n1 = 40 →
               ∃ (n3 : Nat) (F3 : fx_F), Cl k_Rd_readSum1 [(2, 10), (0, i_add a1 1)] F2 (0, n3) F3 ∧
                (n3 = 0 →
                  v = (0, 0) ∧ F' = F3) ∧
                 (n3 ≠ 0 →
                  ∃ (n4 : Nat) (F4 : fx_F), Cl k_Rd_readSign [(2, 10), (0, 41)] F3 (0, n4) F4 ∧
                   (n4 = 0 →
                     v = (0, 0) ∧ F' = F4) ∧
                    (n4 ≠ 0 →
                     v = (0, 1) ∧ F' = F4)))) ∧
           (s_lt 5 a1 →
            ∃ (n2 : Nat) (F2 : fx_F), Cl k_Rd_fail [(2, 10), (0, 4)] F1 (0, n2) F2 ∧
             v = (0, n2) ∧ F' = F2))) ∧
       (s_lt 999 (F1 10 8) →
        ∃ (n2 : Nat) (F2 : fx_F), Cl k_Rd_fail [(2, 10), (0, 2)] F1 (0, n2) F2 ∧
         v = (0, n2) ∧ F' = F2))) ∧
   (n1 = 0 →
    ∃ (n2 : Nat) (F2 : fx_F), Cl k_Rd_fail [(2, 10), (0, 1)] F1 (0, n2) F2 ∧
     v = (0, n2) ∧ F' = F2) := by
  have t := q_ok cv_326 ap_326 (hd := []) h rfl rfl
  exact t
-- TurnNet$Reader.readProduct(I)Z
theorem c_Rd_readProduct0 {a1 : Nat} {F : fx_F} {v : fx_V} {F' : fx_F} (h : Cl k_Rd_readProduct0 [(2, 10), (0, a1)] F v F') : ∃ n, Rn n k_Rd_readProduct0 0 [(2, 10), (0, a1), (3, 0), (3, 0)] [] F v F' := by
  obtain ⟨n, s, hs, h⟩ := h
  rw [sg_327] at hs
  cases hs
  exact ⟨n, h⟩
set_option maxRecDepth 40000 in
theorem q_Rd_readProduct0_0 {n : Nat} {a1 : Nat} {F : fx_F} {v : fx_V} {F' : fx_F} (h : Rn n k_Rd_readProduct0 0 [(2, 10), (0, a1), (3, 0), (3, 0)] [] F v F') :
  ∃ (n1 : Nat) (F1 : fx_F), Cl k_Rd_readUnit0 [(2, 10), (0, a1)] F (0, n1) F1 ∧
  (n1 ≠ 0 →
    ∃ m, m < n ∧ Rn m k_Rd_readProduct0 12 [(2, 10), (0, a1), (0, 0), (3, 0)] [] F1 v F') ∧
   (n1 = 0 →
    v = (0, 0) ∧ F' = F1) := by
  have t := q_ok cv_327 ap_327 (hd := [(12, [1, 1, 1, 0])]) h rfl rfl
  exact t
set_option maxRecDepth 40000 in
theorem q_Rd_readProduct0_12 {n : Nat} {l1 l2 : Nat} {F : fx_F} {v : fx_V} {F' : fx_F} (h : Rn n k_Rd_readProduct0 12 [(2, 10), (0, l1), (0, l2), (3, 0)] [] F v F') :
  (s_le 800 l2 →
   v = (0, 1) ∧ F' = F) ∧
  (s_lt l2 800 →
   ((F 10 7) = 42 →
     ∃ F1 : fx_F, Cl k_Rd_advance [(2, 10)] F (2, 0) F1 ∧
      ∃ (n2 : Nat) (F2 : fx_F), Cl k_Rd_readUnit0 [(2, 10), (0, l1)] F1 (0, n2) F2 ∧
       (n2 ≠ 0 →
         (s_le 80 (F2 12 5) →
           ∃ m, m < n ∧ Rn m k_Rd_readProduct0 12 [(2, 10), (0, l1), (0, i_add l2 1), (3, 0)] [] F2 v F') ∧
          (s_lt (F2 12 5) 80 →
           ∃ m, m < n ∧ Rn m k_Rd_readProduct0 12 [(2, 10), (0, l1), (0, i_add l2 1), (3, 0)] [] (fu (fu (fu F2 17 (F2 12 5) (F 10 7)) 18 (F2 12 5) 0) 12 5 (i_add (F2 12 5) 1)) v F')) ∧
        (n2 = 0 →
         v = (0, 0) ∧ F' = F2)) ∧
    ((F 10 7) ≠ 42 →
     ((F 10 7) = 47 →
       ∃ F1 : fx_F, Cl k_Rd_advance [(2, 10)] F (2, 0) F1 ∧
        ∃ (n2 : Nat) (F2 : fx_F), Cl k_Rd_readUnit0 [(2, 10), (0, l1)] F1 (0, n2) F2 ∧
         (n2 ≠ 0 →
           (s_le 80 (F2 12 5) →
             ∃ m, m < n ∧ Rn m k_Rd_readProduct0 12 [(2, 10), (0, l1), (0, i_add l2 1), (3, 0)] [] F2 v F') ∧
            (s_lt (F2 12 5) 80 →
             ∃ m, m < n ∧ Rn m k_Rd_readProduct0 12 [(2, 10), (0, l1), (0, i_add l2 1), (3, 0)] [] (fu (fu (fu F2 17 (F2 12 5) (F 10 7)) 18 (F2 12 5) 0) 12 5 (i_add (F2 12 5) 1)) v F')) ∧
          (n2 = 0 →
           v = (0, 0) ∧ F' = F2)) ∧
      ((F 10 7) ≠ 47 →
       ((F 10 7) ≠ 37 →
         v = (0, 1) ∧ F' = F) ∧
        ((F 10 7) = 37 →
         ∃ F1 : fx_F, Cl k_Rd_advance [(2, 10)] F (2, 0) F1 ∧
          ∃ (n2 : Nat) (F2 : fx_F), Cl k_Rd_readUnit0 [(2, 10), (0, l1)] F1 (0, n2) F2 ∧
           (n2 ≠ 0 →
             (s_le 80 (F2 12 5) →
               ∃ m, m < n ∧ Rn m k_Rd_readProduct0 12 [(2, 10), (0, l1), (0, i_add l2 1), (3, 0)] [] F2 v F') ∧
              (s_lt (F2 12 5) 80 →
               ∃ m, m < n ∧ Rn m k_Rd_readProduct0 12 [(2, 10), (0, l1), (0, i_add l2 1), (3, 0)] [] (fu (fu (fu F2 17 (F2 12 5) (F 10 7)) 18 (F2 12 5) 0) 12 5 (i_add (F2 12 5) 1)) v F')) ∧
            (n2 = 0 →
             v = (0, 0) ∧ F' = F2))))) := by
  have t := q_ok cv_327 ap_327 (hd := [(12, [1, 1, 1, 0])]) h rfl rfl
  exact t
-- TurnNet$Reader.readSum(I)Z
theorem c_Rd_readSum0 {a1 : Nat} {F : fx_F} {v : fx_V} {F' : fx_F} (h : Cl k_Rd_readSum0 [(2, 10), (0, a1)] F v F') : ∃ n, Rn n k_Rd_readSum0 0 [(2, 10), (0, a1), (3, 0), (3, 0)] [] F v F' := by
  obtain ⟨n, s, hs, h⟩ := h
  rw [sg_328] at hs
  cases hs
  exact ⟨n, h⟩
set_option maxRecDepth 40000 in
theorem q_Rd_readSum0_0 {n : Nat} {a1 : Nat} {F : fx_F} {v : fx_V} {F' : fx_F} (h : Rn n k_Rd_readSum0 0 [(2, 10), (0, a1), (3, 0), (3, 0)] [] F v F') :
  ∃ (n1 : Nat) (F1 : fx_F), Cl k_Rd_readProduct0 [(2, 10), (0, a1)] F (0, n1) F1 ∧
  (n1 ≠ 0 →
    ∃ m, m < n ∧ Rn m k_Rd_readSum0 12 [(2, 10), (0, a1), (0, 0), (3, 0)] [] F1 v F') ∧
   (n1 = 0 →
    v = (0, 0) ∧ F' = F1) := by
  have t := q_ok cv_328 ap_328 (hd := [(12, [1, 1, 1, 0])]) h rfl rfl
  exact t
set_option maxRecDepth 40000 in
theorem q_Rd_readSum0_12 {n : Nat} {l1 l2 : Nat} {F : fx_F} {v : fx_V} {F' : fx_F} (h : Rn n k_Rd_readSum0 12 [(2, 10), (0, l1), (0, l2), (3, 0)] [] F v F') :
  (s_le 800 l2 →
   v = (0, 1) ∧ F' = F) ∧
  (s_lt l2 800 →
   ((F 10 7) = 43 →
     ∃ F1 : fx_F, Cl k_Rd_advance [(2, 10)] F (2, 0) F1 ∧
      ∃ (n2 : Nat) (F2 : fx_F), Cl k_Rd_readProduct0 [(2, 10), (0, l1)] F1 (0, n2) F2 ∧
       (n2 ≠ 0 →
         (s_le 80 (F2 12 5) →
           ∃ m, m < n ∧ Rn m k_Rd_readSum0 12 [(2, 10), (0, l1), (0, i_add l2 1), (3, 0)] [] F2 v F') ∧
          (s_lt (F2 12 5) 80 →
           ∃ m, m < n ∧ Rn m k_Rd_readSum0 12 [(2, 10), (0, l1), (0, i_add l2 1), (3, 0)] [] (fu (fu (fu F2 17 (F2 12 5) (F 10 7)) 18 (F2 12 5) 0) 12 5 (i_add (F2 12 5) 1)) v F')) ∧
        (n2 = 0 →
         v = (0, 0) ∧ F' = F2)) ∧
    ((F 10 7) ≠ 43 →
     ((F 10 7) ≠ 45 →
       v = (0, 1) ∧ F' = F) ∧
      ((F 10 7) = 45 →
       ∃ F1 : fx_F, Cl k_Rd_advance [(2, 10)] F (2, 0) F1 ∧
        ∃ (n2 : Nat) (F2 : fx_F), Cl k_Rd_readProduct0 [(2, 10), (0, l1)] F1 (0, n2) F2 ∧
         (n2 ≠ 0 →
           (s_le 80 (F2 12 5) →
             ∃ m, m < n ∧ Rn m k_Rd_readSum0 12 [(2, 10), (0, l1), (0, i_add l2 1), (3, 0)] [] F2 v F') ∧
            (s_lt (F2 12 5) 80 →
             ∃ m, m < n ∧ Rn m k_Rd_readSum0 12 [(2, 10), (0, l1), (0, i_add l2 1), (3, 0)] [] (fu (fu (fu F2 17 (F2 12 5) (F 10 7)) 18 (F2 12 5) 0) 12 5 (i_add (F2 12 5) 1)) v F')) ∧
          (n2 = 0 →
           v = (0, 0) ∧ F' = F2)))) := by
  have t := q_ok cv_328 ap_328 (hd := [(12, [1, 1, 1, 0])]) h rfl rfl
  exact t
-- TurnNet$Reader.readLine()Z
theorem c_Rd_readLine {F : fx_F} {v : fx_V} {F' : fx_F} (h : Cl k_Rd_readLine [(2, 10)] F v F') : ∃ n, Rn n k_Rd_readLine 0 [(2, 10)] [] F v F' := by
  obtain ⟨n, s, hs, h⟩ := h
  rw [sg_329] at hs
  cases hs
  exact ⟨n, h⟩
set_option maxRecDepth 40000 in
theorem q_Rd_readLine_0 {n : Nat} {F : fx_F} {v : fx_V} {F' : fx_F} (h : Rn n k_Rd_readLine 0 [(2, 10)] [] F v F') :
  ∃ (n1 : Nat) (F1 : fx_F), Cl k_Rd_isWord [(2, 10), (2, 1001)] F (0, n1) F1 ∧
  (n1 = 0 →
    ∃ (n2 : Nat) (F2 : fx_F), Cl k_Rd_isWord [(2, 10), (2, 1002)] F1 (0, n2) F2 ∧
     (n2 = 0 →
       ∃ (n3 : Nat) (F3 : fx_F), Cl k_Rd_isWord [(2, 10), (2, 1003)] F2 (0, n3) F3 ∧
        (n3 = 0 →
          ∃ (n4 : Nat) (F4 : fx_F), Cl k_Rd_isWord [(2, 10), (2, 1004)] F3 (0, n4) F4 ∧
           (n4 = 0 →
             ∃ (n5 : Nat) (F5 : fx_F), Cl k_Rd_fail [(2, 10), (0, 1)] F4 (0, n5) F5 ∧
              v = (0, n5) ∧ F' = F5) ∧
            (n4 ≠ 0 →
             ((F4 10 10) ≠ 0 →
               ∃ (n5 : Nat) (F5 : fx_F), Cl k_Rd_fail [(2, 10), (0, 1)] F4 (0, n5) F5 ∧
                v = (0, n5) ∧ F' = F5) ∧
              ((F4 10 10) = 0 →
               ∃ F5 : fx_F, Cl k_Rd_advance [(2, 10)] (fu F4 10 10 1) (2, 0) F5 ∧
                ∃ (n6 : Nat) (F6 : fx_F), Cl k_Rd_readSum0 [(2, 10), (0, 0)] F5 (0, n6) F6 ∧
                 (n6 = 0 →
                   v = (0, 0) ∧ F' = F6) ∧
                  (n6 ≠ 0 →
                   ∃ (n7 : Nat) (F7 : fx_F), Cl k_Rd_readSign [(2, 10), (0, 59)] F6 (0, n7) F7 ∧
                    (n7 = 0 →
                      v = (0, 0) ∧ F' = F7) ∧
                     (n7 ≠ 0 →
                      v = (0, 1) ∧ F' = F7))))) ∧
         (n3 ≠ 0 →
          ((F3 10 11) ≠ 0 →
            ∃ (n4 : Nat) (F4 : fx_F), Cl k_Rd_isWord [(2, 10), (2, 1004)] F3 (0, n4) F4 ∧
             (n4 = 0 →
               ∃ (n5 : Nat) (F5 : fx_F), Cl k_Rd_fail [(2, 10), (0, 1)] F4 (0, n5) F5 ∧
                v = (0, n5) ∧ F' = F5) ∧
              (n4 ≠ 0 →
               ((F4 10 10) ≠ 0 →
                 ∃ (n5 : Nat) (F5 : fx_F), Cl k_Rd_fail [(2, 10), (0, 1)] F4 (0, n5) F5 ∧
                  v = (0, n5) ∧ F' = F5) ∧
                ((F4 10 10) = 0 →
                 ∃ F5 : fx_F, Cl k_Rd_advance [(2, 10)] (fu F4 10 10 1) (2, 0) F5 ∧
                  ∃ (n6 : Nat) (F6 : fx_F), Cl k_Rd_readSum0 [(2, 10), (0, 0)] F5 (0, n6) F6 ∧
                   (n6 = 0 →
                     v = (0, 0) ∧ F' = F6) ∧
                    (n6 ≠ 0 →
                     ∃ (n7 : Nat) (F7 : fx_F), Cl k_Rd_readSign [(2, 10), (0, 59)] F6 (0, n7) F7 ∧
                      (n7 = 0 →
                        v = (0, 0) ∧ F' = F7) ∧
                       (n7 ≠ 0 →
                        v = (0, 1) ∧ F' = F7))))) ∧
           ((F3 10 11) = 0 →
            ∃ (n4 : Nat) (F4 : fx_F), Cl k_Rd_readNumber [(2, 10), (0, 1), (0, 3)] (fu F3 10 11 1) (0, n4) F4 ∧
             (n4 ≠ 0 →
               ∃ (n5 : Nat) (F5 : fx_F), Cl k_Rd_closeLine [(2, 10)] (fu F4 12 3 (F4 10 8)) (0, n5) F5 ∧
                v = (0, n5) ∧ F' = F5) ∧
              (n4 = 0 →
               v = (0, 0) ∧ F' = F4)))) ∧
      (n2 ≠ 0 →
       ((F2 10 9) ≠ 0 →
         ∃ (n3 : Nat) (F3 : fx_F), Cl k_Rd_isWord [(2, 10), (2, 1003)] F2 (0, n3) F3 ∧
          (n3 = 0 →
            ∃ (n4 : Nat) (F4 : fx_F), Cl k_Rd_isWord [(2, 10), (2, 1004)] F3 (0, n4) F4 ∧
             (n4 = 0 →
               ∃ (n5 : Nat) (F5 : fx_F), Cl k_Rd_fail [(2, 10), (0, 1)] F4 (0, n5) F5 ∧
                v = (0, n5) ∧ F' = F5) ∧
              (n4 ≠ 0 →
               ((F4 10 10) ≠ 0 →
                 ∃ (n5 : Nat) (F5 : fx_F), Cl k_Rd_fail [(2, 10), (0, 1)] F4 (0, n5) F5 ∧
                  v = (0, n5) ∧ F' = F5) ∧
                ((F4 10 10) = 0 →
                 ∃ F5 : fx_F, Cl k_Rd_advance [(2, 10)] (fu F4 10 10 1) (2, 0) F5 ∧
                  ∃ (n6 : Nat) (F6 : fx_F), Cl k_Rd_readSum0 [(2, 10), (0, 0)] F5 (0, n6) F6 ∧
                   (n6 = 0 →
                     v = (0, 0) ∧ F' = F6) ∧
                    (n6 ≠ 0 →
                     ∃ (n7 : Nat) (F7 : fx_F), Cl k_Rd_readSign [(2, 10), (0, 59)] F6 (0, n7) F7 ∧
                      (n7 = 0 →
                        v = (0, 0) ∧ F' = F7) ∧
                       (n7 ≠ 0 →
                        v = (0, 1) ∧ F' = F7))))) ∧
           (n3 ≠ 0 →
            ((F3 10 11) ≠ 0 →
              ∃ (n4 : Nat) (F4 : fx_F), Cl k_Rd_isWord [(2, 10), (2, 1004)] F3 (0, n4) F4 ∧
               (n4 = 0 →
                 ∃ (n5 : Nat) (F5 : fx_F), Cl k_Rd_fail [(2, 10), (0, 1)] F4 (0, n5) F5 ∧
                  v = (0, n5) ∧ F' = F5) ∧
                (n4 ≠ 0 →
                 ((F4 10 10) ≠ 0 →
                   ∃ (n5 : Nat) (F5 : fx_F), Cl k_Rd_fail [(2, 10), (0, 1)] F4 (0, n5) F5 ∧
                    v = (0, n5) ∧ F' = F5) ∧
                  ((F4 10 10) = 0 →
                   ∃ F5 : fx_F, Cl k_Rd_advance [(2, 10)] (fu F4 10 10 1) (2, 0) F5 ∧
                    ∃ (n6 : Nat) (F6 : fx_F), Cl k_Rd_readSum0 [(2, 10), (0, 0)] F5 (0, n6) F6 ∧
                     (n6 = 0 →
                       v = (0, 0) ∧ F' = F6) ∧
                      (n6 ≠ 0 →
                       ∃ (n7 : Nat) (F7 : fx_F), Cl k_Rd_readSign [(2, 10), (0, 59)] F6 (0, n7) F7 ∧
                        (n7 = 0 →
                          v = (0, 0) ∧ F' = F7) ∧
                         (n7 ≠ 0 →
                          v = (0, 1) ∧ F' = F7))))) ∧
             ((F3 10 11) = 0 →
              ∃ (n4 : Nat) (F4 : fx_F), Cl k_Rd_readNumber [(2, 10), (0, 1), (0, 3)] (fu F3 10 11 1) (0, n4) F4 ∧
               (n4 ≠ 0 →
                 ∃ (n5 : Nat) (F5 : fx_F), Cl k_Rd_closeLine [(2, 10)] (fu F4 12 3 (F4 10 8)) (0, n5) F5 ∧
                  v = (0, n5) ∧ F' = F5) ∧
                (n4 = 0 →
                 v = (0, 0) ∧ F' = F4)))) ∧
        ((F2 10 9) = 0 →
         ∃ (n3 : Nat) (F3 : fx_F), Cl k_Rd_readNumber [(2, 10), (0, 0), (0, i_sub (F2 12 0) 1)] (fu F2 10 9 1) (0, n3) F3 ∧
          (n3 ≠ 0 →
            ∃ (n4 : Nat) (F4 : fx_F), Cl k_Rd_closeLine [(2, 10)] (fu F3 12 2 (F3 10 8)) (0, n4) F4 ∧
             v = (0, n4) ∧ F' = F4) ∧
           (n3 = 0 →
            v = (0, 0) ∧ F' = F3)))) ∧
   (n1 ≠ 0 →
    ∃ (n2 : Nat) (F2 : fx_F), Cl k_Rd_readLink [(2, 10)] F1 (0, n2) F2 ∧
     v = (0, n2) ∧ F' = F2) := by
  have t := q_ok cv_329 ap_329 (hd := []) h rfl rfl
  exact t
-- TurnNet$Reader.readText()Z
theorem c_Rd_readText {F : fx_F} {v : fx_V} {F' : fx_F} (h : Cl k_Rd_readText [(2, 10)] F v F') : ∃ n, Rn n k_Rd_readText 0 [(2, 10), (3, 0)] [] F v F' := by
  obtain ⟨n, s, hs, h⟩ := h
  rw [sg_330] at hs
  cases hs
  exact ⟨n, h⟩
set_option maxRecDepth 40000 in
theorem q_Rd_readText_0 {n : Nat} {F : fx_F} {v : fx_V} {F' : fx_F} (h : Rn n k_Rd_readText 0 [(2, 10), (3, 0)] [] F v F') :
  ∃ F1 : fx_F, Cl k_Rd_advance [(2, 10)] (fu (fu (fu (fu (fu (fu (fu (fu (fu (fu (fu (fu F 12 0 0) 12 1 0) 12 2 0) 12 3 1) 12 4 0) 12 5 0) 10 3 0) 10 4 4294967295) 10 5 0) 10 9 0) 10 10 0) 10 11 0) (2, 0) F1 ∧
  ((F1 10 7) ≠ 0 →
    ∃ (n2 : Nat) (F2 : fx_F), Cl k_Rd_readSwitches [(2, 10)] F1 (0, n2) F2 ∧
     (n2 ≠ 0 →
       ∃ m, m < n ∧ Rn m k_Rd_readText 61 [(2, 10), (0, 0)] [] F2 v F') ∧
      (n2 = 0 →
       v = (0, 0) ∧ F' = F2)) ∧
   ((F1 10 7) = 0 →
    v = (0, 1) ∧ F' = F1) := by
  have t := q_ok cv_330 ap_330 (hd := [(61, [1, 1])]) h rfl rfl
  exact t
set_option maxRecDepth 40000 in
theorem q_Rd_readText_61 {n : Nat} {l1 : Nat} {F : fx_F} {v : fx_V} {F' : fx_F} (h : Rn n k_Rd_readText 61 [(2, 10), (0, l1)] [] F v F') :
  (s_le 800 l1 →
   v = (0, 1) ∧ F' = F) ∧
  (s_lt l1 800 →
   ((F 10 7) = 0 →
     v = (0, 1) ∧ F' = F) ∧
    ((F 10 7) ≠ 0 →
     ∃ (n1 : Nat) (F1 : fx_F), Cl k_Rd_readLine [(2, 10)] F (0, n1) F1 ∧
      (n1 ≠ 0 →
        ∃ m, m < n ∧ Rn m k_Rd_readText 61 [(2, 10), (0, i_add l1 1)] [] F1 v F') ∧
       (n1 = 0 →
        v = (0, 0) ∧ F' = F1))) := by
  have t := q_ok cv_330 ap_330 (hd := [(61, [1, 1])]) h rfl rfl
  exact t
-- TurnNet.net()I
theorem c_T_net {F : fx_F} {v : fx_V} {F' : fx_F} (h : Cl k_T_net [(2, 2)] F v F') : ∃ n, Rn n k_T_net 0 [(2, 2), (3, 0), (3, 0)] [] F v F' := by
  obtain ⟨n, s, hs, h⟩ := h
  rw [sg_331] at hs
  cases hs
  exact ⟨n, h⟩
set_option maxRecDepth 40000 in
theorem q_T_net_0 {n : Nat} {F : fx_F} {v : fx_V} {F' : fx_F} (h : Rn n k_T_net 0 [(2, 2), (3, 0), (3, 0)] [] F v F') :
  ∃ (n1 : Nat) (F1 : fx_F), Cl k_Rd_readText [(2, 10)] F (0, n1) F1 ∧
  (n1 ≠ 0 →
    ∃ F2 : fx_F, Cl k_Net_copyFrom [(2, 3), (2, 12)] (fu F1 10 1 0) (2, 0) F2 ∧
     ∃ m, m < n ∧ Rn m k_T_net 59 [(2, 2), (3, 0), (0, 0)] [] (fu (fu (fu (fu (fu (fu F2 24 3 0) 24 4 0) 32 3 0) 32 4 0) 51 2 0) 51 3 0) v F') ∧
   (n1 = 0 →
    v = (0, 4294967295) ∧ F' = (fu F1 10 1 0)) := by
  have t := q_ok cv_331 ap_331 (hd := [(59, [1, 0, 1])]) h rfl rfl
  exact t
set_option maxRecDepth 40000 in
theorem q_T_net_59 {n : Nat} {l2 : Nat} {F : fx_F} {v : fx_V} {F' : fx_F} (h : Rn n k_T_net 59 [(2, 2), (3, 0), (0, l2)] [] F v F') :
  (s_le 2 l2 →
   ∃ F1 : fx_F, Cl k_Or_rate [(2, 19), (0, F 3 2), (0, i_sub (i_shl 1 (F 3 1)) 1)] F (2, 0) F1 ∧
    ∃ (n2 : Nat) (F2 : fx_F), Cl k_Or_upEnds [(2, 19)] F1 (0, n2) F2 ∧
     ∃ F3 : fx_F, Cl k_St_begin [(2, F1 2 13), (0, F1 3 2), (0, n2), (0, i_sub (i_shl 1 (F 3 1)) 1)] F2 (2, 0) F3 ∧
      v = (0, F3 3 0) ∧ F' = F3) ∧
  (s_lt l2 2 →
   ∃ m, m < n ∧ Rn m k_T_net 59 [(2, 2), (3, 0), (0, i_add l2 1)] [] (fu F 159 l2 0) v F') := by
  have t := q_ok cv_331 ap_331 (hd := [(59, [1, 0, 1])]) h rfl rfl
  exact t
end
section
/-! Small numbers -/
theorem b_lt {x y : Nat} (hx : x < 2147483648) (hy : y < 2147483648) : s_lt x y = (x < y) := by
  rw [s_lt_eq, ax_bi_def, ax_bi_def]
  exact propext (by omega)
theorem b_le {x y : Nat} (hx : x < 2147483648) (hy : y < 2147483648) : s_le x y = (x ≤ y) := by
  rw [s_le_eq, ax_bi_def, ax_bi_def]
  exact propext (by omega)
theorem b_lt_m {y : Nat} (hy : y < 2147483648) : s_lt 4294967295 y = True := by
  rw [s_lt_eq, ax_bi_def, ax_bi_def]
  exact eq_true (by omega)
theorem b_le_m {y : Nat} (hy : y < 2147483648) : s_le y 4294967295 = False := by
  rw [s_le_eq, ax_bi_def, ax_bi_def]
  exact eq_false (by omega)
theorem b_lt_m2 {y : Nat} (hy : y < 2147483648) : s_lt y 4294967295 = False := by
  rw [s_lt_eq, ax_bi_def, ax_bi_def]
  exact eq_false (by omega)
theorem b_le_m2 {y : Nat} (hy : y < 2147483648) : s_le 4294967295 y = True := by
  rw [s_le_eq, ax_bi_def, ax_bi_def]
  exact eq_true (by omega)
/-- an int that is not below 0, or is -/
theorem b_neg {x : Nat} (hx : x < 4294967296) : s_lt x 0 = (2147483648 ≤ x) := by
  rw [s_lt_eq, ax_bi_def, ax_bi_def]
  exact propext (by omega)
theorem b_pos {x : Nat} (hx : x < 4294967296) : s_le 0 x = (x < 2147483648) := by
  rw [s_le_eq, ax_bi_def, ax_bi_def]
  exact propext (by omega)
/-- against a small number -/
theorem b_ltc {x k : Nat} (hx : x < 4294967296) (hk : k < 2147483648) : s_lt x k = (x < k ∨ 2147483648 ≤ x) := by
  rw [s_lt_eq, ax_bi_def, ax_bi_def]
  exact propext (by omega)
theorem b_lec {x k : Nat} (hx : x < 4294967296) (hk : k < 2147483648) : s_le k x = (k ≤ x ∧ x < 2147483648) := by
  rw [s_le_eq, ax_bi_def, ax_bi_def]
  exact propext (by omega)
theorem b_ltc2 {x k : Nat} (hx : x < 4294967296) (hk : k < 2147483648) : s_lt k x = (k < x ∧ x < 2147483648) := by
  rw [s_lt_eq, ax_bi_def, ax_bi_def]
  exact propext (by omega)
theorem b_lec2 {x k : Nat} (hx : x < 4294967296) (hk : k < 2147483648) : s_le x k = (x ≤ k ∨ 2147483648 ≤ x) := by
  rw [s_le_eq, ax_bi_def, ax_bi_def]
  exact propext (by omega)
theorem b_add {x y : Nat} (h : x + y < 4294967296) : i_add x y = x + y := by
  rw [i_add_eq]
  exact Nat.mod_eq_of_lt h
theorem b_dec {x : Nat} (h : 1 ≤ x) (h2 : x < 4294967296) : i_add x 4294967295 = x - 1 := by
  rw [i_add_eq]
  show (x + 4294967295) % 4294967296 = x - 1
  omega
theorem b_sub {x y : Nat} (h : y ≤ x) (hx : x < 4294967296) : i_sub x y = x - y := by
  rw [i_sub_eq]
  show (x + (4294967296 - y % 4294967296)) % 4294967296 = x - y
  omega
theorem b_sub01 : i_sub 0 1 = 4294967295 := by
  rw [i_sub_eq]
theorem b_mul {x y : Nat} (h : x * y < 4294967296) : i_mul x y = x * y := by
  rw [i_mul_eq]
  exact Nat.mod_eq_of_lt h
theorem b_shr {x k : Nat} (hx : x < 2147483648) (hk : k < 32) : i_shr x k = x / 2 ^ k := by
  rw [i_shr_eq, show Int32.ofNat k &&& 31 = nI (k % 32) from rx_m31 k, Nat.mod_eq_of_lt hk, show Int32.ofNat x >>> nI k = nI (x / 2 ^ k) from pk_shrN hx (nI k) k (rx_s_l0 k hk), ax_i32_nI (Nat.lt_of_le_of_lt (Nat.div_le_self _ _) (by omega))]
theorem b_and1 (x : Nat) : i_and x 1 = x % 2 := by
  rw [i_and_eq]
  show (x &&& 1) % 4294967296 = x % 2
  rw [Nat.and_one_is_mod]
  exact Nat.mod_eq_of_lt (by omega)
theorem b_shl1 {k : Nat} (hk : k < 32) : i_shl 1 k = 2 ^ k := by
  rw [i_shl_eq]
  show (1 * 2 ^ (k % 32)) % 4294967296 = 2 ^ k
  rw [Nat.mod_eq_of_lt hk, Nat.one_mul]
  exact Nat.mod_eq_of_lt (show 2 ^ k < 2 ^ 32 from Nat.pow_lt_pow_right (by decide) hk)
theorem b_div {x y : Nat} (hx : x < 2147483648) (hy : 0 < y) (hy2 : y < 2147483648) : i_div x y = x / y := by
  rw [i_div_eq, show Int32.ofNat x / Int32.ofNat y = nI (x / y) from pk_div hx hy hy2, ax_i32_nI (Nat.lt_of_le_of_lt (Nat.div_le_self _ _) (by omega))]
theorem b_rem {x y : Nat} (hx : x < 2147483648) (hy : 0 < y) (hy2 : y < 2147483648) : i_rem x y = x % y := by
  rw [i_rem_eq, show Int32.ofNat x - Int32.ofNat x / Int32.ofNat y * Int32.ofNat y = nI (x % y) from pk_rem hx hy hy2, ax_i32_nI (Nat.lt_of_le_of_lt (Nat.mod_le _ _) (by omega))]
/-- a bit of an int -/
theorem b_bit {s c : Nat} (hs : s < 2147483648) (hc : c < 64) : i_and (i_shr s (i_shr c 1)) 1 = if s.testBit (c / 2) then 1 else 0 := by
  rw [b_shr (x := c) (by omega) (by decide), b_shr hs (by show c / 2 ^ 1 < 32; omega), b_and1, Nat.testBit_eq_decide_div_mod_eq]
  show s / 2 ^ (c / 2) % 2 = _
  by_cases h : s / 2 ^ (c / 2) % 2 = 1
  · rw [h]; rfl
  · have : s / 2 ^ (c / 2) % 2 = 0 := by omega
    rw [this]; rfl
theorem b_bitl {s l : Nat} (hs : s < 2147483648) (hl : l < 32) : i_and (i_shr s l) 1 = if s.testBit l then 1 else 0 := by
  rw [b_shr hs hl, b_and1, Nat.testBit_eq_decide_div_mod_eq]
  by_cases h : s / 2 ^ l % 2 = 1
  · rw [h]; rfl
  · have : s / 2 ^ l % 2 = 0 := by omega
    rw [this]; rfl
theorem b_or {x y k : Nat} (hk : k ≤ 32) (hx : x < 2 ^ k) (hy : y < 2 ^ k) : i_or x y = x ||| y := by
  rw [i_or_eq]
  show (x ||| y) % 4294967296 = x ||| y
  exact Nat.mod_eq_of_lt (Nat.lt_of_lt_of_le (Nat.or_lt_two_pow hx hy) (show 2 ^ k ≤ 2 ^ 32 from Nat.pow_le_pow_right (by decide) hk))
theorem b_xor {x y k : Nat} (hk : k ≤ 32) (hx : x < 2 ^ k) (hy : y < 2 ^ k) : i_xor x y = x ^^^ y := by
  rw [i_xor_eq]
  show (x ^^^ y) % 4294967296 = x ^^^ y
  exact Nat.mod_eq_of_lt (Nat.lt_of_lt_of_le (Nat.xor_lt_two_pow hx hy) (show 2 ^ k ≤ 2 ^ 32 from Nat.pow_le_pow_right (by decide) hk))
theorem b_and {x y : Nat} (hx : x < 4294967296) : i_and x y = x &&& y := by
  rw [i_and_eq]
  show (x &&& y) % 4294967296 = x &&& y
  exact Nat.mod_eq_of_lt (Nat.lt_of_le_of_lt Nat.and_le_left hx)
/-- a bit is taken away -/
theorem b_clr {x l : Nat} (hx : x < 4294967296) (hl : l < 32) : i_and x (i_xor (i_shl 1 l) 4294967295) < 4294967296 ∧ ∀ j, (i_and x (i_xor (i_shl 1 l) 4294967295)).testBit j = (x.testBit j && decide (j ≠ l)) := by
  have hp : 2 ^ l < 2 ^ 32 := Nat.pow_lt_pow_right (by decide) hl
  rw [b_shl1 hl, b_xor (k := 32) (Nat.le_refl _) hp (by decide), b_and hx]
  refine ⟨Nat.lt_of_le_of_lt Nat.and_le_left hx, fun j => ?_⟩
  rw [Nat.testBit_and, Nat.testBit_xor, Nat.testBit_two_pow, show (4294967295 : Nat) = 2 ^ 32 - 1 from rfl, Nat.testBit_two_pow_sub_one]
  by_cases hj : j < 32
  · rw [decide_eq_true hj]
    by_cases h : l = j
    · rw [decide_eq_true h, h]; simp
    · rw [decide_eq_false h]
      have : j ≠ l := fun z => h z.symm
      simp [this]
  · have h2 : x.testBit j = false := Nat.testBit_lt_two_pow (Nat.lt_of_lt_of_le hx (show 2 ^ 32 ≤ 2 ^ j from Nat.pow_le_pow_right (by decide) (by omega)))
    rw [h2]; rfl
/-- reading behind a write -/
theorem fu_same {F : fx_F} {p i v : Nat} : fu F p i v p i = v := by
  unfold fu
  rw [Nat.beq_refl, Nat.beq_refl]
  rfl
theorem fu_p {F : fx_F} {p q i j v : Nat} (h : q ≠ p) : fu F p i v q j = F q j := by
  unfold fu
  rw [show Nat.beq q p = false from Bool.eq_false_iff.mpr (fun z => h (rx_beq.mp z))]
  rfl
theorem fu_i {F : fx_F} {p i j v : Nat} (h : j ≠ i) : fu F p i v p j = F p j := by
  unfold fu
  rw [Nat.beq_refl, show Nat.beq j i = false from Bool.eq_false_iff.mpr (fun z => h (rx_beq.mp z))]
  rfl
theorem fu_if {F : fx_F} {p i v : Nat} (q j : Nat) : fu F p i v q j = if q = p ∧ j = i then v else F q j := by
  by_cases h : q = p
  · subst h
    by_cases h2 : j = i
    · subst h2; rw [fu_same, if_pos ⟨rfl, rfl⟩]
    · rw [fu_i h2, if_neg (fun z => h2 z.2)]
  · rw [fu_p h, if_neg (fun z => h z.1)]
theorem fcp_d {F : fx_F} {s d i : Nat} : fcp F s d d i = F s i := by
  unfold fcp
  rw [Nat.beq_refl]
  rfl
theorem fcp_o {F : fx_F} {s d q i : Nat} (h : q ≠ d) : fcp F s d q i = F q i := by
  unfold fcp
  rw [show Nat.beq q d = false from Bool.eq_false_iff.mpr (fun z => h (rx_beq.mp z))]
  rfl
/-- nothing but some cells has changed -/
def fxo (S : List Nat) (F F' : fx_F) : Prop := ∀ q i, q ∉ S → F' q i = F q i
theorem fxo.rf {S : List Nat} {F : fx_F} : fxo S F F := fun _ _ _ => rfl
theorem fxo.tr {S : List Nat} {F F1 F2 : fx_F} (h : fxo S F F1) (h2 : fxo S F1 F2) : fxo S F F2 := fun q i hq => (h2 q i hq).trans (h q i hq)
theorem fxo.mono {S T : List Nat} {F F1 : fx_F} (h : fxo S F F1) (hT : ∀ q ∈ S, q ∈ T) : fxo T F F1 := fun q i hq => h q i (fun z => hq (hT q z))
theorem fxo.wr {S : List Nat} {F F1 : fx_F} {p i v : Nat} (h : fxo S F F1) (hp : p ∈ S) : fxo S F (fu F1 p i v) := fun q j hq => by
  rw [fu_p (fun z => hq (by rw [z]; exact hp))]
  exact h q j hq
theorem fxo.cp {S : List Nat} {F F1 : fx_F} {s d : Nat} (h : fxo S F F1) (hd : d ∈ S) : fxo S F (fcp F1 s d) := fun q j hq => by
  rw [fcp_o (fun z => hq (by rw [z]; exact hd))]
  exact h q j hq
end
section
/-! Nets: switches 0 .. n - 1, links 0 .. L - 1; a channel c begins at E c and ends at E (nf c) -/
def nf (c : Nat) : Nat := if c % 2 = 0 then c + 1 else c - 1
theorem nf_nf (c : Nat) : nf (nf c) = c := by unfold nf; split <;> split <;> omega
theorem nf_lt {c L : Nat} (h : c < 2 * L) : nf c < 2 * L := by unfold nf; split <;> omega
theorem nf_div (c : Nat) : nf c / 2 = c / 2 := by unfold nf; split <;> omega
theorem nf_mod (c : Nat) : nf c % 2 = 1 - c % 2 := by unfold nf; split <;> omega
theorem nf_ne (c : Nat) : nf c ≠ c := by unfold nf; split <;> omega
def nt_ok (n L : Nat) (E : Nat → Nat) : Prop := n ≤ 10 ∧ L ≤ 20 ∧ ∀ j, j < 2 * L → E j < n ∧ E j ≠ E (nf j)
theorem pg_hole : ∀ (n d : Nat) (g : Nat → Nat), (∀ k, k ≤ d → g k < n) → (∀ i j, i ≤ d → j ≤ d → g i = g j → i = j) → d < n
  | 0, d, g, h, _ => absurd (h 0 (Nat.zero_le d)) (Nat.not_lt_zero _)
  | n + 1, d, g, h, hi => by
    by_cases hx : ∃ k, k ≤ d ∧ g k = n
    · obtain ⟨k0, h0, h1⟩ := hx
      rcases Nat.eq_zero_or_pos d with hd | hd
      · omega
      · have := pg_hole n (d - 1) (fun k => g (if k < k0 then k else k + 1)) (fun k hk => by
          show g (if k < k0 then k else k + 1) < n
          have h2 : (if k < k0 then k else k + 1) ≤ d := by split <;> omega
          have h3 := h _ h2
          have h4 : g (if k < k0 then k else k + 1) ≠ n := fun z => by
            have := hi _ k0 h2 h0 (z.trans h1.symm)
            split at this <;> omega
          omega) (fun i j hi2 hj hij => by
          have h2 : (if i < k0 then i else i + 1) ≤ d := by split <;> omega
          have h3 : (if j < k0 then j else j + 1) ≤ d := by split <;> omega
          have := hi _ _ h2 h3 hij
          split at this <;> split at this <;> omega)
        omega
    · have := pg_hole n d g (fun k hk => by
        have h2 := h k hk
        have h3 : g k ≠ n := fun z => hx ⟨k, hk, z⟩
        omega) hi
      omega
/-- a walk of d channels that stand, from r -/
def wk (L : Nat) (E : Nat → Nat) (st : Nat → Bool) (r : Nat) : Nat → Nat → Prop
  | 0, v => v = r
  | d + 1, v => ∃ c, c < 2 * L ∧ st (c / 2) = true ∧ E (nf c) = v ∧ wk L E st r d (E c)
/-- how far -/
def ds (L : Nat) (E : Nat → Nat) (st : Nat → Bool) (r d v : Nat) : Prop := wk L E st r d v ∧ ∀ e, e < d → ¬ wk L E st r e v
section WK
variable {n L : Nat} {E : Nat → Nat} {st : Nat → Bool} {r : Nat}
theorem ds_fun {d e v : Nat} (h : ds L E st r d v) (h2 : ds L E st r e v) : d = e := by
  rcases Nat.lt_trichotomy d e with z | z | z
  · exact absurd h.1 (h2.2 d z)
  · exact z
  · exact absurd h2.1 (h.2 e z)
theorem ds_ex {d v : Nat} (h : wk L E st r d v) : ∃ e, e ≤ d ∧ ds L E st r e v := by
  induction d using Nat.strongRecOn with
  | ind d ih =>
    by_cases hx : ∃ e, e < d ∧ wk L E st r e v
    · obtain ⟨e, he, hw⟩ := hx
      obtain ⟨f, hf, hd⟩ := ih e he hw
      exact ⟨f, by omega, hd⟩
    · exact ⟨d, Nat.le_refl d, h, fun e he hw => hx ⟨e, he, hw⟩⟩
theorem ds_pred {d v : Nat} (h : ds L E st r (d + 1) v) : ∃ c, c < 2 * L ∧ st (c / 2) = true ∧ E (nf c) = v ∧ ds L E st r d (E c) := by
  obtain ⟨⟨c, h1, h2, h3, h4⟩, h5⟩ := h
  exact ⟨c, h1, h2, h3, h4, fun e he hw => h5 (e + 1) (by omega) ⟨c, h1, h2, h3, hw⟩⟩
theorem ds_down {d v : Nat} (h : ds L E st r d v) : ∀ k, k ≤ d → ∃ u, ds L E st r k u := by
  intro k hk
  induction d generalizing v with
  | zero => exact ⟨v, by rw [show k = 0 by omega]; exact h⟩
  | succ d ih =>
    rcases Nat.lt_or_ge d k with z | z
    · exact ⟨v, by rw [show k = d + 1 by omega]; exact h⟩
    · obtain ⟨c, _, _, _, h4⟩ := ds_pred h
      exact ih h4 z
theorem ds_v {d v : Nat} (hr : r < n) (hE : ∀ j, j < 2 * L → E j < n) (h : ds L E st r d v) : v < n := by
  cases d with
  | zero => rw [show v = r from h.1]; exact hr
  | succ d =>
    obtain ⟨c, h1, _, h3, _⟩ := ds_pred h
    rw [← h3]
    exact hE _ (nf_lt h1)
theorem ds_lt {d v : Nat} (hr : r < n) (hE : ∀ j, j < 2 * L → E j < n) (h : ds L E st r d v) : d < n := by
  have hx := ds_down h
  refine pg_hole n d (fun k => if hk : k ≤ d then (hx k hk).choose else 0) (fun k hk => ?_) (fun i j hi hj hij => ?_)
  · show (if hk : k ≤ d then (hx k hk).choose else 0) < n
    rw [dif_pos hk]
    exact ds_v hr hE (hx k hk).choose_spec
  · replace hij : (if hk : i ≤ d then (hx i hk).choose else 0) = (if hk : j ≤ d then (hx j hk).choose else 0) := hij
    rw [dif_pos hi, dif_pos hj] at hij
    have a := (hx i hi).choose_spec
    have b := (hx j hj).choose_spec
    rw [hij] at a
    exact ds_fun a b
theorem ds_none {m : Nat} (h : ∀ v, ¬ ds L E st r m v) : ∀ d, m ≤ d → ∀ v, ¬ ds L E st r d v := by
  intro d hd v hv
  obtain ⟨u, hu⟩ := ds_down hv m hd
  exact h u hu
theorem wk_none {v : Nat} (h : ∀ d, ¬ ds L E st r d v) (d : Nat) : ¬ wk L E st r d v := fun hw => by
  obtain ⟨e, _, he⟩ := ds_ex hw
  exact h e he
end WK
/-- the class's net -/
def cn (F : fx_F) (n L : Nat) (E : Nat → Nat) : Prop := F 3 0 = n ∧ F 3 1 = L ∧ ∀ c, c < 2 * L → F 4 c = E c ∧ F 5 c = E (nf c)
theorem cn.keep {F F' : fx_F} {n L : Nat} {E : Nat → Nat} (h : cn F n L E) {S : List Nat} (ho : fxo S F F') (h3 : 3 ∉ S) (h4 : 4 ∉ S) (h5 : 5 ∉ S) : cn F' n L E :=
  ⟨(ho 3 0 h3).trans h.1, (ho 3 1 h3).trans h.2.1, fun c hc => ⟨(ho 4 c h4).trans (h.2.2 c hc).1, (ho 5 c h5).trans (h.2.2 c hc).2⟩⟩
/-- how far all are, as the class tells it -/
def c_far (row : Nat → Nat) (n L : Nat) (E : Nat → Nat) (st : Nat → Bool) (r : Nat) : Prop := ∀ v, v < n → ((row v ≠ 4294967295 → ds L E st r (row v) v) ∧ ∀ d, ds L E st r d v → row v = d)
end
section
section SPR
variable {nn L s r P b : Nat} {E : Nat → Nat} {v : fx_V} {F' : fx_F}
noncomputable def spI1 (nn L s r P b : Nat) (E : Nat → Nat) (k g : Nat) (F : fx_F) : Prop := (∀ u, u < nn → ((F P (b + u) ≠ 4294967295 → ds L E (fun l => s.testBit l) r (F P (b + u)) u ∧ F P (b + u) < k) ∧ ∀ d, d < k → ds L E (fun l => s.testBit l) r d u → F P (b + u) = d)) ∧ (g = 0 → ∀ u, ¬ ds L E (fun l => s.testBit l) r (k - 1) u)
noncomputable def spI2 (nn L s r P b : Nat) (E : Nat → Nat) (k c g : Nat) (F : fx_F) : Prop := (∀ u, u < nn → ((F P (b + u) ≠ 4294967295 → ds L E (fun l => s.testBit l) r (F P (b + u)) u ∧ F P (b + u) ≤ k) ∧ ∀ d, d < k → ds L E (fun l => s.testBit l) r d u → F P (b + u) = d)) ∧ (∀ c', c' < c → c' < 2 * L → s.testBit (c' / 2) = true → ds L E (fun l => s.testBit l) r (k - 1) (E c') → F P (b + E (nf c')) ≠ 4294967295) ∧ (g = 0 → ∀ u, u < nn → F P (b + u) ≠ k)
/-- outside of the row -/
noncomputable def spO (nn P b : Nat) (F F1 : fx_F) : Prop := fxo [P] F F1 ∧ ∀ j, (j < b ∨ b + nn ≤ j) → F1 P j = F P j
theorem spO.rf {F : fx_F} : spO nn P b F F := ⟨fxo.rf, fun _ _ => rfl⟩
theorem spO.tr {F F1 F2 : fx_F} (h : spO nn P b F F1) (h2 : spO nn P b F1 F2) : spO nn P b F F2 := ⟨h.1.tr h2.1, fun j hj => (h2.2 j hj).trans (h.2 j hj)⟩
theorem spO.wr {F : fx_F} {u x : Nat} (hu : u < nn) : spO nn P b F (fu F P (b + u) x) := ⟨fxo.rf.wr List.mem_cons_self, fun j hj => fu_i (by omega)⟩
theorem sp68 (hN : nt_ok nn L E) (hr : r < nn) (hs : s < 2147483648) (hb : b < 100000) (hP : P ≠ 3 ∧ P ≠ 4 ∧ P ≠ 5) {k : Nat} (hk1 : 1 ≤ k) (hk : k < nn) : ∀ (n : Nat) (F : fx_F) (c g : Nat), Rn n k_Gr_spread 68 [(2, 3), (0, s), (3, 0), (2, P), (0, b), (0, g), (0, k), (0, c), (3, 0), (3, 0)] [] F v F' → cn F nn L E → c ≤ 2 * L → spI2 nn L s r P b E k c g F → ∃ m g' F1, m < n ∧ Rn m k_Gr_spread 48 [(2, 3), (0, s), (3, 0), (2, P), (0, b), (0, g'), (0, k + 1), (3, 0), (3, 0), (3, 0)] [] F1 v F' ∧ spO nn P b F F1 ∧ spI1 nn L s r P b E (k + 1) g' F1 := by
  intro n
  induction n using Nat.strongRecOn with
  | ind n ih =>
    intro F c g h hc hcL hI
    have q := q_Gr_spread_68 h
    obtain ⟨c0, c1, c2⟩ := hc
    have hL := hN.2.1
    have hn := hN.1
    rw [c1, b_mul (by omega)] at q
    rcases Nat.lt_or_ge c (2 * L) with hl | hl
    · replace q := q.2 (by rw [b_lt (by omega) (by omega)]; exact hl)
      obtain ⟨e4, e5⟩ := c2 c hl
      have e4' : F (3 + 1) c = E c := e4
      have e5' : F (3 + 2) c = E (nf c) := e5
      have hE1 := (hN.2.2 c hl).1
      have hE2 := (hN.2.2 _ (nf_lt hl)).1
      rw [e4', e5', b_add (show b + E c < 4294967296 by omega), b_add (show b + E (nf c) < 4294967296 by omega), b_sub hk1 (by omega), b_bit hs (by omega), b_add (show c + 1 < 4294967296 by omega)] at q
      have go : ∀ (F2 : fx_F) (g2 : Nat), (∃ m, m < n ∧ Rn m k_Gr_spread 68 [(2, 3), (0, s), (3, 0), (2, P), (0, b), (0, g2), (0, k), (0, c + 1), (3, 0), (3, 0)] [] F2 v F') → spO nn P b F F2 → spI2 nn L s r P b E k (c + 1) g2 F2 → ∃ m g' F1, m < n ∧ Rn m k_Gr_spread 48 [(2, 3), (0, s), (3, 0), (2, P), (0, b), (0, g'), (0, k + 1), (3, 0), (3, 0), (3, 0)] [] F1 v F' ∧ spO nn P b F F1 ∧ spI1 nn L s r P b E (k + 1) g' F1 := by
        intro F2 g2 ⟨m, hm, hR⟩ hO hI2
        have hc2 : cn F2 nn L E := cn.keep ⟨c0, c1, c2⟩ hO.1 (fun z => hP.1 (List.mem_singleton.mp z).symm) (fun z => hP.2.1 (List.mem_singleton.mp z).symm) (fun z => hP.2.2 (List.mem_singleton.mp z).symm)
        obtain ⟨m', g', F1, h1, h2, h3, h4⟩ := ih m hm F2 (c + 1) g2 hR hc2 (by omega) hI2
        exact ⟨m', g', F1, by omega, h2, hO.tr h3, h4⟩
      obtain ⟨i1, i2, i3⟩ := hI
      -- nothing new
      have same : (s.testBit (c / 2) = true → ds L E (fun l => s.testBit l) r (k - 1) (E c) → F P (b + E (nf c)) ≠ 4294967295) → spI2 nn L s r P b E k (c + 1) g F := by
        intro hx
        refine ⟨i1, fun c' h1 h2 h3 h4 => ?_, i3⟩
        rcases Nat.lt_or_ge c' c with z | z
        · exact i2 c' z h2 h3 h4
        · have : c' = c := by omega
          subst this
          exact hx h3 h4
      by_cases g1 : F P (b + E c) = k - 1
      · replace q := q.2 g1
        by_cases g2 : F P (b + E (nf c)) = 4294967295
        · replace q := q.2 g2
          cases hb : s.testBit (c / 2) with
          | false =>
            rw [hb] at q
            exact go F g (q.1 (by decide)) spO.rf (same (fun z => by rw [hb] at z; cases z))
          | true =>
            rw [hb] at q
            have d1 : ds L E (fun l => s.testBit l) r (k - 1) (E c) := by
              have := ((i1 _ hE1).1 (by clear q; rw [g1]; omega)).1
              rw [g1] at this
              exact this
            have d2 : ds L E (fun l => s.testBit l) r k (E (nf c)) := by
              clear q
              refine ⟨?_, fun e he hw => ?_⟩
              · rw [show k = (k - 1) + 1 by omega]
                exact ⟨c, hl, hb, rfl, d1.1⟩
              · obtain ⟨e2, h1, h2⟩ := ds_ex hw
                have := (i1 _ hE2).2 e2 (by omega) h2
                rw [g2] at this
                omega
            refine go _ _ (q.2 rfl) (spO.wr hE2) ⟨fun u hu => ?_, fun c' h1 h2 h3 h4 => ?_, fun z => by cases z⟩
            · by_cases hu2 : u = E (nf c)
              · subst hu2
                rw [fu_same]
                exact ⟨fun _ => ⟨d2, Nat.le_refl k⟩, fun d hd hds => by have := ds_fun hds d2; omega⟩
              · rw [fu_i (by omega)]
                exact i1 u hu
            · by_cases hu2 : E (nf c') = E (nf c)
              · rw [hu2, fu_same]
                omega
              · rw [fu_i (by omega)]
                rcases Nat.lt_or_ge c' c with z | z
                · exact i2 c' z h2 h3 h4
                · have : c' = c := by omega
                  subst this
                  exact absurd rfl hu2
        · exact go F g (q.1 g2) spO.rf (same (fun _ _ => g2))
      · refine go F g (q.1 g1) spO.rf (same (fun hb hd => ?_))
        exact absurd ((i1 _ hE1).2 (k - 1) (by omega) hd) g1
    · replace q := q.1 (by rw [b_le (by omega) (by omega)]; exact hl)
      rw [b_add (show k + 1 < 4294967296 by omega)] at q
      obtain ⟨m, hm, hR⟩ := q
      obtain ⟨i1, i2, i3⟩ := hI
      have key : ∀ u, ds L E (fun l => s.testBit l) r k u → u < nn ∧ F P (b + u) = k := by
        intro u hd
        have hu : u < nn := ds_v hr (fun j hj => (hN.2.2 j hj).1) hd
        refine ⟨hu, ?_⟩
        have hd2 := hd
        rw [show k = (k - 1) + 1 by omega] at hd2
        obtain ⟨c', h1, h2, h3, h4⟩ := ds_pred hd2
        have := i2 c' (by omega) h1 h2 h4
        rw [h3] at this
        exact ds_fun ((i1 u hu).1 this).1 hd
      refine ⟨m, g, F, hm, hR, spO.rf, fun u hu => ⟨fun z => ?_, fun d hd hds => ?_⟩, fun z u hd => ?_⟩
      · obtain ⟨h1, h2⟩ := (i1 u hu).1 z
        exact ⟨h1, by omega⟩
      · rcases Nat.lt_or_ge d k with z | z
        · exact (i1 u hu).2 d z hds
        · have : d = k := by omega
          subst this
          exact (key u hds).2
      · rw [show k + 1 - 1 = k by omega] at hd
        exact i3 z u (key u hd).1 (key u hd).2
theorem sp48 (hN : nt_ok nn L E) (hr : r < nn) (hs : s < 2147483648) (hb : b < 100000) (hP : P ≠ 3 ∧ P ≠ 4 ∧ P ≠ 5) : ∀ (n : Nat) (F : fx_F) (k g : Nat), Rn n k_Gr_spread 48 [(2, 3), (0, s), (3, 0), (2, P), (0, b), (0, g), (0, k), (3, 0), (3, 0), (3, 0)] [] F v F' → cn F nn L E → 1 ≤ k → k ≤ nn → spI1 nn L s r P b E k g F → spO nn P b F F' ∧ c_far (fun u => F' P (b + u)) nn L E (fun l => s.testBit l) r := by
  intro n
  induction n using Nat.strongRecOn with
  | ind n ih =>
    intro F k g h hc hk1 hk hI
    have q := q_Gr_spread_48 h
    have hn := hN.1
    rw [hc.1] at q
    have fin : (∀ u, ¬ ds L E (fun l => s.testBit l) r k u) → F' = F → spO nn P b F F' ∧ c_far (fun u => F' P (b + u)) nn L E (fun l => s.testBit l) r := by
      intro hno e
      subst e
      refine ⟨spO.rf, fun u hu => ⟨fun z => ((hI.1 u hu).1 z).1, fun d hd => ?_⟩⟩
      rcases Nat.lt_or_ge d k with z | z
      · exact (hI.1 u hu).2 d z hd
      · exact absurd hd (ds_none hno d z u)
    rcases Nat.lt_or_ge k nn with hl | hl
    · replace q := q.2 (by rw [b_lt (by omega) (by omega)]; exact hl)
      by_cases hg : g = 0
      · refine fin (fun u hu => ?_) (q.1 hg).2
        obtain ⟨w, hw⟩ := ds_down hu (k - 1) (by omega)
        exact hI.2 hg w hw
      · obtain ⟨m, hm, hR⟩ := q.2 hg
        obtain ⟨m', g', F1, h1, h2, h3, h4⟩ := sp68 hN hr hs hb hP hk1 hl m F 0 0 hR hc (Nat.zero_le _) ⟨fun u hu => ⟨fun z => ⟨((hI.1 u hu).1 z).1, Nat.le_of_lt ((hI.1 u hu).1 z).2⟩, (hI.1 u hu).2⟩, fun c' z => absurd z (Nat.not_lt_zero _), fun _ u hu z => by
          have h1 := (hI.1 u hu).1 (by rw [z]; omega)
          omega⟩
        have hc2 : cn F1 nn L E := hc.keep h3.1 (fun z => hP.1 (List.mem_singleton.mp z).symm) (fun z => hP.2.1 (List.mem_singleton.mp z).symm) (fun z => hP.2.2 (List.mem_singleton.mp z).symm)
        obtain ⟨r1, r2⟩ := ih m' (by omega) F1 (k + 1) g' h2 hc2 (by omega) (by omega) h4
        exact ⟨h3.tr r1, r2⟩
    · refine fin (fun u hu => ?_) (q.1 (by rw [b_le (by omega) (by omega)]; exact hl)).2
      have := ds_lt hr (fun j hj => (hN.2.2 j hj).1) hu
      omega
theorem sp12 (hN : nt_ok nn L E) (hr : r < nn) (hs : s < 2147483648) (hb : b < 100000) (hP : P ≠ 3 ∧ P ≠ 4 ∧ P ≠ 5) : ∀ (n : Nat) (F : fx_F) (i : Nat), Rn n k_Gr_spread 12 [(2, 3), (0, s), (0, r), (2, P), (0, b), (0, i), (3, 0), (3, 0), (3, 0), (3, 0)] [] F v F' → cn F nn L E → i ≤ nn → (∀ u, u < i → F P (b + u) = 4294967295) → spO nn P b F F' ∧ c_far (fun u => F' P (b + u)) nn L E (fun l => s.testBit l) r := by
  intro n
  induction n using Nat.strongRecOn with
  | ind n ih =>
    intro F i h hc hi hI
    have q := q_Gr_spread_12 h
    have hn := hN.1
    rw [hc.1] at q
    have kp : ∀ F1, spO nn P b F F1 → cn F1 nn L E := fun F1 h3 => hc.keep h3.1 (fun z => hP.1 (List.mem_singleton.mp z).symm) (fun z => hP.2.1 (List.mem_singleton.mp z).symm) (fun z => hP.2.2 (List.mem_singleton.mp z).symm)
    rcases Nat.lt_or_ge i nn with hl | hl
    · obtain ⟨m, hm, hR⟩ := q.2 (by rw [b_lt (by omega) (by omega)]; exact hl)
      rw [b_add (show b + i < 4294967296 by omega), b_add (show i + 1 < 4294967296 by omega)] at hR
      obtain ⟨r1, r2⟩ := ih m hm _ (i + 1) hR (kp _ (spO.wr hl)) (by omega) (fun u hu => by
        by_cases hz : u = i
        · rw [hz, fu_same]
        · rw [fu_i (by omega)]
          exact hI u (by omega))
      exact ⟨(spO.wr hl).tr r1, r2⟩
    · obtain ⟨m, hm, hR⟩ := q.1 (by rw [b_le (by omega) (by omega)]; exact hl)
      rw [b_add (show b + r < 4294967296 by omega)] at hR
      have hI1 : spI1 nn L s r P b E 1 1 (fu F P (b + r) 0) := by
        refine ⟨fun u hu => ⟨fun z => ?_, fun d hd hds => ?_⟩, fun z => by cases z⟩
        · by_cases hz : u = r
          · rw [hz, fu_same]
            exact ⟨⟨rfl, fun e he => absurd he (Nat.not_lt_zero _)⟩, by decide⟩
          · rw [fu_i (by omega)] at z
            exact absurd (hI u (by omega)) z
        · have hd0 : d = 0 := by omega
          subst hd0
          have : u = r := hds.1
          rw [this, fu_same]
      obtain ⟨r1, r2⟩ := sp48 hN hr hs hb hP m _ 1 1 hR (kp _ (spO.wr hr)) (Nat.le_refl 1) (by omega) hI1
      exact ⟨(spO.wr hr).tr r1, r2⟩
/-- how far all switches are from one -/
theorem s_spread (hN : nt_ok nn L E) {F : fx_F} (hc : cn F nn L E) (hr : r < nn) (hs : s < 2147483648) (hb : b < 100000) (hP : P ≠ 3 ∧ P ≠ 4 ∧ P ≠ 5) (h : Cl k_Gr_spread [(2, 3), (0, s), (0, r), (2, P), (0, b)] F v F') : spO nn P b F F' ∧ c_far (fun u => F' P (b + u)) nn L E (fun l => s.testBit l) r := by
  obtain ⟨n, h⟩ := c_Gr_spread h
  have q := q_Gr_spread_0 h
  have hn := hN.1
  replace q := q.2 (by rw [b_le (by omega) (by omega)]; exact Nat.zero_le _)
  rw [hc.1] at q
  obtain ⟨m, hm, hR⟩ := q.2 (by rw [b_lt (by omega) (by omega)]; exact hr)
  exact sp12 hN hr hs hb hP m F 0 hR hc (Nat.zero_le _) (fun u hu => absurd hu (Nat.not_lt_zero _))
end SPR
end
