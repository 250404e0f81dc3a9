section
-- TurnNet$Turns.upChannels(I)J
theorem c_Tu_upChannels {a1 : Nat} {F : fx_F} {v : fx_V} {F' : fx_F} (h : Cl k_Tu_upChannels [(2, 45), (0, a1)] F v F') : ∃ n, Rn n k_Tu_upChannels 0 [(2, 45), (0, a1), (3, 0), (3, 0), (3, 0)] [] F v F' := by
  obtain ⟨n, s, hs, h⟩ := h
  rw [sg_107] at hs
  cases hs
  exact ⟨n, h⟩
set_option maxRecDepth 40000 in
theorem q_Tu_upChannels_0 {n : Nat} {a1 : Nat} {F : fx_F} {v : fx_V} {F' : fx_F} (h : Rn n k_Tu_upChannels 0 [(2, 45), (0, a1), (3, 0), (3, 0), (3, 0)] [] F v F') :
  ∃ m, m < n ∧ Rn m k_Tu_upChannels 5 [(2, 45), (0, a1), (1, 0), (3, 0), (0, 0)] [] F v F' := by
  have t := q_ok cv_107 ap_107 (hd := [(5, [1, 1, 1, 0, 1])]) h rfl rfl
  exact t
set_option maxRecDepth 40000 in
theorem q_Tu_upChannels_5 {n : Nat} {l1 l2 l4 : Nat} {F : fx_F} {v : fx_V} {F' : fx_F} (h : Rn n k_Tu_upChannels 5 [(2, 45), (0, l1), (1, l2), (3, 0), (0, l4)] [] F v F') :
  (s_le (i_mul 2 (F 3 1)) l4 →
   v = (1, l2) ∧ F' = F) ∧
  (s_lt l4 (i_mul 2 (F 3 1)) →
   ((i_and (i_shr l1 (i_shr l4 1)) 1) = (i_and l4 1) →
     ∃ m, m < n ∧ Rn m k_Tu_upChannels 5 [(2, 45), (0, l1), (1, l2), (3, 0), (0, i_add l4 1)] [] F v F') ∧
    ((i_and (i_shr l1 (i_shr l4 1)) 1) ≠ (i_and l4 1) →
     ∃ m, m < n ∧ Rn m k_Tu_upChannels 5 [(2, 45), (0, l1), (1, rx_j_or l2 (rx_j_shl 1 l4)), (3, 0), (0, i_add l4 1)] [] F v F')) := by
  have t := q_ok cv_107 ap_107 (hd := [(5, [1, 1, 1, 0, 1])]) h rfl rfl
  exact t
-- TurnNet.about(I)I
theorem c_T_about {a1 : Nat} {F : fx_F} {v : fx_V} {F' : fx_F} (h : Cl k_T_about [(2, 2), (0, a1)] F v F') : ∃ n, Rn n k_T_about 0 [(2, 2), (0, a1)] [] F v F' := by
  obtain ⟨n, s, hs, h⟩ := h
  rw [sg_108] at hs
  cases hs
  exact ⟨n, h⟩
set_option maxRecDepth 40000 in
theorem q_T_about_0 {n : Nat} {a1 : Nat} {F : fx_F} {v : fx_V} {F' : fx_F} (h : Rn n k_T_about 0 [(2, 2), (0, a1)] [] F v F') :
  ((a1 < 0 ∨ 12 ≤ a1) →
   v = (0, 4294967295) ∧ F' = F) ∧
  ((a1 = 0 →
   v = (0, F 3 0) ∧ F' = F) ∧
  ((a1 = 1 →
   v = (0, F 3 1) ∧ F' = F) ∧
  ((a1 = 2 →
   ∃ (n1 : Nat) (F1 : fx_F), Cl k_I_bitCount [(0, F (F 2 13) 2)] F (0, n1) F1 ∧
    v = (0, n1) ∧ F' = F1) ∧
  ((a1 = 3 →
   ((F 3 0) ≠ 0 →
     v = (0, F (F 2 13) 0) ∧ F' = F) ∧
    ((F 3 0) = 0 →
     v = (0, 4294967295) ∧ F' = F)) ∧
  ((a1 = 4 →
   v = (0, F 3 3) ∧ F' = F) ∧
  ((a1 = 5 →
   ∃ (n1 : Nat) (F1 : fx_F), Cl k_St_countPackets [(2, F 2 13)] F (0, n1) F1 ∧
    v = (0, n1) ∧ F' = F1) ∧
  ((a1 = 6 →
   v = (0, F (F 2 13) 3) ∧ F' = F) ∧
  ((a1 = 7 →
   v = (0, F (F 2 13) 4) ∧ F' = F) ∧
  ((a1 = 8 →
   v = (0, F 3 4) ∧ F' = F) ∧
  ((a1 = 9 →
   v = (0, F 51 2) ∧ F' = F) ∧
  ((a1 = 10 →
   v = (0, F 51 3) ∧ F' = F) ∧
  ((a1 = 11 →
   v = (0, F 10 1) ∧ F' = F) ∧ True)))))))))))) := by
  have t := q_ok cv_108 ap_108 (hd := []) h rfl rfl
  exact t
-- TurnNet.feed(IIIII)I
theorem c_T_feed {a1 a2 a3 a4 a5 : Nat} {F : fx_F} {v : fx_V} {F' : fx_F} (h : Cl k_T_feed [(2, 2), (0, a1), (0, a2), (0, a3), (0, a4), (0, a5)] F v F') : ∃ n, Rn n k_T_feed 0 [(2, 2), (0, a1), (0, a2), (0, a3), (0, a4), (0, a5)] [] F v F' := by
  obtain ⟨n, s, hs, h⟩ := h
  rw [sg_109] at hs
  cases hs
  exact ⟨n, h⟩
set_option maxRecDepth 40000 in
theorem q_T_feed_0 {n : Nat} {a1 a2 a3 a4 a5 : Nat} {F : fx_F} {v : fx_V} {F' : fx_F} (h : Rn n k_T_feed 0 [(2, 2), (0, a1), (0, a2), (0, a3), (0, a4), (0, a5)] [] F v F') :
  (s_le (i_add (F 10 1) 20) 800 →
   ∃ F1 : fx_F, Cl k_Rd_append [(2, 10), (0, a1)] F (2, 0) F1 ∧
    ∃ F2 : fx_F, Cl k_Rd_append [(2, 10), (0, a2)] F1 (2, 0) F2 ∧
     ∃ F3 : fx_F, Cl k_Rd_append [(2, 10), (0, a3)] F2 (2, 0) F3 ∧
      ∃ F4 : fx_F, Cl k_Rd_append [(2, 10), (0, a4)] F3 (2, 0) F4 ∧
       ∃ F5 : fx_F, Cl k_Rd_append [(2, 10), (0, a5)] F4 (2, 0) F5 ∧
        v = (0, F5 10 1) ∧ F' = F5) ∧
  (s_lt 800 (i_add (F 10 1) 20) →
   v = (0, 4294967295) ∧ F' = F) := by
  have t := q_ok cv_109 ap_109 (hd := []) h rfl rfl
  exact t
-- TurnNet.hopsWhereWays()I
theorem c_T_hopsWhereWays {F : fx_F} {v : fx_V} {F' : fx_F} (h : Cl k_T_hopsWhereWays [(2, 2)] F v F') : ∃ n, Rn n k_T_hopsWhereWays 0 [(2, 2), (3, 0), (3, 0), (3, 0)] [] F v F' := by
  obtain ⟨n, s, hs, h⟩ := h
  rw [sg_110] at hs
  cases hs
  exact ⟨n, h⟩
set_option maxRecDepth 40000 in
theorem q_T_hopsWhereWays_0 {n : Nat} {F : fx_F} {v : fx_V} {F' : fx_F} (h : Rn n k_T_hopsWhereWays 0 [(2, 2), (3, 0), (3, 0), (3, 0)] [] F v F') :
  ∃ m, m < n ∧ Rn m k_T_hopsWhereWays 4 [(2, 2), (0, 0), (0, 0), (3, 0)] [] F v F' := by
  have t := q_ok cv_110 ap_110 (hd := [(4, [1, 1, 1, 0]), (17, [1, 1, 1, 1])]) h rfl rfl
  exact t
set_option maxRecDepth 40000 in
theorem q_T_hopsWhereWays_4 {n : Nat} {l1 l2 : Nat} {F : fx_F} {v : fx_V} {F' : fx_F} (h : Rn n k_T_hopsWhereWays 4 [(2, 2), (0, l1), (0, l2), (3, 0)] [] F v F') :
  (s_le (F 3 0) l2 →
   v = (0, l1) ∧ F' = F) ∧
  (s_lt l2 (F 3 0) →
   ∃ m, m < n ∧ Rn m k_T_hopsWhereWays 17 [(2, 2), (0, l1), (0, l2), (0, 0)] [] F v F') := by
  have t := q_ok cv_110 ap_110 (hd := [(4, [1, 1, 1, 0]), (17, [1, 1, 1, 1])]) h rfl rfl
  exact t
set_option maxRecDepth 40000 in
theorem q_T_hopsWhereWays_17 {n : Nat} {l1 l2 l3 : Nat} {F : fx_F} {v : fx_V} {F' : fx_F} (h : Rn n k_T_hopsWhereWays 17 [(2, 2), (0, l1), (0, l2), (0, l3)] [] F v F') :
  (s_le (F 3 0) l3 →
   ∃ m, m < n ∧ Rn m k_T_hopsWhereWays 4 [(2, 2), (0, l1), (0, i_add l2 1), (3, 0)] [] F v F') ∧
  (s_lt l3 (F 3 0) →
   (s_le (F 25 (i_add (i_mul l3 20) (i_mul 2 l2))) 0 →
     ∃ m, m < n ∧ Rn m k_T_hopsWhereWays 17 [(2, 2), (0, l1), (0, l2), (0, i_add l3 1)] [] F v F') ∧
    (s_lt 0 (F 25 (i_add (i_mul l3 20) (i_mul 2 l2))) →
     ∃ m, m < n ∧ Rn m k_T_hopsWhereWays 17 [(2, 2), (0, i_add l1 (F 41 (i_add (i_mul l2 10) l3))), (0, l2), (0, i_add l3 1)] [] F v F')) := by
  have t := q_ok cv_110 ap_110 (hd := [(4, [1, 1, 1, 0]), (17, [1, 1, 1, 1])]) h rfl rfl
  exact t
-- TurnNet.link(II)I
theorem c_T_link {a1 a2 : Nat} {F : fx_F} {v : fx_V} {F' : fx_F} (h : Cl k_T_link [(2, 2), (0, a1), (0, a2)] F v F') : ∃ n, Rn n k_T_link 0 [(2, 2), (0, a1), (0, a2)] [] F v F' := by
  obtain ⟨n, s, hs, h⟩ := h
  rw [sg_111] at hs
  cases hs
  exact ⟨n, h⟩
set_option maxRecDepth 40000 in
theorem q_T_link_0 {n : Nat} {a1 a2 : Nat} {F : fx_F} {v : fx_V} {F' : fx_F} (h : Rn n k_T_link 0 [(2, 2), (0, a1), (0, a2)] [] F v F') :
  (s_lt a1 0 →
   v = (0, 4294967295) ∧ F' = F) ∧
  (s_le 0 a1 →
   (s_le (F 3 1) a1 →
     v = (0, 4294967295) ∧ F' = F) ∧
    (s_lt a1 (F 3 1) →
     ((a2 < 0 ∨ 4 ≤ a2) →
       v = (0, 4294967295) ∧ F' = F) ∧
      ((a2 = 0 →
       v = (0, F 4 (i_mul 2 a1)) ∧ F' = F) ∧
      ((a2 = 1 →
       v = (0, F 5 (i_mul 2 a1)) ∧ F' = F) ∧
      ((a2 = 2 →
       ((i_and (i_shr (F (F 2 13) 1) a1) 1) ≠ 1 →
         v = (0, F 4 (i_mul 2 a1)) ∧ F' = F) ∧
        ((i_and (i_shr (F (F 2 13) 1) a1) 1) = 1 →
         v = (0, F 5 (i_mul 2 a1)) ∧ F' = F)) ∧
      ((a2 = 3 →
       ((i_and (i_shr (F (F 2 13) 2) a1) 1) ≠ 1 →
         v = (0, 0) ∧ F' = F) ∧
        ((i_and (i_shr (F (F 2 13) 2) a1) 1) = 1 →
         v = (0, 1) ∧ F' = F)) ∧ True)))))) := by
  have t := q_ok cv_111 ap_111 (hd := []) h rfl rfl
  exact t
-- TurnNetModel.aboveOf(I)I
theorem c_M_aboveOf {a1 : Nat} {F : fx_F} {v : fx_V} {F' : fx_F} (h : Cl k_M_aboveOf [(2, 175), (0, a1)] F v F') : ∃ n, Rn n k_M_aboveOf 0 [(2, 175), (0, a1), (3, 0), (3, 0)] [] F v F' := by
  obtain ⟨n, s, hs, h⟩ := h
  rw [sg_112] at hs
  cases hs
  exact ⟨n, h⟩
set_option maxRecDepth 40000 in
theorem q_M_aboveOf_0 {n : Nat} {a1 : Nat} {F : fx_F} {v : fx_V} {F' : fx_F} (h : Rn n k_M_aboveOf 0 [(2, 175), (0, a1), (3, 0), (3, 0)] [] F v F') :
  ∃ m, m < n ∧ Rn m k_M_aboveOf 4 [(2, 175), (0, a1), (0, 0), (0, 0)] [] F v F' := by
  have t := q_ok cv_112 ap_112 (hd := [(4, [1, 1, 1, 1])]) h rfl rfl
  exact t
set_option maxRecDepth 40000 in
theorem q_M_aboveOf_4 {n : Nat} {l1 l2 l3 : Nat} {F : fx_F} {v : fx_V} {F' : fx_F} (h : Rn n k_M_aboveOf 4 [(2, 175), (0, l1), (0, l2), (0, l3)] [] F v F') :
  (s_le (F 177 (F 175 9)) l3 →
   v = (0, l2) ∧ F' = F) ∧
  (s_lt l3 (F 177 (F 175 9)) →
   (l3 = l1 →
     ∃ m, m < n ∧ Rn m k_M_aboveOf 4 [(2, 175), (0, l1), (0, i_add l2 0), (0, i_add l3 1)] [] F v F') ∧
    (l3 ≠ l1 →
     (s_lt (F 189 l3) (F 189 l1) →
       ∃ m, m < n ∧ Rn m k_M_aboveOf 4 [(2, 175), (0, l1), (0, i_add l2 1), (0, i_add l3 1)] [] F v F') ∧
      (s_le (F 189 l1) (F 189 l3) →
       ((F 189 l3) ≠ (F 189 l1) →
         ∃ m, m < n ∧ Rn m k_M_aboveOf 4 [(2, 175), (0, l1), (0, i_add l2 0), (0, i_add l3 1)] [] F v F') ∧
        ((F 189 l3) = (F 189 l1) →
         (s_le l1 l3 →
           ∃ m, m < n ∧ Rn m k_M_aboveOf 4 [(2, 175), (0, l1), (0, i_add l2 0), (0, i_add l3 1)] [] F v F') ∧
          (s_lt l3 l1 →
           ∃ m, m < n ∧ Rn m k_M_aboveOf 4 [(2, 175), (0, l1), (0, i_add l2 1), (0, i_add l3 1)] [] F v F'))))) := by
  have t := q_ok cv_112 ap_112 (hd := [(4, [1, 1, 1, 1])]) h rfl rfl
  exact t
-- TurnNetModel.back(I)I
theorem c_M_back {a1 : Nat} {F : fx_F} {v : fx_V} {F' : fx_F} (h : Cl k_M_back [(2, 175), (0, a1)] F v F') : ∃ n, Rn n k_M_back 0 [(2, 175), (0, a1), (3, 0)] [] F v F' := by
  obtain ⟨n, s, hs, h⟩ := h
  rw [sg_113] at hs
  cases hs
  exact ⟨n, h⟩
set_option maxRecDepth 40000 in
theorem q_M_back_0 {n : Nat} {a1 : Nat} {F : fx_F} {v : fx_V} {F' : fx_F} (h : Rn n k_M_back 0 [(2, 175), (0, a1), (3, 0)] [] F v F') :
  (s_lt a1 0 →
   v = (0, 4294967295) ∧ F' = F) ∧
  (s_le 0 a1 →
   (s_lt 1 a1 →
     v = (0, 4294967295) ∧ F' = F) ∧
    (s_le a1 1 →
     ((F 206 a1) ≠ 0 →
       ∃ m, m < n ∧ Rn m k_M_back 22 [(2, 175), (0, a1), (0, 0)] [] F v F') ∧
      ((F 206 a1) = 0 →
       v = (0, 4294967295) ∧ F' = F))) := by
  have t := q_ok cv_113 ap_113 (hd := [(22, [1, 1, 1])]) h rfl rfl
  exact t
set_option maxRecDepth 40000 in
theorem q_M_back_22 {n : Nat} {l1 l2 : Nat} {F : fx_F} {v : fx_V} {F' : fx_F} (h : Rn n k_M_back 22 [(2, 175), (0, l1), (0, l2)] [] F v F') :
  (s_le 103 l2 →
   ∃ (n1 : Nat) (F1 : fx_F), Cl k_M_packetsNow [(2, 175)] (fu (fu F 175 56 0) 175 57 0) (0, n1) F1 ∧
    v = (0, n1) ∧ F' = F1) ∧
  (s_lt l2 103 →
   ∃ m, m < n ∧ Rn m k_M_back 22 [(2, 175), (0, l1), (0, i_add l2 1)] [] (fu F 176 l2 (F 205 (i_add (i_mul 103 l1) l2))) v F') := by
  have t := q_ok cv_113 ap_113 (hd := [(22, [1, 1, 1])]) h rfl rfl
  exact t
-- TurnNetModel.channels()I
theorem c_M_channels {F : fx_F} {v : fx_V} {F' : fx_F} (h : Cl k_M_channels [(2, 175)] F v F') : ∃ n, Rn n k_M_channels 0 [(2, 175)] [] F v F' := by
  obtain ⟨n, s, hs, h⟩ := h
  rw [sg_114] at hs
  cases hs
  exact ⟨n, h⟩
set_option maxRecDepth 40000 in
theorem q_M_channels_0 {n : Nat} {F : fx_F} {v : fx_V} {F' : fx_F} (h : Rn n k_M_channels 0 [(2, 175)] [] F v F') :
  v = (0, i_mul 2 (F 178 (F 175 9))) ∧ F' = F := by
  have t := q_ok cv_114 ap_114 (hd := []) h rfl rfl
  exact t
-- TurnNetModel.endOf(II)I
theorem c_M_endOf {a1 a2 : Nat} {F : fx_F} {v : fx_V} {F' : fx_F} (h : Cl k_M_endOf [(2, 175), (0, a1), (0, a2)] F v F') : ∃ n, Rn n k_M_endOf 0 [(2, 175), (0, a1), (0, a2)] [] F v F' := by
  obtain ⟨n, s, hs, h⟩ := h
  rw [sg_115] at hs
  cases hs
  exact ⟨n, h⟩
set_option maxRecDepth 40000 in
theorem q_M_endOf_0 {n : Nat} {a1 a2 : Nat} {F : fx_F} {v : fx_V} {F' : fx_F} (h : Rn n k_M_endOf 0 [(2, 175), (0, a1), (0, a2)] [] F v F') :
  v = (0, F 183 (i_add (i_add (i_mul 40 (F 175 9)) (i_mul 2 a1)) a2)) ∧ F' = F := by
  have t := q_ok cv_115 ap_115 (hd := []) h rfl rfl
  exact t
-- TurnNetModel.flips()I
theorem c_M_flips {F : fx_F} {v : fx_V} {F' : fx_F} (h : Cl k_M_flips [(2, 175)] F v F') : ∃ n, Rn n k_M_flips 0 [(2, 175), (3, 0), (3, 0)] [] F v F' := by
  obtain ⟨n, s, hs, h⟩ := h
  rw [sg_116] at hs
  cases hs
  exact ⟨n, h⟩
set_option maxRecDepth 40000 in
theorem q_M_flips_0 {n : Nat} {F : fx_F} {v : fx_V} {F' : fx_F} (h : Rn n k_M_flips 0 [(2, 175), (3, 0), (3, 0)] [] F v F') :
  ∃ m, m < n ∧ Rn m k_M_flips 4 [(2, 175), (0, 0), (0, 0)] [] F v F' := by
  have t := q_ok cv_116 ap_116 (hd := [(4, [1, 1, 1])]) h rfl rfl
  exact t
set_option maxRecDepth 40000 in
theorem q_M_flips_4 {n : Nat} {l1 l2 : Nat} {F : fx_F} {v : fx_V} {F' : fx_F} (h : Rn n k_M_flips 4 [(2, 175), (0, l1), (0, l2)] [] F v F') :
  (s_le (F 178 (F 175 9)) l2 →
   v = (0, l1) ∧ F' = F) ∧
  (s_lt l2 (F 178 (F 175 9)) →
   ((F 190 l2) = (F 176 (i_add 20 l2)) →
     ∃ m, m < n ∧ Rn m k_M_flips 4 [(2, 175), (0, i_add l1 0), (0, i_add l2 1)] [] F v F') ∧
    ((F 190 l2) ≠ (F 176 (i_add 20 l2)) →
     ∃ m, m < n ∧ Rn m k_M_flips 4 [(2, 175), (0, i_add l1 1), (0, i_add l2 1)] [] F v F')) := by
  have t := q_ok cv_116 ap_116 (hd := [(4, [1, 1, 1])]) h rfl rfl
  exact t
-- TurnNetModel.goSend(II)I
theorem c_M_goSend {a1 a2 : Nat} {F : fx_F} {v : fx_V} {F' : fx_F} (h : Cl k_M_goSend [(2, 175), (0, a1), (0, a2)] F v F') : ∃ n, Rn n k_M_goSend 0 [(2, 175), (0, a1), (0, a2), (3, 0)] [] F v F' := by
  obtain ⟨n, s, hs, h⟩ := h
  rw [sg_117] at hs
  cases hs
  exact ⟨n, h⟩
set_option maxRecDepth 40000 in
theorem q_M_goSend_0 {n : Nat} {a1 a2 : Nat} {F : fx_F} {v : fx_V} {F' : fx_F} (h : Rn n k_M_goSend 0 [(2, 175), (0, a1), (0, a2), (3, 0)] [] F v F') :
  ∃ (n1 : Nat) (F1 : fx_F), Cl k_M_freePacket [(2, 175)] F (0, n1) F1 ∧
  v = (0, n1) ∧ F' = (fu (fu (fu (fu (fu F1 176 (i_add 41 n1) 1) 176 (i_add 53 n1) a2) 176 (i_add 65 n1) a1) 176 (i_add 77 n1) 4294967295) 176 (i_add 89 n1) 0) := by
  have t := q_ok cv_117 ap_117 (hd := []) h rfl rfl
  exact t
-- TurnNetModel.image(I)I
theorem c_M_image {a1 : Nat} {F : fx_F} {v : fx_V} {F' : fx_F} (h : Cl k_M_image [(2, 175), (0, a1)] F v F') : ∃ n, Rn n k_M_image 0 [(2, 175), (0, a1), (3, 0)] [] F v F' := by
  obtain ⟨n, s, hs, h⟩ := h
  rw [sg_118] at hs
  cases hs
  exact ⟨n, h⟩
set_option maxRecDepth 40000 in
theorem q_M_image_0 {n : Nat} {a1 : Nat} {F : fx_F} {v : fx_V} {F' : fx_F} (h : Rn n k_M_image 0 [(2, 175), (0, a1), (3, 0)] [] F v F') :
  (s_lt a1 0 →
   v = (0, 4294967295) ∧ F' = F) ∧
  (s_le 0 a1 →
   (s_lt 1 a1 →
     v = (0, 4294967295) ∧ F' = F) ∧
    (s_le a1 1 →
     ∃ m, m < n ∧ Rn m k_M_image 13 [(2, 175), (0, a1), (0, 0)] [] F v F')) := by
  have t := q_ok cv_118 ap_118 (hd := [(13, [1, 1, 1])]) h rfl rfl
  exact t
set_option maxRecDepth 40000 in
theorem q_M_image_13 {n : Nat} {l1 l2 : Nat} {F : fx_F} {v : fx_V} {F' : fx_F} (h : Rn n k_M_image 13 [(2, 175), (0, l1), (0, l2)] [] F v F') :
  (s_le 103 l2 →
   ∃ (n1 : Nat) (F1 : fx_F), Cl k_M_packetsNow [(2, 175)] (fu F 206 l1 1) (0, n1) F1 ∧
    v = (0, n1) ∧ F' = F1) ∧
  (s_lt l2 103 →
   ∃ m, m < n ∧ Rn m k_M_image 13 [(2, 175), (0, l1), (0, i_add l2 1)] [] (fu F 205 (i_add (i_mul 103 l1) l2) (F 176 l2)) v F') := by
  have t := q_ok cv_118 ap_118 (hd := [(13, [1, 1, 1])]) h rfl rfl
  exact t
-- TurnNetModel.isChannel(I)Z
theorem c_M_isChannel {a1 : Nat} {F : fx_F} {v : fx_V} {F' : fx_F} (h : Cl k_M_isChannel [(2, 175), (0, a1)] F v F') : ∃ n, Rn n k_M_isChannel 0 [(2, 175), (0, a1)] [] F v F' := by
  obtain ⟨n, s, hs, h⟩ := h
  rw [sg_120] at hs
  cases hs
  exact ⟨n, h⟩
set_option maxRecDepth 40000 in
theorem q_M_isChannel_0 {n : Nat} {a1 : Nat} {F : fx_F} {v : fx_V} {F' : fx_F} (h : Rn n k_M_isChannel 0 [(2, 175), (0, a1)] [] F v F') :
  (s_lt a1 0 →
   v = (0, 0) ∧ F' = F) ∧
  (s_le 0 a1 →
   (s_lt (i_sub (i_mul 2 (F 178 (F 175 9))) 1) a1 →
     v = (0, 0) ∧ F' = F) ∧
    (s_le a1 (i_sub (i_mul 2 (F 178 (F 175 9))) 1) →
     v = (0, 1) ∧ F' = F)) := by
  have t := q_ok cv_120 ap_120 (hd := []) h rfl rfl
  exact t
-- TurnNetModel.isLink(I)Z
theorem c_M_isLink {a1 : Nat} {F : fx_F} {v : fx_V} {F' : fx_F} (h : Cl k_M_isLink [(2, 175), (0, a1)] F v F') : ∃ n, Rn n k_M_isLink 0 [(2, 175), (0, a1)] [] F v F' := by
  obtain ⟨n, s, hs, h⟩ := h
  rw [sg_122] at hs
  cases hs
  exact ⟨n, h⟩
set_option maxRecDepth 40000 in
theorem q_M_isLink_0 {n : Nat} {a1 : Nat} {F : fx_F} {v : fx_V} {F' : fx_F} (h : Rn n k_M_isLink 0 [(2, 175), (0, a1)] [] F v F') :
  (s_lt a1 0 →
   v = (0, 0) ∧ F' = F) ∧
  (s_le 0 a1 →
   (s_lt (i_sub (F 178 (F 175 9)) 1) a1 →
     v = (0, 0) ∧ F' = F) ∧
    (s_le a1 (i_sub (F 178 (F 175 9)) 1) →
     v = (0, 1) ∧ F' = F)) := by
  have t := q_ok cv_122 ap_122 (hd := []) h rfl rfl
  exact t
-- TurnNetModel.isNode(I)Z
theorem c_M_isNode {a1 : Nat} {F : fx_F} {v : fx_V} {F' : fx_F} (h : Cl k_M_isNode [(2, 175), (0, a1)] F v F') : ∃ n, Rn n k_M_isNode 0 [(2, 175), (0, a1)] [] F v F' := by
  obtain ⟨n, s, hs, h⟩ := h
  rw [sg_123] at hs
  cases hs
  exact ⟨n, h⟩
set_option maxRecDepth 40000 in
theorem q_M_isNode_0 {n : Nat} {a1 : Nat} {F : fx_F} {v : fx_V} {F' : fx_F} (h : Rn n k_M_isNode 0 [(2, 175), (0, a1)] [] F v F') :
  (s_lt a1 0 →
   v = (0, 0) ∧ F' = F) ∧
  (s_le 0 a1 →
   (s_lt (i_sub (F 177 (F 175 9)) 1) a1 →
     v = (0, 0) ∧ F' = F) ∧
    (s_le a1 (i_sub (F 177 (F 175 9)) 1) →
     v = (0, 1) ∧ F' = F)) := by
  have t := q_ok cv_123 ap_123 (hd := []) h rfl rfl
  exact t
-- TurnNetModel.isPacket(I)Z
theorem c_M_isPacket {a1 : Nat} {F : fx_F} {v : fx_V} {F' : fx_F} (h : Cl k_M_isPacket [(2, 175), (0, a1)] F v F') : ∃ n, Rn n k_M_isPacket 0 [(2, 175), (0, a1)] [] F v F' := by
  obtain ⟨n, s, hs, h⟩ := h
  rw [sg_124] at hs
  cases hs
  exact ⟨n, h⟩
set_option maxRecDepth 40000 in
theorem q_M_isPacket_0 {n : Nat} {a1 : Nat} {F : fx_F} {v : fx_V} {F' : fx_F} (h : Rn n k_M_isPacket 0 [(2, 175), (0, a1)] [] F v F') :
  (s_lt a1 0 →
   v = (0, 0) ∧ F' = F) ∧
  (s_le 0 a1 →
   (s_lt 11 a1 →
     v = (0, 0) ∧ F' = F) ∧
    (s_le a1 11 →
     ((F 176 (i_add 41 a1)) ≠ 1 →
       v = (0, 0) ∧ F' = F) ∧
      ((F 176 (i_add 41 a1)) = 1 →
       v = (0, 1) ∧ F' = F))) := by
  have t := q_ok cv_124 ap_124 (hd := []) h rfl rfl
  exact t
-- TurnNetModel.lengthTo(II)I
theorem c_M_lengthTo {a1 a2 : Nat} {F : fx_F} {v : fx_V} {F' : fx_F} (h : Cl k_M_lengthTo [(2, 175), (0, a1), (0, a2)] F v F') : ∃ n, Rn n k_M_lengthTo 0 [(2, 175), (0, a1), (0, a2)] [] F v F' := by
  obtain ⟨n, s, hs, h⟩ := h
  rw [sg_126] at hs
  cases hs
  exact ⟨n, h⟩
set_option maxRecDepth 40000 in
theorem q_M_lengthTo_0 {n : Nat} {a1 a2 : Nat} {F : fx_F} {v : fx_V} {F' : fx_F} (h : Rn n k_M_lengthTo 0 [(2, 175), (0, a1), (0, a2)] [] F v F') :
  v = (0, F 193 (i_add (i_add (i_mul 20 a2) (i_mul 2 a1)) 0)) ∧ F' = F := by
  have t := q_ok cv_126 ap_126 (hd := []) h rfl rfl
  exact t
-- TurnNetModel.redo()Z
theorem c_M_redo {F : fx_F} {v : fx_V} {F' : fx_F} (h : Cl k_M_redo [(2, 175)] F v F') : ∃ n, Rn n k_M_redo 0 [(2, 175)] [] F v F' := by
  obtain ⟨n, s, hs, h⟩ := h
  rw [sg_127] at hs
  cases hs
  exact ⟨n, h⟩
set_option maxRecDepth 40000 in
theorem q_M_redo_0 {n : Nat} {F : fx_F} {v : fx_V} {F' : fx_F} (h : Rn n k_M_redo 0 [(2, 175)] [] F v F') :
  ((F 175 57) ≠ 0 →
   ∃ F1 : fx_F, Cl k_M_swapAll [(2, 175)] F (2, 0) F1 ∧
    v = (0, 1) ∧ F' = (fu (fu F1 175 56 (i_add (F1 175 56) 1)) 175 57 (i_sub (F1 175 57) 1))) ∧
  ((F 175 57) = 0 →
   v = (0, 0) ∧ F' = F) := by
  have t := q_ok cv_127 ap_127 (hd := []) h rfl rfl
  exact t
-- TurnNetModel.standing()I
theorem c_M_standing {F : fx_F} {v : fx_V} {F' : fx_F} (h : Cl k_M_standing [(2, 175)] F v F') : ∃ n, Rn n k_M_standing 0 [(2, 175), (3, 0), (3, 0)] [] F v F' := by
  obtain ⟨n, s, hs, h⟩ := h
  rw [sg_130] at hs
  cases hs
  exact ⟨n, h⟩
set_option maxRecDepth 40000 in
theorem q_M_standing_0 {n : Nat} {F : fx_F} {v : fx_V} {F' : fx_F} (h : Rn n k_M_standing 0 [(2, 175), (3, 0), (3, 0)] [] F v F') :
  ∃ m, m < n ∧ Rn m k_M_standing 4 [(2, 175), (0, 0), (0, 0)] [] F v F' := by
  have t := q_ok cv_130 ap_130 (hd := [(4, [1, 1, 1])]) h rfl rfl
  exact t
set_option maxRecDepth 40000 in
theorem q_M_standing_4 {n : Nat} {l1 l2 : Nat} {F : fx_F} {v : fx_V} {F' : fx_F} (h : Rn n k_M_standing 4 [(2, 175), (0, l1), (0, l2)] [] F v F') :
  (s_le (F 178 (F 175 9)) l2 →
   v = (0, l1) ∧ F' = F) ∧
  (s_lt l2 (F 178 (F 175 9)) →
   ((F 176 (i_add 0 l2)) ≠ 1 →
     ∃ m, m < n ∧ Rn m k_M_standing 4 [(2, 175), (0, i_add l1 0), (0, i_add l2 1)] [] F v F') ∧
    ((F 176 (i_add 0 l2)) = 1 →
     ∃ m, m < n ∧ Rn m k_M_standing 4 [(2, 175), (0, i_add l1 1), (0, i_add l2 1)] [] F v F')) := by
  have t := q_ok cv_130 ap_130 (hd := [(4, [1, 1, 1])]) h rfl rfl
  exact t
-- TurnNetModel.takeOver()V
theorem c_M_takeOver {F : fx_F} {v : fx_V} {F' : fx_F} (h : Cl k_M_takeOver [(2, 175)] F v F') : ∃ n, Rn n k_M_takeOver 0 [(2, 175), (3, 0)] [] F v F' := by
  obtain ⟨n, s, hs, h⟩ := h
  rw [sg_131] at hs
  cases hs
  exact ⟨n, h⟩
set_option maxRecDepth 40000 in
theorem q_M_takeOver_0 {n : Nat} {F : fx_F} {v : fx_V} {F' : fx_F} (h : Rn n k_M_takeOver 0 [(2, 175), (3, 0)] [] F v F') :
  ∃ m, m < n ∧ Rn m k_M_takeOver 2 [(2, 175), (0, 0)] [] F v F' := by
  have t := q_ok cv_131 ap_131 (hd := [(2, [1, 1])]) h rfl rfl
  exact t
set_option maxRecDepth 40000 in
theorem q_M_takeOver_2 {n : Nat} {l1 : Nat} {F : fx_F} {v : fx_V} {F' : fx_F} (h : Rn n k_M_takeOver 2 [(2, 175), (0, l1)] [] F v F') :
  (s_le (F 178 (F 175 9)) l1 →
   v = (2, 0) ∧ F' = F) ∧
  (s_lt l1 (F 178 (F 175 9)) →
   ∃ m, m < n ∧ Rn m k_M_takeOver 2 [(2, 175), (0, i_add l1 1)] [] (fu F 176 (i_add 20 l1) (F 190 l1)) v F') := by
  have t := q_ok cv_131 ap_131 (hd := [(2, [1, 1])]) h rfl rfl
  exact t
-- TurnNetModel.turnTaken()V
theorem c_M_turnTaken {F : fx_F} {v : fx_V} {F' : fx_F} (h : Cl k_M_turnTaken [(2, 175)] F v F') : ∃ n, Rn n k_M_turnTaken 0 [(2, 175), (3, 0)] [] F v F' := by
  obtain ⟨n, s, hs, h⟩ := h
  rw [sg_132] at hs
  cases hs
  exact ⟨n, h⟩
set_option maxRecDepth 40000 in
theorem q_M_turnTaken_0 {n : Nat} {F : fx_F} {v : fx_V} {F' : fx_F} (h : Rn n k_M_turnTaken 0 [(2, 175), (3, 0)] [] F v F') :
  ∃ m, m < n ∧ Rn m k_M_turnTaken 2 [(2, 175), (0, 0)] [] F v F' := by
  have t := q_ok cv_132 ap_132 (hd := [(2, [1, 1])]) h rfl rfl
  exact t
set_option maxRecDepth 40000 in
theorem q_M_turnTaken_2 {n : Nat} {l1 : Nat} {F : fx_F} {v : fx_V} {F' : fx_F} (h : Rn n k_M_turnTaken 2 [(2, 175), (0, l1)] [] F v F') :
  (s_le (F 178 (F 175 9)) l1 →
   v = (2, 0) ∧ F' = F) ∧
  (s_lt l1 (F 178 (F 175 9)) →
   ((F 202 l1) = 0 →
     ∃ m, m < n ∧ Rn m k_M_turnTaken 2 [(2, 175), (0, i_add l1 1)] [] F v F') ∧
    ((F 202 l1) ≠ 0 →
     ∃ m, m < n ∧ Rn m k_M_turnTaken 2 [(2, 175), (0, i_add l1 1)] [] (fu F 176 (i_add 20 l1) (F 190 l1)) v F')) := by
  have t := q_ok cv_132 ap_132 (hd := [(2, [1, 1])]) h rfl rfl
  exact t
-- TurnNetModel.undo()Z
theorem c_M_undo {F : fx_F} {v : fx_V} {F' : fx_F} (h : Cl k_M_undo [(2, 175)] F v F') : ∃ n, Rn n k_M_undo 0 [(2, 175)] [] F v F' := by
  obtain ⟨n, s, hs, h⟩ := h
  rw [sg_133] at hs
  cases hs
  exact ⟨n, h⟩
set_option maxRecDepth 40000 in
theorem q_M_undo_0 {n : Nat} {F : fx_F} {v : fx_V} {F' : fx_F} (h : Rn n k_M_undo 0 [(2, 175)] [] F v F') :
  ((F 175 56) ≠ 0 →
   ∃ F1 : fx_F, Cl k_M_swapAll [(2, 175)] (fu (fu F 175 56 (i_sub (F 175 56) 1)) 175 57 (i_add (F 175 57) 1)) (2, 0) F1 ∧
    v = (0, 1) ∧ F' = F1) ∧
  ((F 175 56) = 0 →
   v = (0, 0) ∧ F' = F) := by
  have t := q_ok cv_133 ap_133 (hd := []) h rfl rfl
  exact t
-- TurnNet$Graph.countApart(III)I
theorem c_Gr_countApart {a1 a2 a3 : Nat} {F : fx_F} {v : fx_V} {F' : fx_F} (h : Cl k_Gr_countApart [(2, 40), (0, a1), (0, a2), (0, a3)] F v F') : ∃ n, Rn n k_Gr_countApart 0 [(2, 40), (0, a1), (0, a2), (0, a3), (3, 0), (3, 0)] [] F v F' := by
  obtain ⟨n, s, hs, h⟩ := h
  rw [sg_134] at hs
  cases hs
  exact ⟨n, h⟩
set_option maxRecDepth 40000 in
theorem q_Gr_countApart_0 {n : Nat} {a1 a2 a3 : Nat} {F : fx_F} {v : fx_V} {F' : fx_F} (h : Rn n k_Gr_countApart 0 [(2, 40), (0, a1), (0, a2), (0, a3), (3, 0), (3, 0)] [] F v F') :
  ∃ m, m < n ∧ Rn m k_Gr_countApart 3 [(2, 40), (0, a1), (0, a2), (0, a3), (0, 0), (3, 0)] [] F v F' := by
  have t := q_ok cv_134 ap_134 (hd := [(3, [1, 1, 1, 1, 1, 0]), (35, [1, 1, 1, 1, 1, 1])]) h rfl rfl
  exact t
set_option maxRecDepth 40000 in
theorem q_Gr_countApart_3 {n : Nat} {l1 l2 l3 l4 : Nat} {F : fx_F} {v : fx_V} {F' : fx_F} (h : Rn n k_Gr_countApart 3 [(2, 40), (0, l1), (0, l2), (0, l3), (0, l4), (3, 0)] [] F v F') :
  (s_le (F 3 1) l4 →
   ∃ m, m < n ∧ Rn m k_Gr_countApart 35 [(2, 40), (0, l1), (0, l2), (0, l3), (0, 0), (0, 0)] [] F v F') ∧
  (s_lt l4 (F 3 1) →
   ∃ m, m < n ∧ Rn m k_Gr_countApart 3 [(2, 40), (0, l1), (0, l2), (0, l3), (0, i_add l4 1), (3, 0)] [] (fu F 44 l4 0) v F') := by
  have t := q_ok cv_134 ap_134 (hd := [(3, [1, 1, 1, 1, 1, 0]), (35, [1, 1, 1, 1, 1, 1])]) h rfl rfl
  exact t
set_option maxRecDepth 40000 in
theorem q_Gr_countApart_35 {n : Nat} {l1 l2 l3 l4 l5 : Nat} {F : fx_F} {v : fx_V} {F' : fx_F} (h : Rn n k_Gr_countApart 35 [(2, 40), (0, l1), (0, l2), (0, l3), (0, l4), (0, l5)] [] F v F') :
  (s_le 20 l5 →
   v = (0, l4) ∧ F' = F) ∧
  (s_lt l5 20 →
   ∃ (n1 : Nat) (F1 : fx_F), Cl k_Gr_findRow [(2, 40), (0, l1), (0, l2), (0, l3)] F (0, n1) F1 ∧
    (n1 = 0 →
      v = (0, l4) ∧ F' = F1) ∧
     (n1 ≠ 0 →
      ∃ F2 : fx_F, Cl k_Gr_useRow [(2, 40), (0, l1), (0, l2)] F1 (2, 0) F2 ∧
       ∃ m, m < n ∧ Rn m k_Gr_countApart 35 [(2, 40), (0, l1), (0, l2), (0, l3), (0, i_add l4 1), (0, i_add l5 1)] [] F2 v F')) := by
  have t := q_ok cv_134 ap_134 (hd := [(3, [1, 1, 1, 1, 1, 0]), (35, [1, 1, 1, 1, 1, 1])]) h rfl rfl
  exact t
-- TurnNet$Graph.parts(II)Z
theorem c_Gr_parts {a1 a2 : Nat} {F : fx_F} {v : fx_V} {F' : fx_F} (h : Cl k_Gr_parts [(2, 40), (0, a1), (0, a2)] F v F') : ∃ n, Rn n k_Gr_parts 0 [(2, 40), (0, a1), (0, a2), (3, 0), (3, 0), (3, 0)] [] F v F' := by
  obtain ⟨n, s, hs, h⟩ := h
  rw [sg_135] at hs
  cases hs
  exact ⟨n, h⟩
set_option maxRecDepth 40000 in
theorem q_Gr_parts_0 {n : Nat} {a1 a2 : Nat} {F : fx_F} {v : fx_V} {F' : fx_F} (h : Rn n k_Gr_parts 0 [(2, 40), (0, a1), (0, a2), (3, 0), (3, 0), (3, 0)] [] F v F') :
  ∃ m, m < n ∧ Rn m k_Gr_parts 5 [(2, 40), (0, a1), (3, 0), (0, a2), (0, 0), (3, 0)] [] F v F' := by
  have t := q_ok cv_135 ap_135 (hd := [(5, [1, 1, 0, 1, 1, 0]), (67, [1, 1, 0, 1, 1, 0]), (103, [1, 1, 0, 1, 1, 1])]) h rfl rfl
  exact t
set_option maxRecDepth 40000 in
theorem q_Gr_parts_5 {n : Nat} {l1 l3 l4 : Nat} {F : fx_F} {v : fx_V} {F' : fx_F} (h : Rn n k_Gr_parts 5 [(2, 40), (0, l1), (3, 0), (0, l3), (0, l4), (3, 0)] [] F v F') :
  (s_le (F 3 1) l4 →
   ∃ m, m < n ∧ Rn m k_Gr_parts 67 [(2, 40), (0, l1), (3, 0), (0, l3), (0, 0), (3, 0)] [] F v F') ∧
  (s_lt l4 (F 3 1) →
   ((F 4 (i_mul 2 l4)) = l1 →
     ∃ m, m < n ∧ Rn m k_Gr_parts 5 [(2, 40), (0, l1), (3, 0), (0, i_and l3 (i_xor (i_shl 1 l4) 4294967295)), (0, i_add l4 1), (3, 0)] [] F v F') ∧
    ((F 4 (i_mul 2 l4)) ≠ l1 →
     ((F 5 (i_mul 2 l4)) ≠ l1 →
       ∃ m, m < n ∧ Rn m k_Gr_parts 5 [(2, 40), (0, l1), (3, 0), (0, l3), (0, i_add l4 1), (3, 0)] [] F v F') ∧
      ((F 5 (i_mul 2 l4)) = l1 →
       ∃ m, m < n ∧ Rn m k_Gr_parts 5 [(2, 40), (0, l1), (3, 0), (0, i_and l3 (i_xor (i_shl 1 l4) 4294967295)), (0, i_add l4 1), (3, 0)] [] F v F'))) := by
  have t := q_ok cv_135 ap_135 (hd := [(5, [1, 1, 0, 1, 1, 0]), (67, [1, 1, 0, 1, 1, 0]), (103, [1, 1, 0, 1, 1, 1])]) h rfl rfl
  exact t
set_option maxRecDepth 40000 in
theorem q_Gr_parts_67 {n : Nat} {l1 l3 l4 : Nat} {F : fx_F} {v : fx_V} {F' : fx_F} (h : Rn n k_Gr_parts 67 [(2, 40), (0, l1), (3, 0), (0, l3), (0, l4), (3, 0)] [] F v F') :
  (s_le (F 3 0) l4 →
   v = (0, 0) ∧ F' = F) ∧
  (s_lt l4 (F 3 0) →
   (l4 = l1 →
     ∃ m, m < n ∧ Rn m k_Gr_parts 67 [(2, 40), (0, l1), (3, 0), (0, l3), (0, i_add l4 1), (3, 0)] [] F v F') ∧
    (l4 ≠ l1 →
     ∃ F1 : fx_F, Cl k_Gr_spread [(2, 3), (0, l3), (0, l4), (2, 42), (0, 0)] F (2, 0) F1 ∧
      ∃ m, m < n ∧ Rn m k_Gr_parts 103 [(2, 40), (0, l1), (3, 0), (0, l3), (0, l4), (0, 0)] [] F1 v F')) := by
  have t := q_ok cv_135 ap_135 (hd := [(5, [1, 1, 0, 1, 1, 0]), (67, [1, 1, 0, 1, 1, 0]), (103, [1, 1, 0, 1, 1, 1])]) h rfl rfl
  exact t
set_option maxRecDepth 40000 in
theorem q_Gr_parts_103 {n : Nat} {l1 l3 l4 l5 : Nat} {F : fx_F} {v : fx_V} {F' : fx_F} (h : Rn n k_Gr_parts 103 [(2, 40), (0, l1), (3, 0), (0, l3), (0, l4), (0, l5)] [] F v F') :
  (s_le (F 3 0) l5 →
   ∃ m, m < n ∧ Rn m k_Gr_parts 67 [(2, 40), (0, l1), (3, 0), (0, l3), (0, i_add l4 1), (3, 0)] [] F v F') ∧
  (s_lt l5 (F 3 0) →
   (l5 = l1 →
     ∃ m, m < n ∧ Rn m k_Gr_parts 103 [(2, 40), (0, l1), (3, 0), (0, l3), (0, l4), (0, i_add l5 1)] [] F v F') ∧
    (l5 ≠ l1 →
     ((F 42 l5) ≠ 4294967295 →
       ∃ m, m < n ∧ Rn m k_Gr_parts 103 [(2, 40), (0, l1), (3, 0), (0, l3), (0, l4), (0, i_add l5 1)] [] F v F') ∧
      ((F 42 l5) = 4294967295 →
       ((F 41 (i_add (i_mul l4 10) l5)) = 4294967295 →
         ∃ m, m < n ∧ Rn m k_Gr_parts 103 [(2, 40), (0, l1), (3, 0), (0, l3), (0, l4), (0, i_add l5 1)] [] F v F') ∧
        ((F 41 (i_add (i_mul l4 10) l5)) ≠ 4294967295 →
         v = (0, 1) ∧ F' = F)))) := by
  have t := q_ok cv_135 ap_135 (hd := [(5, [1, 1, 0, 1, 1, 0]), (67, [1, 1, 0, 1, 1, 0]), (103, [1, 1, 0, 1, 1, 1])]) h rfl rfl
  exact t
-- TurnNet$Graph.see(I)V
theorem c_Gr_see {a1 : Nat} {F : fx_F} {v : fx_V} {F' : fx_F} (h : Cl k_Gr_see [(2, 40), (0, a1)] F v F') : ∃ n, Rn n k_Gr_see 0 [(2, 40), (0, a1), (3, 0)] [] F v F' := by
  obtain ⟨n, s, hs, h⟩ := h
  rw [sg_136] at hs
  cases hs
  exact ⟨n, h⟩
set_option maxRecDepth 40000 in
theorem q_Gr_see_0 {n : Nat} {a1 : Nat} {F : fx_F} {v : fx_V} {F' : fx_F} (h : Rn n k_Gr_see 0 [(2, 40), (0, a1), (3, 0)] [] F v F') :
  ∃ m, m < n ∧ Rn m k_Gr_see 2 [(2, 40), (0, a1), (0, 0)] [] F v F' := by
  have t := q_ok cv_136 ap_136 (hd := [(2, [1, 1, 1])]) h rfl rfl
  exact t
set_option maxRecDepth 40000 in
theorem q_Gr_see_2 {n : Nat} {l1 l2 : Nat} {F : fx_F} {v : fx_V} {F' : fx_F} (h : Rn n k_Gr_see 2 [(2, 40), (0, l1), (0, l2)] [] F v F') :
  (s_le (F 3 0) l2 →
   v = (2, 0) ∧ F' = F) ∧
  (s_lt l2 (F 3 0) →
   ∃ F1 : fx_F, Cl k_Gr_spread [(2, 3), (0, l1), (0, l2), (2, 41), (0, i_mul l2 10)] F (2, 0) F1 ∧
    ∃ m, m < n ∧ Rn m k_Gr_see 2 [(2, 40), (0, l1), (0, i_add l2 1)] [] F1 v F') := by
  have t := q_ok cv_136 ap_136 (hd := [(2, [1, 1, 1])]) h rfl rfl
  exact t
-- TurnNet$History.keep(LTurnNet$State;)V
theorem c_Hi_keep {a1 : Nat} {F : fx_F} {v : fx_V} {F' : fx_F} (h : Cl k_Hi_keep [(2, 51), (2, a1)] F v F') : ∃ n, Rn n k_Hi_keep 0 [(2, 51), (2, a1)] [] F v F' := by
  obtain ⟨n, s, hs, h⟩ := h
  rw [sg_138] at hs
  cases hs
  exact ⟨n, h⟩
set_option maxRecDepth 40000 in
theorem q_Hi_keep_0 {n : Nat} {a1 : Nat} {F : fx_F} {v : fx_V} {F' : fx_F} (h : Rn n k_Hi_keep 0 [(2, 51), (2, a1)] [] F v F') :
  ((F 51 2) ≠ 20 →
   ∃ F1 : fx_F, Cl k_St_copyFrom [(2, F 52 (i_rem (i_add (F 51 1) (F 51 2)) 20)), (2, a1)] F (2, 0) F1 ∧
    v = (2, 0) ∧ F' = (fu (fu F1 51 2 (i_add (F1 51 2) 1)) 51 3 0)) ∧
  ((F 51 2) = 20 →
   ∃ F1 : fx_F, Cl k_St_copyFrom [(2, F 52 (i_rem (i_add (i_rem (i_add (F 51 1) 1) 20) (i_sub (F 51 2) 1)) 20)), (2, a1)] (fu (fu F 51 1 (i_rem (i_add (F 51 1) 1) 20)) 51 2 (i_sub (F 51 2) 1)) (2, 0) F1 ∧
    v = (2, 0) ∧ F' = (fu (fu F1 51 2 (i_add (F1 51 2) 1)) 51 3 0)) := by
  have t := q_ok cv_138 ap_138 (hd := []) h rfl rfl
  exact t
-- TurnNet$Net.copyFrom(LTurnNet$Net;)V
theorem c_Net_copyFrom {p a1 : Nat} {F : fx_F} {v : fx_V} {F' : fx_F} (h : Cl k_Net_copyFrom [(2, p), (2, a1)] F v F') : ∃ n, Rn n k_Net_copyFrom 0 [(2, p), (2, a1)] [] F v F' := by
  obtain ⟨n, s, hs, h⟩ := h
  rw [sg_139] at hs
  cases hs
  exact ⟨n, h⟩
set_option maxRecDepth 40000 in
theorem q_Net_copyFrom_0 {n : Nat} {p a1 : Nat} {F : fx_F} {v : fx_V} {F' : fx_F} (h : Rn n k_Net_copyFrom 0 [(2, p), (2, a1)] [] F v F') :
  ∃ F1 : fx_F, Cl k_Net_listChannels [(2, p)] (fcp (fcp (fcp (fcp (fu (fu (fu (fu (fu (fu F p 0 (F a1 0)) p 1 ((fu F p 0 (F a1 0)) a1 1)) p 2 ((fu (fu F p 0 (F a1 0)) p 1 ((fu F p 0 (F a1 0)) a1 1)) a1 2)) p 3 ((fu (fu (fu F p 0 (F a1 0)) p 1 ((fu F p 0 (F a1 0)) a1 1)) p 2 ((fu (fu F p 0 (F a1 0)) p 1 ((fu F p 0 (F a1 0)) a1 1)) a1 2)) a1 3)) p 4 ((fu (fu (fu (fu F p 0 (F a1 0)) p 1 ((fu F p 0 (F a1 0)) a1 1)) p 2 ((fu (fu F p 0 (F a1 0)) p 1 ((fu F p 0 (F a1 0)) a1 1)) a1 2)) p 3 ((fu (fu (fu F p 0 (F a1 0)) p 1 ((fu F p 0 (F a1 0)) a1 1)) p 2 ((fu (fu F p 0 (F a1 0)) p 1 ((fu F p 0 (F a1 0)) a1 1)) a1 2)) a1 3)) a1 4)) p 5 ((fu (fu (fu (fu (fu F p 0 (F a1 0)) p 1 ((fu F p 0 (F a1 0)) a1 1)) p 2 ((fu (fu F p 0 (F a1 0)) p 1 ((fu F p 0 (F a1 0)) a1 1)) a1 2)) p 3 ((fu (fu (fu F p 0 (F a1 0)) p 1 ((fu F p 0 (F a1 0)) a1 1)) p 2 ((fu (fu F p 0 (F a1 0)) p 1 ((fu F p 0 (F a1 0)) a1 1)) a1 2)) a1 3)) p 4 ((fu (fu (fu (fu F p 0 (F a1 0)) p 1 ((fu F p 0 (F a1 0)) a1 1)) p 2 ((fu (fu F p 0 (F a1 0)) p 1 ((fu F p 0 (F a1 0)) a1 1)) a1 2)) p 3 ((fu (fu (fu F p 0 (F a1 0)) p 1 ((fu F p 0 (F a1 0)) a1 1)) p 2 ((fu (fu F p 0 (F a1 0)) p 1 ((fu F p 0 (F a1 0)) a1 1)) a1 2)) a1 3)) a1 4)) a1 5)) (a1 + 1) (p + 1)) (a1 + 2) (p + 2)) (a1 + 5) (p + 5)) (a1 + 6) (p + 6)) (2, 0) F1 ∧
  v = (2, 0) ∧ F' = F1 := by
  have t := q_ok cv_139 ap_139 (hd := []) h rfl rfl
  exact t
-- TurnNet$Order.rate(II)V
theorem c_Or_rate {a1 a2 : Nat} {F : fx_F} {v : fx_V} {F' : fx_F} (h : Cl k_Or_rate [(2, 19), (0, a1), (0, a2)] F v F') : ∃ n, Rn n k_Or_rate 0 [(2, 19), (0, a1), (0, a2), (3, 0)] [] F v F' := by
  obtain ⟨n, s, hs, h⟩ := h
  rw [sg_140] at hs
  cases hs
  exact ⟨n, h⟩
set_option maxRecDepth 40000 in
theorem q_Or_rate_0 {n : Nat} {a1 a2 : Nat} {F : fx_F} {v : fx_V} {F' : fx_F} (h : Rn n k_Or_rate 0 [(2, 19), (0, a1), (0, a2), (3, 0)] [] F v F') :
  ∃ F1 : fx_F, Cl k_Or_countLinks [(2, 19), (0, a2)] F (2, 0) F1 ∧
  ∃ F2 : fx_F, Cl k_Gr_spread [(2, 3), (0, a2), (0, a1), (2, 20), (0, 0)] F1 (2, 0) F2 ∧
   ∃ m, m < n ∧ Rn m k_Or_rate 21 [(2, 19), (3, 0), (3, 0), (0, 0)] [] F2 v F' := by
  have t := q_ok cv_140 ap_140 (hd := [(21, [1, 0, 0, 1])]) h rfl rfl
  exact t
set_option maxRecDepth 40000 in
theorem q_Or_rate_21 {n : Nat} {l3 : Nat} {F : fx_F} {v : fx_V} {F' : fx_F} (h : Rn n k_Or_rate 21 [(2, 19), (3, 0), (3, 0), (0, l3)] [] F v F') :
  (s_le (F 3 0) l3 →
   v = (2, 0) ∧ F' = F) ∧
  (s_lt l3 (F 3 0) →
   ((F 20 l3) ≠ 4294967295 →
     ((F 3 5) ≠ 0 →
       ∃ (n1 : Nat) (F1 : fx_F), Cl k_Or_evaluate [(2, 19), (0, l3)] F (0, n1) F1 ∧
        ∃ m, m < n ∧ Rn m k_Or_rate 21 [(2, 19), (3, 0), (3, 0), (0, i_add l3 1)] [] (fu F1 22 l3 n1) v F') ∧
      ((F 3 5) = 0 →
       ∃ m, m < n ∧ Rn m k_Or_rate 21 [(2, 19), (3, 0), (3, 0), (0, i_add l3 1)] [] (fu F 22 l3 (F 20 l3)) v F')) ∧
    ((F 20 l3) = 4294967295 →
     ((F 3 5) ≠ 0 →
       ∃ (n1 : Nat) (F1 : fx_F), Cl k_Or_evaluate [(2, 19), (0, l3)] (fu F 20 l3 10) (0, n1) F1 ∧
        ∃ m, m < n ∧ Rn m k_Or_rate 21 [(2, 19), (3, 0), (3, 0), (0, i_add l3 1)] [] (fu F1 22 l3 n1) v F') ∧
      ((F 3 5) = 0 →
       ∃ m, m < n ∧ Rn m k_Or_rate 21 [(2, 19), (3, 0), (3, 0), (0, i_add l3 1)] [] (fu (fu F 20 l3 10) 22 l3 ((fu F 20 l3 10) 20 l3)) v F'))) := by
  have t := q_ok cv_140 ap_140 (hd := [(21, [1, 0, 0, 1])]) h rfl rfl
  exact t
-- TurnNet$Reader.readNumber(II)Z
theorem c_Rd_readNumber {a1 a2 : Nat} {F : fx_F} {v : fx_V} {F' : fx_F} (h : Cl k_Rd_readNumber [(2, 10), (0, a1), (0, a2)] F v F') : ∃ n, Rn n k_Rd_readNumber 0 [(2, 10), (0, a1), (0, a2)] [] F v F' := by
  obtain ⟨n, s, hs, h⟩ := h
  rw [sg_142] at hs
  cases hs
  exact ⟨n, h⟩
set_option maxRecDepth 40000 in
theorem q_Rd_readNumber_0 {n : Nat} {a1 a2 : Nat} {F : fx_F} {v : fx_V} {F' : fx_F} (h : Rn n k_Rd_readNumber 0 [(2, 10), (0, a1), (0, a2)] [] F v F') :
  ∃ F1 : fx_F, Cl k_Rd_advance [(2, 10)] F (2, 0) F1 ∧
  ((F1 10 7) = 2 →
    (s_lt (F1 10 8) a1 →
      ∃ (n2 : Nat) (F2 : fx_F), Cl k_Rd_fail [(2, 10), (0, 2)] F1 (0, n2) F2 ∧
       v = (0, n2) ∧ F' = F2) ∧
     (s_le a1 (F1 10 8) →
      (s_le (F1 10 8) a2 →
        v = (0, 1) ∧ F' = F1) ∧
       (s_lt a2 (F1 10 8) →
        ∃ (n2 : Nat) (F2 : fx_F), Cl k_Rd_fail [(2, 10), (0, 2)] F1 (0, n2) F2 ∧
         v = (0, n2) ∧ F' = F2))) ∧
   ((F1 10 7) ≠ 2 →
    ∃ (n2 : Nat) (F2 : fx_F), Cl k_Rd_fail [(2, 10), (0, 1)] F1 (0, n2) F2 ∧
     v = (0, n2) ∧ F' = F2) := by
  have t := q_ok cv_142 ap_142 (hd := []) h rfl rfl
  exact t
-- TurnNet$Reader.readSign(I)Z
theorem c_Rd_readSign {a1 : Nat} {F : fx_F} {v : fx_V} {F' : fx_F} (h : Cl k_Rd_readSign [(2, 10), (0, a1)] F v F') : ∃ n, Rn n k_Rd_readSign 0 [(2, 10), (0, a1)] [] F v F' := by
  obtain ⟨n, s, hs, h⟩ := h
  rw [sg_143] at hs
  cases hs
  exact ⟨n, h⟩
set_option maxRecDepth 40000 in
theorem q_Rd_readSign_0 {n : Nat} {a1 : Nat} {F : fx_F} {v : fx_V} {F' : fx_F} (h : Rn n k_Rd_readSign 0 [(2, 10), (0, a1)] [] F v F') :
  ((F 10 7) = a1 →
   ∃ F1 : fx_F, Cl k_Rd_advance [(2, 10)] F (2, 0) F1 ∧
    v = (0, 1) ∧ F' = F1) ∧
  ((F 10 7) ≠ a1 →
   ∃ (n1 : Nat) (F1 : fx_F), Cl k_Rd_fail [(2, 10), (0, 1)] F (0, n1) F1 ∧
    v = (0, n1) ∧ F' = F1) := by
  have t := q_ok cv_143 ap_143 (hd := []) h rfl rfl
  exact t
-- TurnNet$Routes.addOnward(II)V
theorem c_Ro_addOnward {p a1 a2 : Nat} {F : fx_F} {v : fx_V} {F' : fx_F} (h : Cl k_Ro_addOnward [(2, p), (0, a1), (0, a2)] F v F') : ∃ n, Rn n k_Ro_addOnward 0 [(2, p), (0, a1), (0, a2), (3, 0), (3, 0), (3, 0)] [] F v F' := by
  obtain ⟨n, s, hs, h⟩ := h
  rw [sg_144] at hs
  cases hs
  exact ⟨n, h⟩
set_option maxRecDepth 40000 in
theorem q_Ro_addOnward_0 {n : Nat} {p a1 a2 : Nat} {F : fx_F} {v : fx_V} {F' : fx_F} (h : Rn n k_Ro_addOnward 0 [(2, p), (0, a1), (0, a2), (3, 0), (3, 0), (3, 0)] [] F v F') :
  ∃ m, m < n ∧ Rn m k_Ro_addOnward 15 [(2, p), (0, a1), (0, a2), (0, i_shr a2 1), (0, F 6 (i_shr a2 1)), (3, 0)] [] F v F' := by
  have t := q_ok cv_144 ap_144 (hd := [(15, [1, 1, 1, 1, 1, 0])]) h rfl rfl
  exact t
set_option maxRecDepth 40000 in
theorem q_Ro_addOnward_15 {n : Nat} {p l1 l2 l3 l4 : Nat} {F : fx_F} {v : fx_V} {F' : fx_F} (h : Rn n k_Ro_addOnward 15 [(2, p), (0, l1), (0, l2), (0, l3), (0, l4), (3, 0)] [] F v F') :
  (s_le (F 6 (i_add l3 1)) l4 →
   v = (2, 0) ∧ F' = F) ∧
  (s_lt l4 (F 6 (i_add l3 1)) →
   ∃ (n1 : Nat) (F1 : fx_F), Cl k_Ro_leadsOn [(2, p), (0, l1), (0, F 7 l4), (0, i_and l2 1)] F (0, n1) F1 ∧
    (n1 = 0 →
      ∃ m, m < n ∧ Rn m k_Ro_addOnward 15 [(2, p), (0, l1), (0, l2), (0, l3), (0, i_add l4 1), (3, 0)] [] F1 v F') ∧
     (n1 ≠ 0 →
      ∃ m, m < n ∧ Rn m k_Ro_addOnward 15 [(2, p), (0, l1), (0, l2), (0, l3), (0, i_add l4 1), (3, 0)] [] (fu F1 (p + 6) l2 (rx_j_add (F1 (p + 6) l2) (F1 (p + 6) (i_add (i_mul 2 (F1 5 (F 7 l4))) (F1 (p + 5) (F 7 l4)))))) v F')) := by
  have t := q_ok cv_144 ap_144 (hd := [(15, [1, 1, 1, 1, 1, 0])]) h rfl rfl
  exact t
-- TurnNet$Routes.channelOnPath(III)I
theorem c_Ro_channelOnPath {p a1 a2 a3 : Nat} {F : fx_F} {v : fx_V} {F' : fx_F} (h : Cl k_Ro_channelOnPath [(2, p), (0, a1), (0, a2), (0, a3)] F v F') : ∃ n, Rn n k_Ro_channelOnPath 0 [(2, p), (0, a1), (0, a2), (0, a3), (3, 0), (3, 0)] [] F v F' := by
  obtain ⟨n, s, hs, h⟩ := h
  rw [sg_145] at hs
  cases hs
  exact ⟨n, h⟩
set_option maxRecDepth 40000 in
theorem q_Ro_channelOnPath_0 {n : Nat} {p a1 a2 a3 : Nat} {F : fx_F} {v : fx_V} {F' : fx_F} (h : Rn n k_Ro_channelOnPath 0 [(2, p), (0, a1), (0, a2), (0, a3), (3, 0), (3, 0)] [] F v F') :
  ∃ m, m < n ∧ Rn m k_Ro_channelOnPath 12 [(2, p), (3, 0), (0, a2), (0, a3), (0, F (p + 2) (i_add (i_add (i_mul a2 20) (i_mul 2 a1)) 0)), (0, 0)] [] F v F' := by
  have t := q_ok cv_145 ap_145 (hd := [(12, [1, 0, 1, 1, 1, 1])]) h rfl rfl
  exact t
set_option maxRecDepth 40000 in
theorem q_Ro_channelOnPath_12 {n : Nat} {p l2 l3 l4 l5 : Nat} {F : fx_F} {v : fx_V} {F' : fx_F} (h : Rn n k_Ro_channelOnPath 12 [(2, p), (3, 0), (0, l2), (0, l3), (0, l4), (0, l5)] [] F v F') :
  (s_le l3 l5 →
   v = (0, l4) ∧ F' = F) ∧
  (s_lt l5 l3 →
   (s_le 20 l5 →
     v = (0, l4) ∧ F' = F) ∧
    (s_lt l5 20 →
     (l4 = 4294967295 →
       v = (0, l4) ∧ F' = F) ∧
      (l4 ≠ 4294967295 →
       ∃ m, m < n ∧ Rn m k_Ro_channelOnPath 12 [(2, p), (3, 0), (0, l2), (0, l3), (0, F (p + 2) (i_add (i_mul l2 20) (i_add (i_mul 2 (F 5 l4)) (F (p + 5) l4)))), (0, i_add l5 1)] [] F v F'))) := by
  have t := q_ok cv_145 ap_145 (hd := [(12, [1, 0, 1, 1, 1, 1])]) h rfl rfl
  exact t
-- TurnNet$Routes.countPath(II)V
theorem c_Ro_countPath {p a1 a2 : Nat} {F : fx_F} {v : fx_V} {F' : fx_F} (h : Cl k_Ro_countPath [(2, p), (0, a1), (0, a2)] F v F') : ∃ n, Rn n k_Ro_countPath 0 [(2, p), (0, a1), (0, a2), (3, 0), (3, 0)] [] F v F' := by
  obtain ⟨n, s, hs, h⟩ := h
  rw [sg_146] at hs
  cases hs
  exact ⟨n, h⟩
set_option maxRecDepth 40000 in
theorem q_Ro_countPath_0 {n : Nat} {p a1 a2 : Nat} {F : fx_F} {v : fx_V} {F' : fx_F} (h : Rn n k_Ro_countPath 0 [(2, p), (0, a1), (0, a2), (3, 0), (3, 0)] [] F v F') :
  ∃ m, m < n ∧ Rn m k_Ro_countPath 11 [(2, p), (3, 0), (0, a2), (0, F (p + 2) (i_add (i_add (i_mul a2 20) (i_mul 2 a1)) 0)), (0, 0)] [] F v F' := by
  have t := q_ok cv_146 ap_146 (hd := [(11, [1, 0, 1, 1, 1])]) h rfl rfl
  exact t
set_option maxRecDepth 40000 in
theorem q_Ro_countPath_11 {n : Nat} {p l2 l3 l4 : Nat} {F : fx_F} {v : fx_V} {F' : fx_F} (h : Rn n k_Ro_countPath 11 [(2, p), (3, 0), (0, l2), (0, l3), (0, l4)] [] F v F') :
  (s_le 20 l4 →
   v = (2, 0) ∧ F' = F) ∧
  (s_lt l4 20 →
   (l3 = 4294967295 →
     v = (2, 0) ∧ F' = F) ∧
    (l3 ≠ 4294967295 →
     ∃ m, m < n ∧ Rn m k_Ro_countPath 11 [(2, p), (3, 0), (0, l2), (0, (fu F (p + 4) l3 (i_add (F (p + 4) l3) 1)) (p + 2) (i_add (i_mul l2 20) (i_add (i_mul 2 ((fu F (p + 4) l3 (i_add (F (p + 4) l3) 1)) 5 l3)) ((fu F (p + 4) l3 (i_add (F (p + 4) l3) 1)) (p + 5) l3)))), (0, i_add l4 1)] [] (fu F (p + 4) l3 (i_add (F (p + 4) l3) 1)) v F')) := by
  have t := q_ok cv_146 ap_146 (hd := [(11, [1, 0, 1, 1, 1])]) h rfl rfl
  exact t
-- TurnNet$Routes.leastUsed(III)I
theorem c_Ro_leastUsed {p a1 a2 a3 : Nat} {F : fx_F} {v : fx_V} {F' : fx_F} (h : Cl k_Ro_leastUsed [(2, p), (0, a1), (0, a2), (0, a3)] F v F') : ∃ n, Rn n k_Ro_leastUsed 0 [(2, p), (0, a1), (0, a2), (0, a3), (3, 0), (3, 0), (3, 0)] [] F v F' := by
  obtain ⟨n, s, hs, h⟩ := h
  rw [sg_147] at hs
  cases hs
  exact ⟨n, h⟩
set_option maxRecDepth 40000 in
theorem q_Ro_leastUsed_0 {n : Nat} {p a1 a2 a3 : Nat} {F : fx_F} {v : fx_V} {F' : fx_F} (h : Rn n k_Ro_leastUsed 0 [(2, p), (0, a1), (0, a2), (0, a3), (3, 0), (3, 0), (3, 0)] [] F v F') :
  ∃ m, m < n ∧ Rn m k_Ro_leastUsed 14 [(2, p), (0, a1), (0, a2), (0, a3), (0, 4294967295), (0, F 6 a2), (3, 0)] [] F v F' := by
  have t := q_ok cv_147 ap_147 (hd := [(14, [1, 1, 1, 1, 1, 1, 0])]) h rfl rfl
  exact t
set_option maxRecDepth 40000 in
theorem q_Ro_leastUsed_14 {n : Nat} {p l1 l2 l3 l4 l5 : Nat} {F : fx_F} {v : fx_V} {F' : fx_F} (h : Rn n k_Ro_leastUsed 14 [(2, p), (0, l1), (0, l2), (0, l3), (0, l4), (0, l5), (3, 0)] [] F v F') :
  (s_le (F 6 (i_add l2 1)) l5 →
   v = (0, l4) ∧ F' = F) ∧
  (s_lt l5 (F 6 (i_add l2 1)) →
   ∃ (n1 : Nat) (F1 : fx_F), Cl k_Ro_leadsOn [(2, p), (0, l1), (0, F 7 l5), (0, l3)] F (0, n1) F1 ∧
    (n1 = 0 →
      ∃ m, m < n ∧ Rn m k_Ro_leastUsed 14 [(2, p), (0, l1), (0, l2), (0, l3), (0, l4), (0, i_add l5 1), (3, 0)] [] F1 v F') ∧
     (n1 ≠ 0 →
      (l4 = 4294967295 →
        ∃ m, m < n ∧ Rn m k_Ro_leastUsed 14 [(2, p), (0, l1), (0, l2), (0, l3), (0, F 7 l5), (0, i_add l5 1), (3, 0)] [] F1 v F') ∧
       (l4 ≠ 4294967295 →
        (s_le (F1 (p + 3) l4) (F1 (p + 3) (F 7 l5)) →
          ∃ m, m < n ∧ Rn m k_Ro_leastUsed 14 [(2, p), (0, l1), (0, l2), (0, l3), (0, l4), (0, i_add l5 1), (3, 0)] [] F1 v F') ∧
         (s_lt (F1 (p + 3) (F 7 l5)) (F1 (p + 3) l4) →
          ∃ m, m < n ∧ Rn m k_Ro_leastUsed 14 [(2, p), (0, l1), (0, l2), (0, l3), (0, F 7 l5), (0, i_add l5 1), (3, 0)] [] F1 v F')))) := by
  have t := q_ok cv_147 ap_147 (hd := [(14, [1, 1, 1, 1, 1, 1, 0])]) h rfl rfl
  exact t
-- TurnNet$Routes.measure(I)V
theorem c_Ro_measure {p a1 : Nat} {F : fx_F} {v : fx_V} {F' : fx_F} (h : Cl k_Ro_measure [(2, p), (0, a1)] F v F') : ∃ n, Rn n k_Ro_measure 0 [(2, p), (0, a1), (3, 0), (3, 0), (3, 0)] [] F v F' := by
  obtain ⟨n, s, hs, h⟩ := h
  rw [sg_148] at hs
  cases hs
  exact ⟨n, h⟩
set_option maxRecDepth 40000 in
theorem q_Ro_measure_0 {n : Nat} {p a1 : Nat} {F : fx_F} {v : fx_V} {F' : fx_F} (h : Rn n k_Ro_measure 0 [(2, p), (0, a1), (3, 0), (3, 0), (3, 0)] [] F v F') :
  ∃ m, m < n ∧ Rn m k_Ro_measure 7 [(2, p), (0, a1), (0, i_mul a1 20), (0, 0), (3, 0)] [] F v F' := by
  have t := q_ok cv_148 ap_148 (hd := [(7, [1, 1, 1, 1, 0]), (57, [1, 0, 1, 1, 1])]) h rfl rfl
  exact t
set_option maxRecDepth 40000 in
theorem q_Ro_measure_7 {n : Nat} {p l1 l2 l3 : Nat} {F : fx_F} {v : fx_V} {F' : fx_F} (h : Rn n k_Ro_measure 7 [(2, p), (0, l1), (0, l2), (0, l3), (3, 0)] [] F v F') :
  (s_le 20 l3 →
   ∃ m, m < n ∧ Rn m k_Ro_measure 57 [(2, p), (3, 0), (0, l2), (0, 1), (0, 1)] [] (fu (fu F (p + 1) (i_add l2 (i_mul 2 l1)) 0) (p + 1) (i_add (i_add l2 (i_mul 2 l1)) 1) 0) v F') ∧
  (s_lt l3 20 →
   ∃ m, m < n ∧ Rn m k_Ro_measure 7 [(2, p), (0, l1), (0, l2), (0, i_add l3 1), (3, 0)] [] (fu F (p + 1) (i_add l2 l3) 4294967295) v F') := by
  have t := q_ok cv_148 ap_148 (hd := [(7, [1, 1, 1, 1, 0]), (57, [1, 0, 1, 1, 1])]) h rfl rfl
  exact t
set_option maxRecDepth 40000 in
theorem q_Ro_measure_57 {n : Nat} {p l2 l3 l4 : Nat} {F : fx_F} {v : fx_V} {F' : fx_F} (h : Rn n k_Ro_measure 57 [(2, p), (3, 0), (0, l2), (0, l3), (0, l4)] [] F v F') :
  (s_lt 20 l4 →
   v = (2, 0) ∧ F' = F) ∧
  (s_le l4 20 →
   (l3 = 0 →
     v = (2, 0) ∧ F' = F) ∧
    (l3 ≠ 0 →
     ∃ (n1 : Nat) (F1 : fx_F), Cl k_Ro_growLevel [(2, p), (0, l2), (0, l4)] F (0, n1) F1 ∧
      ∃ m, m < n ∧ Rn m k_Ro_measure 57 [(2, p), (3, 0), (0, l2), (0, n1), (0, i_add l4 1)] [] F1 v F')) := by
  have t := q_ok cv_148 ap_148 (hd := [(7, [1, 1, 1, 1, 0]), (57, [1, 0, 1, 1, 1])]) h rfl rfl
  exact t
-- TurnNet$Routes.passArriving(II)V
theorem c_Ro_passArriving {p a1 a2 : Nat} {F : fx_F} {v : fx_V} {F' : fx_F} (h : Cl k_Ro_passArriving [(2, p), (0, a1), (0, a2)] F v F') : ∃ n, Rn n k_Ro_passArriving 0 [(2, p), (0, a1), (0, a2), (3, 0), (3, 0), (3, 0)] [] F v F' := by
  obtain ⟨n, s, hs, h⟩ := h
  rw [sg_149] at hs
  cases hs
  exact ⟨n, h⟩
set_option maxRecDepth 40000 in
theorem q_Ro_passArriving_0 {n : Nat} {p a1 a2 : Nat} {F : fx_F} {v : fx_V} {F' : fx_F} (h : Rn n k_Ro_passArriving 0 [(2, p), (0, a1), (0, a2), (3, 0), (3, 0), (3, 0)] [] F v F') :
  ∃ m, m < n ∧ Rn m k_Ro_passArriving 15 [(2, p), (0, a1), (0, a2), (0, i_shr a2 1), (0, F 6 (i_shr a2 1)), (3, 0)] [] F v F' := by
  have t := q_ok cv_149 ap_149 (hd := [(15, [1, 1, 1, 1, 1, 0])]) h rfl rfl
  exact t
set_option maxRecDepth 40000 in
theorem q_Ro_passArriving_15 {n : Nat} {p l1 l2 l3 l4 : Nat} {F : fx_F} {v : fx_V} {F' : fx_F} (h : Rn n k_Ro_passArriving 15 [(2, p), (0, l1), (0, l2), (0, l3), (0, l4), (3, 0)] [] F v F') :
  (s_le (F 6 (i_add l3 1)) l4 →
   v = (2, 0) ∧ F' = F) ∧
  (s_lt l4 (F 6 (i_add l3 1)) →
   ∃ (n1 : Nat) (F1 : fx_F), Cl k_Ro_leadsOn [(2, p), (0, l1), (0, F 7 l4), (0, i_and l2 1)] F (0, n1) F1 ∧
    (n1 = 0 →
      ∃ m, m < n ∧ Rn m k_Ro_passArriving 15 [(2, p), (0, l1), (0, l2), (0, l3), (0, i_add l4 1), (3, 0)] [] F1 v F') ∧
     (n1 ≠ 0 →
      ∃ m, m < n ∧ Rn m k_Ro_passArriving 15 [(2, p), (0, l1), (0, l2), (0, l3), (0, i_add l4 1), (3, 0)] [] (fu F1 (p + 7) (i_add (i_mul 2 (F1 5 (F 7 l4))) (F1 (p + 5) (F 7 l4))) (rx_j_add (F1 (p + 7) (i_add (i_mul 2 (F1 5 (F 7 l4))) (F1 (p + 5) (F 7 l4)))) (F1 (p + 7) l2))) v F')) := by
  have t := q_ok cv_149 ap_149 (hd := [(15, [1, 1, 1, 1, 1, 0])]) h rfl rfl
  exact t
-- TurnNet$Traffic.goOn(LTurnNet$State;LTurnNet$Routes;I)V
theorem c_Tr_goOn {a1 a2 a3 : Nat} {F : fx_F} {v : fx_V} {F' : fx_F} (h : Cl k_Tr_goOn [(2, 50), (2, a1), (2, a2), (0, a3)] F v F') : ∃ n, Rn n k_Tr_goOn 0 [(2, 50), (2, a1), (2, a2), (0, a3), (3, 0)] [] F v F' := by
  obtain ⟨n, s, hs, h⟩ := h
  rw [sg_150] at hs
  cases hs
  exact ⟨n, h⟩
set_option maxRecDepth 40000 in
theorem q_Tr_goOn_0 {n : Nat} {a1 a2 a3 : Nat} {F : fx_F} {v : fx_V} {F' : fx_F} (h : Rn n k_Tr_goOn 0 [(2, 50), (2, a1), (2, a2), (0, a3), (3, 0)] [] F v F') :
  ((F (a1 + 1) a3) ≠ (F (a1 + 2) a3) →
   ((F (a1 + 3) a3) = 4294967295 →
     ((F (a2 + 2) (i_add (i_add (i_mul (F (a1 + 2) a3) 20) (i_mul 2 (F (a1 + 1) a3))) 0)) = 4294967295 →
       v = (2, 0) ∧ F' = (fu (fu F (a1 + 4) a3 (i_add (F (a1 + 4) a3) 1)) 50 2 (i_add ((fu F (a1 + 4) a3 (i_add (F (a1 + 4) a3) 1)) 50 2) 1))) ∧
      ((F (a2 + 2) (i_add (i_add (i_mul (F (a1 + 2) a3) 20) (i_mul 2 (F (a1 + 1) a3))) 0)) ≠ 4294967295 →
       ∃ (n1 : Nat) (F1 : fx_F), Cl k_St_countCameBy [(2, a1), (0, F (a2 + 2) (i_add (i_add (i_mul (F (a1 + 2) a3) 20) (i_mul 2 (F (a1 + 1) a3))) 0))] F (0, n1) F1 ∧
        (s_lt n1 (F1 3 3) →
          v = (2, 0) ∧ F' = (fu (fu (fu F1 (a1 + 1) a3 (F1 5 (F (a2 + 2) (i_add (i_add (i_mul (F (a1 + 2) a3) 20) (i_mul 2 (F (a1 + 1) a3))) 0)))) (a1 + 3) a3 (F (a2 + 2) (i_add (i_add (i_mul (F (a1 + 2) a3) 20) (i_mul 2 (F (a1 + 1) a3))) 0))) 50 1 (i_add ((fu (fu F1 (a1 + 1) a3 (F1 5 (F (a2 + 2) (i_add (i_add (i_mul (F (a1 + 2) a3) 20) (i_mul 2 (F (a1 + 1) a3))) 0)))) (a1 + 3) a3 (F (a2 + 2) (i_add (i_add (i_mul (F (a1 + 2) a3) 20) (i_mul 2 (F (a1 + 1) a3))) 0))) 50 1) 1))) ∧
         (s_le (F1 3 3) n1 →
          v = (2, 0) ∧ F' = (fu (fu F1 (a1 + 4) a3 (i_add (F1 (a1 + 4) a3) 1)) 50 2 (i_add ((fu F1 (a1 + 4) a3 (i_add (F1 (a1 + 4) a3) 1)) 50 2) 1))))) ∧
    ((F (a1 + 3) a3) ≠ 4294967295 →
     ((i_and (i_shr (F a1 1) (i_shr (F (a1 + 3) a3) 1)) 1) = (i_and (F (a1 + 3) a3) 1) →
       ((F (a2 + 2) (i_add (i_add (i_mul (F (a1 + 2) a3) 20) (i_mul 2 (F (a1 + 1) a3))) 1)) = 4294967295 →
         v = (2, 0) ∧ F' = (fu (fu F (a1 + 4) a3 (i_add (F (a1 + 4) a3) 1)) 50 2 (i_add ((fu F (a1 + 4) a3 (i_add (F (a1 + 4) a3) 1)) 50 2) 1))) ∧
        ((F (a2 + 2) (i_add (i_add (i_mul (F (a1 + 2) a3) 20) (i_mul 2 (F (a1 + 1) a3))) 1)) ≠ 4294967295 →
         ∃ (n1 : Nat) (F1 : fx_F), Cl k_St_countCameBy [(2, a1), (0, F (a2 + 2) (i_add (i_add (i_mul (F (a1 + 2) a3) 20) (i_mul 2 (F (a1 + 1) a3))) 1))] F (0, n1) F1 ∧
          (s_lt n1 (F1 3 3) →
            v = (2, 0) ∧ F' = (fu (fu (fu F1 (a1 + 1) a3 (F1 5 (F (a2 + 2) (i_add (i_add (i_mul (F (a1 + 2) a3) 20) (i_mul 2 (F (a1 + 1) a3))) 1)))) (a1 + 3) a3 (F (a2 + 2) (i_add (i_add (i_mul (F (a1 + 2) a3) 20) (i_mul 2 (F (a1 + 1) a3))) 1))) 50 1 (i_add ((fu (fu F1 (a1 + 1) a3 (F1 5 (F (a2 + 2) (i_add (i_add (i_mul (F (a1 + 2) a3) 20) (i_mul 2 (F (a1 + 1) a3))) 1)))) (a1 + 3) a3 (F (a2 + 2) (i_add (i_add (i_mul (F (a1 + 2) a3) 20) (i_mul 2 (F (a1 + 1) a3))) 1))) 50 1) 1))) ∧
           (s_le (F1 3 3) n1 →
            v = (2, 0) ∧ F' = (fu (fu F1 (a1 + 4) a3 (i_add (F1 (a1 + 4) a3) 1)) 50 2 (i_add ((fu F1 (a1 + 4) a3 (i_add (F1 (a1 + 4) a3) 1)) 50 2) 1))))) ∧
      ((i_and (i_shr (F a1 1) (i_shr (F (a1 + 3) a3) 1)) 1) ≠ (i_and (F (a1 + 3) a3) 1) →
       ((F (a2 + 2) (i_add (i_add (i_mul (F (a1 + 2) a3) 20) (i_mul 2 (F (a1 + 1) a3))) 0)) = 4294967295 →
         v = (2, 0) ∧ F' = (fu (fu F (a1 + 4) a3 (i_add (F (a1 + 4) a3) 1)) 50 2 (i_add ((fu F (a1 + 4) a3 (i_add (F (a1 + 4) a3) 1)) 50 2) 1))) ∧
        ((F (a2 + 2) (i_add (i_add (i_mul (F (a1 + 2) a3) 20) (i_mul 2 (F (a1 + 1) a3))) 0)) ≠ 4294967295 →
         ∃ (n1 : Nat) (F1 : fx_F), Cl k_St_countCameBy [(2, a1), (0, F (a2 + 2) (i_add (i_add (i_mul (F (a1 + 2) a3) 20) (i_mul 2 (F (a1 + 1) a3))) 0))] F (0, n1) F1 ∧
          (s_lt n1 (F1 3 3) →
            v = (2, 0) ∧ F' = (fu (fu (fu F1 (a1 + 1) a3 (F1 5 (F (a2 + 2) (i_add (i_add (i_mul (F (a1 + 2) a3) 20) (i_mul 2 (F (a1 + 1) a3))) 0)))) (a1 + 3) a3 (F (a2 + 2) (i_add (i_add (i_mul (F (a1 + 2) a3) 20) (i_mul 2 (F (a1 + 1) a3))) 0))) 50 1 (i_add ((fu (fu F1 (a1 + 1) a3 (F1 5 (F (a2 + 2) (i_add (i_add (i_mul (F (a1 + 2) a3) 20) (i_mul 2 (F (a1 + 1) a3))) 0)))) (a1 + 3) a3 (F (a2 + 2) (i_add (i_add (i_mul (F (a1 + 2) a3) 20) (i_mul 2 (F (a1 + 1) a3))) 0))) 50 1) 1))) ∧
           (s_le (F1 3 3) n1 →
            v = (2, 0) ∧ F' = (fu (fu F1 (a1 + 4) a3 (i_add (F1 (a1 + 4) a3) 1)) 50 2 (i_add ((fu F1 (a1 + 4) a3 (i_add (F1 (a1 + 4) a3) 1)) 50 2) 1))))))) ∧
  ((F (a1 + 1) a3) = (F (a1 + 2) a3) →
   v = (2, 0) ∧ F' = (fu (fu (fu F (a1 + 1) a3 4294967295) a1 3 (i_add ((fu F (a1 + 1) a3 4294967295) a1 3) 1)) 50 1 (i_add ((fu (fu F (a1 + 1) a3 4294967295) a1 3 (i_add ((fu F (a1 + 1) a3 4294967295) a1 3) 1)) 50 1) 1))) := by
  have t := q_ok cv_150 ap_150 (hd := []) h rfl rfl
  exact t
-- TurnNet$Turns.shortestRing(I)I
theorem c_Tu_shortestRing {a1 : Nat} {F : fx_F} {v : fx_V} {F' : fx_F} (h : Cl k_Tu_shortestRing [(2, 45), (0, a1)] F v F') : ∃ n, Rn n k_Tu_shortestRing 0 [(2, 45), (0, a1), (3, 0), (3, 0), (3, 0), (3, 0), (3, 0)] [] F v F' := by
  obtain ⟨n, s, hs, h⟩ := h
  rw [sg_151] at hs
  cases hs
  exact ⟨n, h⟩
set_option maxRecDepth 40000 in
theorem q_Tu_shortestRing_0 {n : Nat} {a1 : Nat} {F : fx_F} {v : fx_V} {F' : fx_F} (h : Rn n k_Tu_shortestRing 0 [(2, 45), (0, a1), (3, 0), (3, 0), (3, 0), (3, 0), (3, 0)] [] F v F') :
  ∃ m, m < n ∧ Rn m k_Tu_shortestRing 13 [(2, 45), (0, a1), (1, 0), (3, 0), (1, F 47 a1), (3, 0), (0, 1)] [] F v F' := by
  have t := q_ok cv_151 ap_151 (hd := [(13, [1, 1, 1, 0, 1, 0, 1])]) h rfl rfl
  exact t
set_option maxRecDepth 40000 in
theorem q_Tu_shortestRing_13 {n : Nat} {l1 l2 l4 l6 : Nat} {F : fx_F} {v : fx_V} {F' : fx_F} (h : Rn n k_Tu_shortestRing 13 [(2, 45), (0, l1), (1, l2), (3, 0), (1, l4), (3, 0), (0, l6)] [] F v F') :
  (s_lt 40 l6 →
   v = (0, 4294967295) ∧ F' = F) ∧
  (s_le l6 40 →
   ((rx_f_lcmp l4 0) = 0 →
     v = (0, 4294967295) ∧ F' = F) ∧
    ((rx_f_lcmp l4 0) ≠ 0 →
     ((rx_f_lcmp (rx_j_and (rx_j_shr l4 l1) 1) 1) ≠ 0 →
       ∃ (n1 : Nat) (F1 : fx_F), Cl k_Tu_ontoFrom [(2, 45), (1, l4)] F (1, n1) F1 ∧
        ∃ m, m < n ∧ Rn m k_Tu_shortestRing 13 [(2, 45), (0, l1), (1, rx_j_or l2 l4), (3, 0), (1, rx_j_and n1 (rx_j_xor (rx_j_or l2 l4) 18446744073709551615)), (3, 0), (0, i_add l6 1)] [] F1 v F') ∧
      ((rx_f_lcmp (rx_j_and (rx_j_shr l4 l1) 1) 1) = 0 →
       v = (0, l6) ∧ F' = F))) := by
  have t := q_ok cv_151 ap_151 (hd := [(13, [1, 1, 1, 0, 1, 0, 1])]) h rfl rfl
  exact t
-- TurnNet$Turns.take(III)V
theorem c_Tu_take {a1 a2 a3 : Nat} {F : fx_F} {v : fx_V} {F' : fx_F} (h : Cl k_Tu_take [(2, 45), (0, a1), (0, a2), (0, a3)] F v F') : ∃ n, Rn n k_Tu_take 0 [(2, 45), (0, a1), (0, a2), (0, a3), (3, 0), (3, 0), (3, 0), (3, 0), (3, 0)] [] F v F' := by
  obtain ⟨n, s, hs, h⟩ := h
  rw [sg_152] at hs
  cases hs
  exact ⟨n, h⟩
set_option maxRecDepth 40000 in
theorem q_Tu_take_0 {n : Nat} {a1 a2 a3 : Nat} {F : fx_F} {v : fx_V} {F' : fx_F} (h : Rn n k_Tu_take 0 [(2, 45), (0, a1), (0, a2), (0, a3), (3, 0), (3, 0), (3, 0), (3, 0), (3, 0)] [] F v F') :
  ∃ m, m < n ∧ Rn m k_Tu_take 3 [(2, 45), (0, a1), (0, a2), (0, a3), (0, 0), (3, 0), (3, 0), (3, 0), (3, 0)] [] F v F' := by
  have t := q_ok cv_152 ap_152 (hd := [(3, [1, 1, 1, 1, 1, 0, 0, 0, 0]), (32, [1, 1, 1, 1, 1, 0, 0, 0, 0]), (101, [1, 0, 0, 1, 1, 0, 1, 0, 1])]) h rfl rfl
  exact t
set_option maxRecDepth 40000 in
theorem q_Tu_take_3 {n : Nat} {l1 l2 l3 l4 : Nat} {F : fx_F} {v : fx_V} {F' : fx_F} (h : Rn n k_Tu_take 3 [(2, 45), (0, l1), (0, l2), (0, l3), (0, l4), (3, 0), (3, 0), (3, 0), (3, 0)] [] F v F') :
  (s_le (F 3 0) l4 →
   ∃ m, m < n ∧ Rn m k_Tu_take 32 [(2, 45), (0, l1), (0, l2), (0, l3), (0, 0), (3, 0), (3, 0), (3, 0), (3, 0)] [] F v F') ∧
  (s_lt l4 (F 3 0) →
   ∃ m, m < n ∧ Rn m k_Tu_take 3 [(2, 45), (0, l1), (0, l2), (0, l3), (0, i_add l4 1), (3, 0), (3, 0), (3, 0), (3, 0)] [] (fu F 46 l4 0) v F') := by
  have t := q_ok cv_152 ap_152 (hd := [(3, [1, 1, 1, 1, 1, 0, 0, 0, 0]), (32, [1, 1, 1, 1, 1, 0, 0, 0, 0]), (101, [1, 0, 0, 1, 1, 0, 1, 0, 1])]) h rfl rfl
  exact t
set_option maxRecDepth 40000 in
theorem q_Tu_take_32 {n : Nat} {l1 l2 l3 l4 : Nat} {F : fx_F} {v : fx_V} {F' : fx_F} (h : Rn n k_Tu_take 32 [(2, 45), (0, l1), (0, l2), (0, l3), (0, l4), (3, 0), (3, 0), (3, 0), (3, 0)] [] F v F') :
  (s_le (i_mul 2 (F 3 1)) l4 →
   ∃ (n1 : Nat) (F1 : fx_F), Cl k_Tu_upChannels [(2, 45), (0, l1)] F (1, n1) F1 ∧
    ∃ (n2 : Nat) (F2 : fx_F), Cl k_Tu_upChannels [(2, 45), (0, l2)] F1 (1, n2) F2 ∧
     ∃ m, m < n ∧ Rn m k_Tu_take 101 [(2, 45), (3, 0), (3, 0), (0, l3), (1, n1), (3, 0), (1, n2), (3, 0), (0, 0)] [] F2 v F') ∧
  (s_lt l4 (i_mul 2 (F 3 1)) →
   ((i_and (i_shr l3 (i_shr l4 1)) 1) ≠ 1 →
     ∃ m, m < n ∧ Rn m k_Tu_take 32 [(2, 45), (0, l1), (0, l2), (0, l3), (0, i_add l4 1), (3, 0), (3, 0), (3, 0), (3, 0)] [] F v F') ∧
    ((i_and (i_shr l3 (i_shr l4 1)) 1) = 1 →
     ∃ m, m < n ∧ Rn m k_Tu_take 32 [(2, 45), (0, l1), (0, l2), (0, l3), (0, i_add l4 1), (3, 0), (3, 0), (3, 0), (3, 0)] [] (fu F 46 (F 4 l4) (rx_j_or (F 46 (F 4 l4)) (rx_j_shl 1 l4))) v F')) := by
  have t := q_ok cv_152 ap_152 (hd := [(3, [1, 1, 1, 1, 1, 0, 0, 0, 0]), (32, [1, 1, 1, 1, 1, 0, 0, 0, 0]), (101, [1, 0, 0, 1, 1, 0, 1, 0, 1])]) h rfl rfl
  exact t
set_option maxRecDepth 40000 in
theorem q_Tu_take_101 {n : Nat} {l3 l4 l6 l8 : Nat} {F : fx_F} {v : fx_V} {F' : fx_F} (h : Rn n k_Tu_take 101 [(2, 45), (3, 0), (3, 0), (0, l3), (1, l4), (3, 0), (1, l6), (3, 0), (0, l8)] [] F v F') :
  (s_le (i_mul 2 (F 3 1)) l8 →
   v = (2, 0) ∧ F' = F) ∧
  (s_lt l8 (i_mul 2 (F 3 1)) →
   ((i_and (i_shr l3 (i_shr l8 1)) 1) ≠ 1 →
     ∃ m, m < n ∧ Rn m k_Tu_take 101 [(2, 45), (3, 0), (3, 0), (0, l3), (1, l4), (3, 0), (1, l6), (3, 0), (0, i_add l8 1)] [] (fu F 47 l8 0) v F') ∧
    ((i_and (i_shr l3 (i_shr l8 1)) 1) = 1 →
     ∃ (n1 : Nat) (F1 : fx_F), Cl k_Tu_lawful [(2, 45), (0, l8), (1, l4)] F (1, n1) F1 ∧
      ∃ (n2 : Nat) (F2 : fx_F), Cl k_Tu_lawful [(2, 45), (0, l8), (1, l6)] F1 (1, n2) F2 ∧
       ∃ m, m < n ∧ Rn m k_Tu_take 101 [(2, 45), (3, 0), (3, 0), (0, l3), (1, l4), (3, 0), (1, l6), (3, 0), (0, i_add l8 1)] [] (fu F2 47 l8 (rx_j_or n1 n2)) v F')) := by
  have t := q_ok cv_152 ap_152 (hd := [(3, [1, 1, 1, 1, 1, 0, 0, 0, 0]), (32, [1, 1, 1, 1, 1, 0, 0, 0, 0]), (101, [1, 0, 0, 1, 1, 0, 1, 0, 1])]) h rfl rfl
  exact t
-- TurnNet.back(I)I
theorem c_T_back {a1 : Nat} {F : fx_F} {v : fx_V} {F' : fx_F} (h : Cl k_T_back [(2, 2), (0, a1)] F v F') : ∃ n, Rn n k_T_back 0 [(2, 2), (0, a1)] [] F v F' := by
  obtain ⟨n, s, hs, h⟩ := h
  rw [sg_153] at hs
  cases hs
  exact ⟨n, h⟩
set_option maxRecDepth 40000 in
theorem q_T_back_0 {n : Nat} {a1 : Nat} {F : fx_F} {v : fx_V} {F' : fx_F} (h : Rn n k_T_back 0 [(2, 2), (0, a1)] [] F v F') :
  (s_lt a1 0 →
   v = (0, 4294967295) ∧ F' = F) ∧
  (s_le 0 a1 →
   (s_le 2 a1 →
     v = (0, 4294967295) ∧ F' = F) ∧
    (s_lt a1 2 →
     ((F 159 a1) ≠ 0 →
       ∃ F1 : fx_F, Cl k_St_copyFrom [(2, F 2 13), (2, F 158 a1)] F (2, 0) F1 ∧
        ∃ (n2 : Nat) (F2 : fx_F), Cl k_St_countPackets [(2, F1 2 13)] (fu (fu F1 51 2 0) 51 3 0) (0, n2) F2 ∧
         v = (0, n2) ∧ F' = F2) ∧
      ((F 159 a1) = 0 →
       v = (0, 4294967295) ∧ F' = F))) := by
  have t := q_ok cv_153 ap_153 (hd := []) h rfl rfl
  exact t
-- TurnNet.image(I)I
theorem c_T_image {a1 : Nat} {F : fx_F} {v : fx_V} {F' : fx_F} (h : Cl k_T_image [(2, 2), (0, a1)] F v F') : ∃ n, Rn n k_T_image 0 [(2, 2), (0, a1)] [] F v F' := by
  obtain ⟨n, s, hs, h⟩ := h
  rw [sg_154] at hs
  cases hs
  exact ⟨n, h⟩
set_option maxRecDepth 40000 in
theorem q_T_image_0 {n : Nat} {a1 : Nat} {F : fx_F} {v : fx_V} {F' : fx_F} (h : Rn n k_T_image 0 [(2, 2), (0, a1)] [] F v F') :
  (s_lt a1 0 →
   v = (0, 4294967295) ∧ F' = F) ∧
  (s_le 0 a1 →
   (s_lt a1 2 →
     ∃ F1 : fx_F, Cl k_St_copyFrom [(2, F 158 a1), (2, F 2 13)] F (2, 0) F1 ∧
      ∃ (n2 : Nat) (F2 : fx_F), Cl k_St_countPackets [(2, F1 2 13)] (fu F1 159 a1 1) (0, n2) F2 ∧
       v = (0, n2) ∧ F' = F2) ∧
    (s_le 2 a1 →
     v = (0, 4294967295) ∧ F' = F)) := by
  have t := q_ok cv_154 ap_154 (hd := []) h rfl rfl
  exact t
-- TurnNet.redo()Z
theorem c_T_redo {F : fx_F} {v : fx_V} {F' : fx_F} (h : Cl k_T_redo [(2, 2)] F v F') : ∃ n, Rn n k_T_redo 0 [(2, 2)] [] F v F' := by
  obtain ⟨n, s, hs, h⟩ := h
  rw [sg_155] at hs
  cases hs
  exact ⟨n, h⟩
set_option maxRecDepth 40000 in
theorem q_T_redo_0 {n : Nat} {F : fx_F} {v : fx_V} {F' : fx_F} (h : Rn n k_T_redo 0 [(2, 2)] [] F v F') :
  ((F 51 3) ≠ 0 →
   ∃ (n1 : Nat) (F1 : fx_F), Cl k_Hi_stepOn [(2, 51), (2, F 2 13)] F (2, n1) F1 ∧
    v = (0, 1) ∧ F' = (fu F1 2 13 n1)) ∧
  ((F 51 3) = 0 →
   v = (0, 0) ∧ F' = F) := by
  have t := q_ok cv_155 ap_155 (hd := []) h rfl rfl
  exact t
-- TurnNet.undo()Z
theorem c_T_undo {F : fx_F} {v : fx_V} {F' : fx_F} (h : Cl k_T_undo [(2, 2)] F v F') : ∃ n, Rn n k_T_undo 0 [(2, 2)] [] F v F' := by
  obtain ⟨n, s, hs, h⟩ := h
  rw [sg_156] at hs
  cases hs
  exact ⟨n, h⟩
set_option maxRecDepth 40000 in
theorem q_T_undo_0 {n : Nat} {F : fx_F} {v : fx_V} {F' : fx_F} (h : Rn n k_T_undo 0 [(2, 2)] [] F v F') :
  ((F 51 2) ≠ 0 →
   ∃ (n1 : Nat) (F1 : fx_F), Cl k_Hi_stepBack [(2, 51), (2, F 2 13)] F (2, n1) F1 ∧
    v = (0, 1) ∧ F' = (fu F1 2 13 n1)) ∧
  ((F 51 2) = 0 →
   v = (0, 0) ∧ F' = F) := by
  have t := q_ok cv_156 ap_156 (hd := []) h rfl rfl
  exact t
-- TurnNetModel.about(I)I
theorem c_M_about {a1 : Nat} {F : fx_F} {v : fx_V} {F' : fx_F} (h : Cl k_M_about [(2, 175), (0, a1)] F v F') : ∃ n, Rn n k_M_about 0 [(2, 175), (0, a1)] [] F v F' := by
  obtain ⟨n, s, hs, h⟩ := h
  rw [sg_157] at hs
  cases hs
  exact ⟨n, h⟩
set_option maxRecDepth 40000 in
theorem q_M_about_0 {n : Nat} {a1 : Nat} {F : fx_F} {v : fx_V} {F' : fx_F} (h : Rn n k_M_about 0 [(2, 175), (0, a1)] [] F v F') :
  ((a1 < 0 ∨ 12 ≤ a1) →
   v = (0, 4294967295) ∧ F' = F) ∧
  ((a1 = 0 →
   v = (0, F 177 (F 175 9)) ∧ F' = F) ∧
  ((a1 = 1 →
   v = (0, F 178 (F 175 9)) ∧ F' = F) ∧
  ((a1 = 2 →
   ∃ (n1 : Nat) (F1 : fx_F), Cl k_M_standing [(2, 175)] F (0, n1) F1 ∧
    v = (0, n1) ∧ F' = F1) ∧
  ((a1 = 3 →
   ((F 177 (F 175 9)) ≠ 0 →
     v = (0, F 176 40) ∧ F' = F) ∧
    ((F 177 (F 175 9)) = 0 →
     v = (0, 4294967295) ∧ F' = F)) ∧
  ((a1 = 4 →
   v = (0, F 180 (F 175 9)) ∧ F' = F) ∧
  ((a1 = 5 →
   ∃ (n1 : Nat) (F1 : fx_F), Cl k_M_packetsNow [(2, 175)] F (0, n1) F1 ∧
    v = (0, n1) ∧ F' = F1) ∧
  ((a1 = 6 →
   v = (0, F 176 101) ∧ F' = F) ∧
  ((a1 = 7 →
   v = (0, F 176 102) ∧ F' = F) ∧
  ((a1 = 8 →
   v = (0, F 181 (F 175 9)) ∧ F' = F) ∧
  ((a1 = 9 →
   v = (0, F 175 56) ∧ F' = F) ∧
  ((a1 = 10 →
   v = (0, F 175 57) ∧ F' = F) ∧
  ((a1 = 11 →
   v = (0, F 175 11) ∧ F' = F) ∧ True)))))))))))) := by
  have t := q_ok cv_157 ap_157 (hd := []) h rfl rfl
  exact t
-- TurnNetModel.addPair(II)V
theorem c_M_addPair {a1 a2 : Nat} {F : fx_F} {v : fx_V} {F' : fx_F} (h : Cl k_M_addPair [(2, 175), (0, a1), (0, a2)] F v F') : ∃ n, Rn n k_M_addPair 0 [(2, 175), (0, a1), (0, a2), (3, 0)] [] F v F' := by
  obtain ⟨n, s, hs, h⟩ := h
  rw [sg_158] at hs
  cases hs
  exact ⟨n, h⟩
set_option maxRecDepth 40000 in
theorem q_M_addPair_0 {n : Nat} {a1 a2 : Nat} {F : fx_F} {v : fx_V} {F' : fx_F} (h : Rn n k_M_addPair 0 [(2, 175), (0, a1), (0, a2), (3, 0)] [] F v F') :
  (s_le 100000 (F 193 (i_add (i_add (i_mul 20 a2) (i_mul 2 a1)) 0)) →
   ((F 188 a2) ≠ 10 →
     v = (2, 0) ∧ F' = (fu (fu F 175 40 (i_add (F 175 40) 1)) 175 43 (i_add (F 175 43) 0))) ∧
    ((F 188 a2) = 10 →
     v = (2, 0) ∧ F' = (fu (fu F 175 40 (i_add (F 175 40) 1)) 175 43 (i_add (F 175 43) 1)))) ∧
  (s_lt (F 193 (i_add (i_add (i_mul 20 a2) (i_mul 2 a1)) 0)) 100000 →
   v = (2, 0) ∧ F' = (fu (fu F 175 41 (i_add (F 175 41) (F 193 (i_add (i_add (i_mul 20 a2) (i_mul 2 a1)) 0)))) 175 42 (i_add (F 175 42) (i_sub (F 193 (i_add (i_add (i_mul 20 a2) (i_mul 2 a1)) 0)) (F 188 a2))))) := by
  have t := q_ok cv_158 ap_158 (hd := []) h rfl rfl
  exact t
end
section
-- TurnNetModel.canSend(II)Z
theorem c_M_canSend {a1 a2 : Nat} {F : fx_F} {v : fx_V} {F' : fx_F} (h : Cl k_M_canSend [(2, 175), (0, a1), (0, a2)] F v F') : ∃ n, Rn n k_M_canSend 0 [(2, 175), (0, a1), (0, a2)] [] F v F' := by
  obtain ⟨n, s, hs, h⟩ := h
  rw [sg_160] at hs
  cases hs
  exact ⟨n, h⟩
set_option maxRecDepth 40000 in
theorem q_M_canSend_0 {n : Nat} {a1 a2 : Nat} {F : fx_F} {v : fx_V} {F' : fx_F} (h : Rn n k_M_canSend 0 [(2, 175), (0, a1), (0, a2)] [] F v F') :
  (s_lt a1 0 →
   v = (0, 0) ∧ F' = F) ∧
  (s_le 0 a1 →
   (s_lt (i_sub (F 177 (F 175 9)) 1) a1 →
     v = (0, 0) ∧ F' = F) ∧
    (s_le a1 (i_sub (F 177 (F 175 9)) 1) →
     (s_lt a2 0 →
       v = (0, 0) ∧ F' = F) ∧
      (s_le 0 a2 →
       (s_lt (i_sub (F 177 (F 175 9)) 1) a2 →
         v = (0, 0) ∧ F' = F) ∧
        (s_le a2 (i_sub (F 177 (F 175 9)) 1) →
         (a1 = a2 →
           v = (0, 0) ∧ F' = F) ∧
          (a1 ≠ a2 →
           ∃ (n1 : Nat) (F1 : fx_F), Cl k_M_freePacket [(2, 175)] F (0, n1) F1 ∧
            (s_lt n1 0 →
              v = (0, 0) ∧ F' = F1) ∧
             (s_le 0 n1 →
              v = (0, 1) ∧ F' = F1)))))) := by
  have t := q_ok cv_160 ap_160 (hd := []) h rfl rfl
  exact t
-- TurnNetModel.fromOf(I)I
theorem c_M_fromOf {a1 : Nat} {F : fx_F} {v : fx_V} {F' : fx_F} (h : Cl k_M_fromOf [(2, 175), (0, a1)] F v F') : ∃ n, Rn n k_M_fromOf 0 [(2, 175), (0, a1)] [] F v F' := by
  obtain ⟨n, s, hs, h⟩ := h
  rw [sg_162] at hs
  cases hs
  exact ⟨n, h⟩
set_option maxRecDepth 40000 in
theorem q_M_fromOf_0 {n : Nat} {a1 : Nat} {F : fx_F} {v : fx_V} {F' : fx_F} (h : Rn n k_M_fromOf 0 [(2, 175), (0, a1)] [] F v F') :
  v = (0, F 183 (i_add (i_add (i_mul 40 (F 175 9)) (i_mul 2 (i_div a1 2))) (i_rem a1 2))) ∧ F' = F := by
  have t := q_ok cv_162 ap_162 (hd := []) h rfl rfl
  exact t
-- TurnNetModel.heaviestNow()I
theorem c_M_heaviestNow {F : fx_F} {v : fx_V} {F' : fx_F} (h : Cl k_M_heaviestNow [(2, 175)] F v F') : ∃ n, Rn n k_M_heaviestNow 0 [(2, 175), (3, 0), (3, 0)] [] F v F' := by
  obtain ⟨n, s, hs, h⟩ := h
  rw [sg_163] at hs
  cases hs
  exact ⟨n, h⟩
set_option maxRecDepth 40000 in
theorem q_M_heaviestNow_0 {n : Nat} {F : fx_F} {v : fx_V} {F' : fx_F} (h : Rn n k_M_heaviestNow 0 [(2, 175), (3, 0), (3, 0)] [] F v F') :
  ∃ m, m < n ∧ Rn m k_M_heaviestNow 4 [(2, 175), (0, 4294967295), (0, 0)] [] F v F' := by
  have t := q_ok cv_163 ap_163 (hd := [(4, [1, 1, 1])]) h rfl rfl
  exact t
set_option maxRecDepth 40000 in
theorem q_M_heaviestNow_4 {n : Nat} {l1 l2 : Nat} {F : fx_F} {v : fx_V} {F' : fx_F} (h : Rn n k_M_heaviestNow 4 [(2, 175), (0, l1), (0, l2)] [] F v F') :
  (s_le (i_mul 2 (F 178 (F 175 9))) l2 →
   v = (0, l1) ∧ F' = F) ∧
  (s_lt l2 (i_mul 2 (F 178 (F 175 9))) →
   (s_lt l1 0 →
     ∃ m, m < n ∧ Rn m k_M_heaviestNow 4 [(2, 175), (0, l2), (0, i_add l2 1)] [] F v F') ∧
    (s_le 0 l1 →
     (s_le (F 198 l2) (F 198 l1) →
       ∃ m, m < n ∧ Rn m k_M_heaviestNow 4 [(2, 175), (0, l1), (0, i_add l2 1)] [] F v F') ∧
      (s_lt (F 198 l1) (F 198 l2) →
       ∃ m, m < n ∧ Rn m k_M_heaviestNow 4 [(2, 175), (0, l2), (0, i_add l2 1)] [] F v F'))) := by
  have t := q_ok cv_163 ap_163 (hd := [(4, [1, 1, 1])]) h rfl rfl
  exact t
-- TurnNetModel.isStanding(I)Z
theorem c_M_isStanding {a1 : Nat} {F : fx_F} {v : fx_V} {F' : fx_F} (h : Cl k_M_isStanding [(2, 175), (0, a1)] F v F') : ∃ n, Rn n k_M_isStanding 0 [(2, 175), (0, a1)] [] F v F' := by
  obtain ⟨n, s, hs, h⟩ := h
  rw [sg_164] at hs
  cases hs
  exact ⟨n, h⟩
set_option maxRecDepth 40000 in
theorem q_M_isStanding_0 {n : Nat} {a1 : Nat} {F : fx_F} {v : fx_V} {F' : fx_F} (h : Rn n k_M_isStanding 0 [(2, 175), (0, a1)] [] F v F') :
  (s_lt a1 0 →
   v = (0, 0) ∧ F' = F) ∧
  (s_le 0 a1 →
   (s_lt (i_sub (F 178 (F 175 9)) 1) a1 →
     v = (0, 0) ∧ F' = F) ∧
    (s_le a1 (i_sub (F 178 (F 175 9)) 1) →
     ((F 176 (i_add 0 a1)) ≠ 1 →
       v = (0, 0) ∧ F' = F) ∧
      ((F 176 (i_add 0 a1)) = 1 →
       v = (0, 1) ∧ F' = F))) := by
  have t := q_ok cv_164 ap_164 (hd := []) h rfl rfl
  exact t
-- TurnNetModel.layFar(II)V
theorem c_M_layFar {a1 a2 : Nat} {F : fx_F} {v : fx_V} {F' : fx_F} (h : Cl k_M_layFar [(2, 175), (0, a1), (0, a2)] F v F') : ∃ n, Rn n k_M_layFar 0 [(2, 175), (0, a1), (0, a2), (3, 0), (3, 0), (3, 0), (3, 0)] [] F v F' := by
  obtain ⟨n, s, hs, h⟩ := h
  rw [sg_165] at hs
  cases hs
  exact ⟨n, h⟩
set_option maxRecDepth 40000 in
theorem q_M_layFar_0 {n : Nat} {a1 a2 : Nat} {F : fx_F} {v : fx_V} {F' : fx_F} (h : Rn n k_M_layFar 0 [(2, 175), (0, a1), (0, a2), (3, 0), (3, 0), (3, 0), (3, 0)] [] F v F') :
  ∃ m, m < n ∧ Rn m k_M_layFar 2 [(2, 175), (0, a1), (0, a2), (0, 0), (3, 0), (3, 0), (3, 0)] [] F v F' := by
  have t := q_ok cv_165 ap_165 (hd := [(2, [1, 1, 1, 1, 0, 0, 0]), (40, [1, 0, 1, 1, 0, 0, 0]), (51, [1, 0, 1, 1, 1, 0, 0])]) h rfl rfl
  exact t
set_option maxRecDepth 40000 in
theorem q_M_layFar_2 {n : Nat} {l1 l2 l3 : Nat} {F : fx_F} {v : fx_V} {F' : fx_F} (h : Rn n k_M_layFar 2 [(2, 175), (0, l1), (0, l2), (0, l3), (3, 0), (3, 0), (3, 0)] [] F v F') :
  (s_le 10 l3 →
   (s_lt l1 0 →
     v = (2, 0) ∧ F' = F) ∧
    (s_le 0 l1 →
     (s_lt (i_sub (F 177 (F 175 9)) 1) l1 →
       v = (2, 0) ∧ F' = F) ∧
      (s_le l1 (i_sub (F 177 (F 175 9)) 1) →
       ∃ m, m < n ∧ Rn m k_M_layFar 40 [(2, 175), (3, 0), (0, l2), (0, 0), (3, 0), (3, 0), (3, 0)] [] (fu F 188 l1 0) v F'))) ∧
  (s_lt l3 10 →
   ∃ m, m < n ∧ Rn m k_M_layFar 2 [(2, 175), (0, l1), (0, l2), (0, i_add l3 1), (3, 0), (3, 0), (3, 0)] [] (fu F 188 l3 10) v F') := by
  have t := q_ok cv_165 ap_165 (hd := [(2, [1, 1, 1, 1, 0, 0, 0]), (40, [1, 0, 1, 1, 0, 0, 0]), (51, [1, 0, 1, 1, 1, 0, 0])]) h rfl rfl
  exact t
set_option maxRecDepth 40000 in
theorem q_M_layFar_40 {n : Nat} {l2 l3 : Nat} {F : fx_F} {v : fx_V} {F' : fx_F} (h : Rn n k_M_layFar 40 [(2, 175), (3, 0), (0, l2), (0, l3), (3, 0), (3, 0), (3, 0)] [] F v F') :
  (s_le (F 177 (F 175 9)) l3 →
   v = (2, 0) ∧ F' = F) ∧
  (s_lt l3 (F 177 (F 175 9)) →
   ∃ m, m < n ∧ Rn m k_M_layFar 51 [(2, 175), (3, 0), (0, l2), (0, l3), (0, 0), (3, 0), (3, 0)] [] F v F') := by
  have t := q_ok cv_165 ap_165 (hd := [(2, [1, 1, 1, 1, 0, 0, 0]), (40, [1, 0, 1, 1, 0, 0, 0]), (51, [1, 0, 1, 1, 1, 0, 0])]) h rfl rfl
  exact t
set_option maxRecDepth 40000 in
theorem q_M_layFar_51 {n : Nat} {l2 l3 l4 : Nat} {F : fx_F} {v : fx_V} {F' : fx_F} (h : Rn n k_M_layFar 51 [(2, 175), (3, 0), (0, l2), (0, l3), (0, l4), (3, 0), (3, 0)] [] F v F') :
  (s_le (F 178 (F 175 9)) l4 →
   ∃ m, m < n ∧ Rn m k_M_layFar 40 [(2, 175), (3, 0), (0, l2), (0, i_add l3 1), (3, 0), (3, 0), (3, 0)] [] F v F') ∧
  (s_lt l4 (F 178 (F 175 9)) →
   ((F 176 (i_add 0 l4)) ≠ 1 →
     ∃ m, m < n ∧ Rn m k_M_layFar 51 [(2, 175), (3, 0), (0, l2), (0, l3), (0, i_add l4 1), (3, 0), (3, 0)] [] F v F') ∧
    ((F 176 (i_add 0 l4)) = 1 →
     ((F 183 (i_add (i_add (i_mul 40 (F 175 9)) (i_mul 2 l4)) 0)) = l2 →
       ∃ m, m < n ∧ Rn m k_M_layFar 51 [(2, 175), (3, 0), (0, l2), (0, l3), (0, i_add l4 1), (3, 0), (3, 0)] [] F v F') ∧
      ((F 183 (i_add (i_add (i_mul 40 (F 175 9)) (i_mul 2 l4)) 0)) ≠ l2 →
       ((F 183 (i_add (i_add (i_mul 40 (F 175 9)) (i_mul 2 l4)) 1)) ≠ l2 →
         (s_le (F 188 (F 183 (i_add (i_add (i_mul 40 (F 175 9)) (i_mul 2 l4)) 1))) (i_add (F 188 (F 183 (i_add (i_add (i_mul 40 (F 175 9)) (i_mul 2 l4)) 0))) 1) →
           (s_le (F 188 (F 183 (i_add (i_add (i_mul 40 (F 175 9)) (i_mul 2 l4)) 0))) (i_add (F 188 (F 183 (i_add (i_add (i_mul 40 (F 175 9)) (i_mul 2 l4)) 1))) 1) →
             ∃ m, m < n ∧ Rn m k_M_layFar 51 [(2, 175), (3, 0), (0, l2), (0, l3), (0, i_add l4 1), (3, 0), (3, 0)] [] F v F') ∧
            (s_lt (i_add (F 188 (F 183 (i_add (i_add (i_mul 40 (F 175 9)) (i_mul 2 l4)) 1))) 1) (F 188 (F 183 (i_add (i_add (i_mul 40 (F 175 9)) (i_mul 2 l4)) 0))) →
             ∃ m, m < n ∧ Rn m k_M_layFar 51 [(2, 175), (3, 0), (0, l2), (0, l3), (0, i_add l4 1), (3, 0), (3, 0)] [] (fu F 188 (F 183 (i_add (i_add (i_mul 40 (F 175 9)) (i_mul 2 l4)) 0)) (i_add (F 188 (F 183 (i_add (i_add (i_mul 40 (F 175 9)) (i_mul 2 l4)) 1))) 1)) v F')) ∧
          (s_lt (i_add (F 188 (F 183 (i_add (i_add (i_mul 40 (F 175 9)) (i_mul 2 l4)) 0))) 1) (F 188 (F 183 (i_add (i_add (i_mul 40 (F 175 9)) (i_mul 2 l4)) 1))) →
           (s_le ((fu F 188 (F 183 (i_add (i_add (i_mul 40 (F 175 9)) (i_mul 2 l4)) 1)) (i_add (F 188 (F 183 (i_add (i_add (i_mul 40 (F 175 9)) (i_mul 2 l4)) 0))) 1)) 188 (F 183 (i_add (i_add (i_mul 40 (F 175 9)) (i_mul 2 l4)) 0))) (i_add ((fu F 188 (F 183 (i_add (i_add (i_mul 40 (F 175 9)) (i_mul 2 l4)) 1)) (i_add (F 188 (F 183 (i_add (i_add (i_mul 40 (F 175 9)) (i_mul 2 l4)) 0))) 1)) 188 (F 183 (i_add (i_add (i_mul 40 (F 175 9)) (i_mul 2 l4)) 1))) 1) →
             ∃ m, m < n ∧ Rn m k_M_layFar 51 [(2, 175), (3, 0), (0, l2), (0, l3), (0, i_add l4 1), (3, 0), (3, 0)] [] (fu F 188 (F 183 (i_add (i_add (i_mul 40 (F 175 9)) (i_mul 2 l4)) 1)) (i_add (F 188 (F 183 (i_add (i_add (i_mul 40 (F 175 9)) (i_mul 2 l4)) 0))) 1)) v F') ∧
            (s_lt (i_add ((fu F 188 (F 183 (i_add (i_add (i_mul 40 (F 175 9)) (i_mul 2 l4)) 1)) (i_add (F 188 (F 183 (i_add (i_add (i_mul 40 (F 175 9)) (i_mul 2 l4)) 0))) 1)) 188 (F 183 (i_add (i_add (i_mul 40 (F 175 9)) (i_mul 2 l4)) 1))) 1) ((fu F 188 (F 183 (i_add (i_add (i_mul 40 (F 175 9)) (i_mul 2 l4)) 1)) (i_add (F 188 (F 183 (i_add (i_add (i_mul 40 (F 175 9)) (i_mul 2 l4)) 0))) 1)) 188 (F 183 (i_add (i_add (i_mul 40 (F 175 9)) (i_mul 2 l4)) 0))) →
             ∃ m, m < n ∧ Rn m k_M_layFar 51 [(2, 175), (3, 0), (0, l2), (0, l3), (0, i_add l4 1), (3, 0), (3, 0)] [] (fu (fu F 188 (F 183 (i_add (i_add (i_mul 40 (F 175 9)) (i_mul 2 l4)) 1)) (i_add (F 188 (F 183 (i_add (i_add (i_mul 40 (F 175 9)) (i_mul 2 l4)) 0))) 1)) 188 (F 183 (i_add (i_add (i_mul 40 (F 175 9)) (i_mul 2 l4)) 0)) (i_add ((fu F 188 (F 183 (i_add (i_add (i_mul 40 (F 175 9)) (i_mul 2 l4)) 1)) (i_add (F 188 (F 183 (i_add (i_add (i_mul 40 (F 175 9)) (i_mul 2 l4)) 0))) 1)) 188 (F 183 (i_add (i_add (i_mul 40 (F 175 9)) (i_mul 2 l4)) 1))) 1)) v F'))) ∧
        ((F 183 (i_add (i_add (i_mul 40 (F 175 9)) (i_mul 2 l4)) 1)) = l2 →
         ∃ m, m < n ∧ Rn m k_M_layFar 51 [(2, 175), (3, 0), (0, l2), (0, l3), (0, i_add l4 1), (3, 0), (3, 0)] [] F v F')))) := by
  have t := q_ok cv_165 ap_165 (hd := [(2, [1, 1, 1, 1, 0, 0, 0]), (40, [1, 0, 1, 1, 0, 0, 0]), (51, [1, 0, 1, 1, 1, 0, 0])]) h rfl rfl
  exact t
-- TurnNetModel.link(II)I
theorem c_M_link {a1 a2 : Nat} {F : fx_F} {v : fx_V} {F' : fx_F} (h : Cl k_M_link [(2, 175), (0, a1), (0, a2)] F v F') : ∃ n, Rn n k_M_link 0 [(2, 175), (0, a1), (0, a2)] [] F v F' := by
  obtain ⟨n, s, hs, h⟩ := h
  rw [sg_166] at hs
  cases hs
  exact ⟨n, h⟩
set_option maxRecDepth 40000 in
theorem q_M_link_0 {n : Nat} {a1 a2 : Nat} {F : fx_F} {v : fx_V} {F' : fx_F} (h : Rn n k_M_link 0 [(2, 175), (0, a1), (0, a2)] [] F v F') :
  (s_lt a1 0 →
   v = (0, 4294967295) ∧ F' = F) ∧
  (s_le 0 a1 →
   (s_lt (i_sub (F 178 (F 175 9)) 1) a1 →
     v = (0, 4294967295) ∧ F' = F) ∧
    (s_le a1 (i_sub (F 178 (F 175 9)) 1) →
     ((a2 < 0 ∨ 4 ≤ a2) →
       v = (0, 4294967295) ∧ F' = F) ∧
      ((a2 = 0 →
       v = (0, F 183 (i_add (i_add (i_mul 40 (F 175 9)) (i_mul 2 a1)) 0)) ∧ F' = F) ∧
      ((a2 = 1 →
       v = (0, F 183 (i_add (i_add (i_mul 40 (F 175 9)) (i_mul 2 a1)) 1)) ∧ F' = F) ∧
      ((a2 = 2 →
       v = (0, F 176 (i_add 20 a1)) ∧ F' = F) ∧
      ((a2 = 3 →
       v = (0, F 176 (i_add 0 a1)) ∧ F' = F) ∧ True)))))) := by
  have t := q_ok cv_166 ap_166 (hd := []) h rfl rfl
  exact t
-- TurnNetModel.linksOf(I)I
theorem c_M_linksOf {a1 : Nat} {F : fx_F} {v : fx_V} {F' : fx_F} (h : Cl k_M_linksOf [(2, 175), (0, a1)] F v F') : ∃ n, Rn n k_M_linksOf 0 [(2, 175), (0, a1), (3, 0), (3, 0)] [] F v F' := by
  obtain ⟨n, s, hs, h⟩ := h
  rw [sg_167] at hs
  cases hs
  exact ⟨n, h⟩
set_option maxRecDepth 40000 in
theorem q_M_linksOf_0 {n : Nat} {a1 : Nat} {F : fx_F} {v : fx_V} {F' : fx_F} (h : Rn n k_M_linksOf 0 [(2, 175), (0, a1), (3, 0), (3, 0)] [] F v F') :
  ∃ m, m < n ∧ Rn m k_M_linksOf 4 [(2, 175), (0, a1), (0, 0), (0, 0)] [] F v F' := by
  have t := q_ok cv_167 ap_167 (hd := [(4, [1, 1, 1, 1])]) h rfl rfl
  exact t
set_option maxRecDepth 40000 in
theorem q_M_linksOf_4 {n : Nat} {l1 l2 l3 : Nat} {F : fx_F} {v : fx_V} {F' : fx_F} (h : Rn n k_M_linksOf 4 [(2, 175), (0, l1), (0, l2), (0, l3)] [] F v F') :
  (s_le (F 178 (F 175 9)) l3 →
   v = (0, l2) ∧ F' = F) ∧
  (s_lt l3 (F 178 (F 175 9)) →
   ((F 176 (i_add 0 l3)) ≠ 1 →
     ∃ m, m < n ∧ Rn m k_M_linksOf 4 [(2, 175), (0, l1), (0, i_add l2 0), (0, i_add l3 1)] [] F v F') ∧
    ((F 176 (i_add 0 l3)) = 1 →
     ((F 183 (i_add (i_add (i_mul 40 (F 175 9)) (i_mul 2 l3)) 0)) = l1 →
       ∃ m, m < n ∧ Rn m k_M_linksOf 4 [(2, 175), (0, l1), (0, i_add l2 1), (0, i_add l3 1)] [] F v F') ∧
      ((F 183 (i_add (i_add (i_mul 40 (F 175 9)) (i_mul 2 l3)) 0)) ≠ l1 →
       ((F 183 (i_add (i_add (i_mul 40 (F 175 9)) (i_mul 2 l3)) 1)) ≠ l1 →
         ∃ m, m < n ∧ Rn m k_M_linksOf 4 [(2, 175), (0, l1), (0, i_add l2 0), (0, i_add l3 1)] [] F v F') ∧
        ((F 183 (i_add (i_add (i_mul 40 (F 175 9)) (i_mul 2 l3)) 1)) = l1 →
         ∃ m, m < n ∧ Rn m k_M_linksOf 4 [(2, 175), (0, l1), (0, i_add l2 1), (0, i_add l3 1)] [] F v F')))) := by
  have t := q_ok cv_167 ap_167 (hd := [(4, [1, 1, 1, 1])]) h rfl rfl
  exact t
-- TurnNetModel.mend(I)I
theorem c_M_mend {a1 : Nat} {F : fx_F} {v : fx_V} {F' : fx_F} (h : Cl k_M_mend [(2, 175), (0, a1)] F v F') : ∃ n, Rn n k_M_mend 0 [(2, 175), (0, a1)] [] F v F' := by
  obtain ⟨n, s, hs, h⟩ := h
  rw [sg_168] at hs
  cases hs
  exact ⟨n, h⟩
set_option maxRecDepth 40000 in
theorem q_M_mend_0 {n : Nat} {a1 : Nat} {F : fx_F} {v : fx_V} {F' : fx_F} (h : Rn n k_M_mend 0 [(2, 175), (0, a1)] [] F v F') :
  (s_lt a1 0 →
   v = (0, 4294967295) ∧ F' = F) ∧
  (s_le 0 a1 →
   (s_lt (i_sub (F 178 (F 175 9)) 1) a1 →
     v = (0, 4294967295) ∧ F' = F) ∧
    (s_le a1 (i_sub (F 178 (F 175 9)) 1) →
     ((F 176 (i_add 0 a1)) ≠ 1 →
       ∃ F1 : fx_F, Cl k_M_keepAct [(2, 175)] F (2, 0) F1 ∧
        ∃ (n2 : Nat) (F2 : fx_F), Cl k_M_standing [(2, 175)] (fu F1 176 (i_add 0 a1) 1) (0, n2) F2 ∧
         v = (0, n2) ∧ F' = F2) ∧
      ((F 176 (i_add 0 a1)) = 1 →
       v = (0, 4294967295) ∧ F' = F))) := by
  have t := q_ok cv_168 ap_168 (hd := []) h rfl rfl
  exact t
-- TurnNetModel.roundOf(I)I
theorem c_M_roundOf {a1 : Nat} {F : fx_F} {v : fx_V} {F' : fx_F} (h : Cl k_M_roundOf [(2, 175), (0, a1)] F v F') : ∃ n, Rn n k_M_roundOf 0 [(2, 175), (0, a1), (3, 0), (3, 0), (3, 0), (3, 0), (3, 0), (3, 0), (3, 0), (3, 0)] [] F v F' := by
  obtain ⟨n, s, hs, h⟩ := h
  rw [sg_169] at hs
  cases hs
  exact ⟨n, h⟩
set_option maxRecDepth 40000 in
theorem q_M_roundOf_0 {n : Nat} {a1 : Nat} {F : fx_F} {v : fx_V} {F' : fx_F} (h : Rn n k_M_roundOf 0 [(2, 175), (0, a1), (3, 0), (3, 0), (3, 0), (3, 0), (3, 0), (3, 0), (3, 0), (3, 0)] [] F v F') :
  ∃ m, m < n ∧ Rn m k_M_roundOf 13 [(2, 175), (0, a1), (1, 0), (3, 0), (1, F 192 a1), (3, 0), (0, 1), (3, 0), (3, 0), (3, 0)] [] F v F' := by
  have t := q_ok cv_169 ap_169 (hd := [(13, [1, 1, 1, 0, 1, 0, 1, 0, 0, 0]), (45, [1, 1, 1, 0, 1, 0, 1, 1, 0, 1])]) h rfl rfl
  exact t
set_option maxRecDepth 40000 in
theorem q_M_roundOf_13 {n : Nat} {l1 l2 l4 l6 : Nat} {F : fx_F} {v : fx_V} {F' : fx_F} (h : Rn n k_M_roundOf 13 [(2, 175), (0, l1), (1, l2), (3, 0), (1, l4), (3, 0), (0, l6), (3, 0), (3, 0), (3, 0)] [] F v F') :
  ((rx_f_lcmp l4 0) = 0 →
   v = (0, 4294967295) ∧ F' = F) ∧
  ((rx_f_lcmp l4 0) ≠ 0 →
   ((rx_f_lcmp (rx_j_and (rx_j_shr l4 l1) 1) 1) ≠ 0 →
     ∃ m, m < n ∧ Rn m k_M_roundOf 45 [(2, 175), (0, l1), (1, rx_j_or l2 l4), (3, 0), (1, l4), (3, 0), (0, l6), (1, 0), (3, 0), (0, 0)] [] F v F') ∧
    ((rx_f_lcmp (rx_j_and (rx_j_shr l4 l1) 1) 1) = 0 →
     v = (0, l6) ∧ F' = F)) := by
  have t := q_ok cv_169 ap_169 (hd := [(13, [1, 1, 1, 0, 1, 0, 1, 0, 0, 0]), (45, [1, 1, 1, 0, 1, 0, 1, 1, 0, 1])]) h rfl rfl
  exact t
set_option maxRecDepth 40000 in
theorem q_M_roundOf_45 {n : Nat} {l1 l2 l4 l6 l7 l9 : Nat} {F : fx_F} {v : fx_V} {F' : fx_F} (h : Rn n k_M_roundOf 45 [(2, 175), (0, l1), (1, l2), (3, 0), (1, l4), (3, 0), (0, l6), (1, l7), (3, 0), (0, l9)] [] F v F') :
  (s_le (i_mul 2 (F 178 (F 175 9))) l9 →
   ∃ m, m < n ∧ Rn m k_M_roundOf 13 [(2, 175), (0, l1), (1, l2), (3, 0), (1, rx_j_and l7 (rx_j_xor l2 18446744073709551615)), (3, 0), (0, i_add l6 1), (3, 0), (3, 0), (3, 0)] [] F v F') ∧
  (s_lt l9 (i_mul 2 (F 178 (F 175 9))) →
   ((rx_f_lcmp (rx_j_and (rx_j_shr l4 l9) 1) 1) ≠ 0 →
     ∃ m, m < n ∧ Rn m k_M_roundOf 45 [(2, 175), (0, l1), (1, l2), (3, 0), (1, l4), (3, 0), (0, l6), (1, l7), (3, 0), (0, i_add l9 1)] [] F v F') ∧
    ((rx_f_lcmp (rx_j_and (rx_j_shr l4 l9) 1) 1) = 0 →
     ∃ m, m < n ∧ Rn m k_M_roundOf 45 [(2, 175), (0, l1), (1, l2), (3, 0), (1, l4), (3, 0), (0, l6), (1, rx_j_or l7 (F 192 l9)), (3, 0), (0, i_add l9 1)] [] F v F')) := by
  have t := q_ok cv_169 ap_169 (hd := [(13, [1, 1, 1, 0, 1, 0, 1, 0, 0, 0]), (45, [1, 1, 1, 0, 1, 0, 1, 1, 0, 1])]) h rfl rfl
  exact t
-- TurnNetModel.toOf(I)I
theorem c_M_toOf {a1 : Nat} {F : fx_F} {v : fx_V} {F' : fx_F} (h : Cl k_M_toOf [(2, 175), (0, a1)] F v F') : ∃ n, Rn n k_M_toOf 0 [(2, 175), (0, a1)] [] F v F' := by
  obtain ⟨n, s, hs, h⟩ := h
  rw [sg_171] at hs
  cases hs
  exact ⟨n, h⟩
set_option maxRecDepth 40000 in
theorem q_M_toOf_0 {n : Nat} {a1 : Nat} {F : fx_F} {v : fx_V} {F' : fx_F} (h : Rn n k_M_toOf 0 [(2, 175), (0, a1)] [] F v F') :
  v = (0, F 183 (i_add (i_add (i_mul 40 (F 175 9)) (i_mul 2 (i_div a1 2))) (i_sub 1 (i_rem a1 2)))) ∧ F' = F := by
  have t := q_ok cv_171 ap_171 (hd := []) h rfl rfl
  exact t
-- TurnNetModel.turn(I)I
theorem c_M_turn {a1 : Nat} {F : fx_F} {v : fx_V} {F' : fx_F} (h : Cl k_M_turn [(2, 175), (0, a1)] F v F') : ∃ n, Rn n k_M_turn 0 [(2, 175), (0, a1)] [] F v F' := by
  obtain ⟨n, s, hs, h⟩ := h
  rw [sg_172] at hs
  cases hs
  exact ⟨n, h⟩
set_option maxRecDepth 40000 in
theorem q_M_turn_0 {n : Nat} {a1 : Nat} {F : fx_F} {v : fx_V} {F' : fx_F} (h : Rn n k_M_turn 0 [(2, 175), (0, a1)] [] F v F') :
  (s_lt a1 0 →
   v = (0, 4294967295) ∧ F' = F) ∧
  (s_le 0 a1 →
   (s_lt (i_sub (F 178 (F 175 9)) 1) a1 →
     v = (0, 4294967295) ∧ F' = F) ∧
    (s_le a1 (i_sub (F 178 (F 175 9)) 1) →
     ∃ F1 : fx_F, Cl k_M_keepAct [(2, 175)] F (2, 0) F1 ∧
      v = (0, (fu F1 176 (i_add 20 a1) (i_sub (i_add (F1 183 (i_add (i_add (i_mul 40 (F1 175 9)) (i_mul 2 a1)) 0)) (F1 183 (i_add (i_add (i_mul 40 (F1 175 9)) (i_mul 2 a1)) 1))) (F1 176 (i_add 20 a1)))) 176 (i_add 20 a1)) ∧ F' = (fu F1 176 (i_add 20 a1) (i_sub (i_add (F1 183 (i_add (i_add (i_mul 40 (F1 175 9)) (i_mul 2 a1)) 0)) (F1 183 (i_add (i_add (i_mul 40 (F1 175 9)) (i_mul 2 a1)) 1))) (F1 176 (i_add 20 a1)))))) := by
  have t := q_ok cv_172 ap_172 (hd := []) h rfl rfl
  exact t
-- TurnNet$Graph.findPivots(I)I
theorem c_Gr_findPivots {a1 : Nat} {F : fx_F} {v : fx_V} {F' : fx_F} (h : Cl k_Gr_findPivots [(2, 40), (0, a1)] F v F') : ∃ n, Rn n k_Gr_findPivots 0 [(2, 40), (0, a1), (3, 0), (3, 0)] [] F v F' := by
  obtain ⟨n, s, hs, h⟩ := h
  rw [sg_173] at hs
  cases hs
  exact ⟨n, h⟩
set_option maxRecDepth 40000 in
theorem q_Gr_findPivots_0 {n : Nat} {a1 : Nat} {F : fx_F} {v : fx_V} {F' : fx_F} (h : Rn n k_Gr_findPivots 0 [(2, 40), (0, a1), (3, 0), (3, 0)] [] F v F') :
  ∃ F1 : fx_F, Cl k_Gr_see [(2, 40), (0, a1)] F (2, 0) F1 ∧
  ∃ m, m < n ∧ Rn m k_Gr_findPivots 9 [(2, 40), (0, a1), (0, 0), (0, 0)] [] F1 v F' := by
  have t := q_ok cv_173 ap_173 (hd := [(9, [1, 1, 1, 1])]) h rfl rfl
  exact t
set_option maxRecDepth 40000 in
theorem q_Gr_findPivots_9 {n : Nat} {l1 l2 l3 : Nat} {F : fx_F} {v : fx_V} {F' : fx_F} (h : Rn n k_Gr_findPivots 9 [(2, 40), (0, l1), (0, l2), (0, l3)] [] F v F') :
  (s_le (F 3 0) l3 →
   v = (0, l2) ∧ F' = F) ∧
  (s_lt l3 (F 3 0) →
   ∃ (n1 : Nat) (F1 : fx_F), Cl k_Gr_parts [(2, 40), (0, l3), (0, l1)] F (0, n1) F1 ∧
    (n1 = 0 →
      ∃ m, m < n ∧ Rn m k_Gr_findPivots 9 [(2, 40), (0, l1), (0, l2), (0, i_add l3 1)] [] F1 v F') ∧
     (n1 ≠ 0 →
      ∃ m, m < n ∧ Rn m k_Gr_findPivots 9 [(2, 40), (0, l1), (0, i_or l2 (i_shl 1 l3)), (0, i_add l3 1)] [] F1 v F')) := by
  have t := q_ok cv_173 ap_173 (hd := [(9, [1, 1, 1, 1])]) h rfl rfl
  exact t
-- TurnNet$Planner.takeLinks(III)I
theorem c_Pl_takeLinks {a1 a2 a3 : Nat} {F : fx_F} {v : fx_V} {F' : fx_F} (h : Cl k_Pl_takeLinks [(2, 48), (0, a1), (0, a2), (0, a3)] F v F') : ∃ n, Rn n k_Pl_takeLinks 0 [(2, 48), (0, a1), (0, a2), (0, a3), (3, 0), (3, 0), (3, 0)] [] F v F' := by
  obtain ⟨n, s, hs, h⟩ := h
  rw [sg_174] at hs
  cases hs
  exact ⟨n, h⟩
set_option maxRecDepth 40000 in
theorem q_Pl_takeLinks_0 {n : Nat} {a1 a2 a3 : Nat} {F : fx_F} {v : fx_V} {F' : fx_F} (h : Rn n k_Pl_takeLinks 0 [(2, 48), (0, a1), (0, a2), (0, a3), (3, 0), (3, 0), (3, 0)] [] F v F') :
  ∃ m, m < n ∧ Rn m k_Pl_takeLinks 6 [(2, 48), (0, a1), (0, a2), (0, a3), (0, 0), (0, 0), (3, 0)] [] F v F' := by
  have t := q_ok cv_174 ap_174 (hd := [(6, [1, 1, 1, 1, 1, 1, 0])]) h rfl rfl
  exact t
set_option maxRecDepth 40000 in
theorem q_Pl_takeLinks_6 {n : Nat} {l1 l2 l3 l4 l5 : Nat} {F : fx_F} {v : fx_V} {F' : fx_F} (h : Rn n k_Pl_takeLinks 6 [(2, 48), (0, l1), (0, l2), (0, l3), (0, l4), (0, l5), (3, 0)] [] F v F') :
  (s_le (F 3 1) l5 →
   v = (0, l4) ∧ F' = F) ∧
  (s_lt l5 (F 3 1) →
   ((i_and (i_shr l2 l5) 1) ≠ 1 →
     ∃ m, m < n ∧ Rn m k_Pl_takeLinks 6 [(2, 48), (0, l1), (0, l2), (0, l3), (0, l4), (0, i_add l5 1), (3, 0)] [] F v F') ∧
    ((i_and (i_shr l2 l5) 1) = 1 →
     ∃ F1 : fx_F, Cl k_Tu_take [(2, 45), (0, l1), (0, i_xor l1 (i_or l4 (i_shl 1 l5))), (0, l3)] F (2, 0) F1 ∧
      ∃ (n2 : Nat) (F2 : fx_F), Cl k_Tu_haveRing [(2, 45)] F1 (0, n2) F2 ∧
       (n2 ≠ 0 →
         ∃ m, m < n ∧ Rn m k_Pl_takeLinks 6 [(2, 48), (0, l1), (0, l2), (0, l3), (0, l4), (0, i_add l5 1), (3, 0)] [] F2 v F') ∧
        (n2 = 0 →
         ∃ m, m < n ∧ Rn m k_Pl_takeLinks 6 [(2, 48), (0, l1), (0, l2), (0, l3), (0, i_or l4 (i_shl 1 l5)), (0, i_add l5 1), (3, 0)] [] F2 v F'))) := by
  have t := q_ok cv_174 ap_174 (hd := [(6, [1, 1, 1, 1, 1, 1, 0])]) h rfl rfl
  exact t
-- TurnNet$Reader.closeLine()Z
theorem c_Rd_closeLine {F : fx_F} {v : fx_V} {F' : fx_F} (h : Cl k_Rd_closeLine [(2, 10)] F v F') : ∃ n, Rn n k_Rd_closeLine 0 [(2, 10)] [] F v F' := by
  obtain ⟨n, s, hs, h⟩ := h
  rw [sg_175] at hs
  cases hs
  exact ⟨n, h⟩
set_option maxRecDepth 40000 in
theorem q_Rd_closeLine_0 {n : Nat} {F : fx_F} {v : fx_V} {F' : fx_F} (h : Rn n k_Rd_closeLine 0 [(2, 10)] [] F v F') :
  ∃ F1 : fx_F, Cl k_Rd_advance [(2, 10)] F (2, 0) F1 ∧
  ∃ (n2 : Nat) (F2 : fx_F), Cl k_Rd_readSign [(2, 10), (0, 59)] F1 (0, n2) F2 ∧
   v = (0, n2) ∧ F' = F2 := by
  have t := q_ok cv_175 ap_175 (hd := []) h rfl rfl
  exact t
-- TurnNet$Routes.countArriving(II)V
theorem c_Ro_countArriving {p a1 a2 : Nat} {F : fx_F} {v : fx_V} {F' : fx_F} (h : Cl k_Ro_countArriving [(2, p), (0, a1), (0, a2)] F v F') : ∃ n, Rn n k_Ro_countArriving 0 [(2, p), (0, a1), (0, a2), (3, 0), (3, 0)] [] F v F' := by
  obtain ⟨n, s, hs, h⟩ := h
  rw [sg_176] at hs
  cases hs
  exact ⟨n, h⟩
set_option maxRecDepth 40000 in
theorem q_Ro_countArriving_0 {n : Nat} {p a1 a2 : Nat} {F : fx_F} {v : fx_V} {F' : fx_F} (h : Rn n k_Ro_countArriving 0 [(2, p), (0, a1), (0, a2), (3, 0), (3, 0)] [] F v F') :
  ∃ m, m < n ∧ Rn m k_Ro_countArriving 2 [(2, p), (0, a1), (0, a2), (0, 0), (3, 0)] [] F v F' := by
  have t := q_ok cv_176 ap_176 (hd := [(2, [1, 1, 1, 1, 0]), (33, [1, 0, 1, 1, 0]), (41, [1, 0, 1, 1, 1])]) h rfl rfl
  exact t
set_option maxRecDepth 40000 in
theorem q_Ro_countArriving_2 {n : Nat} {p l1 l2 l3 : Nat} {F : fx_F} {v : fx_V} {F' : fx_F} (h : Rn n k_Ro_countArriving 2 [(2, p), (0, l1), (0, l2), (0, l3), (3, 0)] [] F v F') :
  (s_le 20 l3 →
   ∃ m, m < n ∧ Rn m k_Ro_countArriving 33 [(2, p), (3, 0), (0, l2), (0, 20), (3, 0)] [] (fu F (p + 7) (i_mul 2 l1) 1) v F') ∧
  (s_lt l3 20 →
   ∃ m, m < n ∧ Rn m k_Ro_countArriving 2 [(2, p), (0, l1), (0, l2), (0, i_add l3 1), (3, 0)] [] (fu F (p + 7) l3 0) v F') := by
  have t := q_ok cv_176 ap_176 (hd := [(2, [1, 1, 1, 1, 0]), (33, [1, 0, 1, 1, 0]), (41, [1, 0, 1, 1, 1])]) h rfl rfl
  exact t
set_option maxRecDepth 40000 in
theorem q_Ro_countArriving_33 {n : Nat} {p l2 l3 : Nat} {F : fx_F} {v : fx_V} {F' : fx_F} (h : Rn n k_Ro_countArriving 33 [(2, p), (3, 0), (0, l2), (0, l3), (3, 0)] [] F v F') :
  (s_lt l3 1 →
   v = (2, 0) ∧ F' = F) ∧
  (s_le 1 l3 →
   ∃ m, m < n ∧ Rn m k_Ro_countArriving 41 [(2, p), (3, 0), (0, l2), (0, l3), (0, 0)] [] F v F') := by
  have t := q_ok cv_176 ap_176 (hd := [(2, [1, 1, 1, 1, 0]), (33, [1, 0, 1, 1, 0]), (41, [1, 0, 1, 1, 1])]) h rfl rfl
  exact t
set_option maxRecDepth 40000 in
theorem q_Ro_countArriving_41 {n : Nat} {p l2 l3 l4 : Nat} {F : fx_F} {v : fx_V} {F' : fx_F} (h : Rn n k_Ro_countArriving 41 [(2, p), (3, 0), (0, l2), (0, l3), (0, l4)] [] F v F') :
  (s_le (i_mul 2 (F 3 0)) l4 →
   ∃ m, m < n ∧ Rn m k_Ro_countArriving 33 [(2, p), (3, 0), (0, l2), (0, i_add l3 4294967295), (3, 0)] [] F v F') ∧
  (s_lt l4 (i_mul 2 (F 3 0)) →
   ((F (p + 1) (i_add (i_mul l2 20) l4)) ≠ l3 →
     ∃ m, m < n ∧ Rn m k_Ro_countArriving 41 [(2, p), (3, 0), (0, l2), (0, l3), (0, i_add l4 1)] [] F v F') ∧
    ((F (p + 1) (i_add (i_mul l2 20) l4)) = l3 →
     (s_le (rx_f_lcmp (F (p + 7) l4) 0) 0 →
       ∃ m, m < n ∧ Rn m k_Ro_countArriving 41 [(2, p), (3, 0), (0, l2), (0, l3), (0, i_add l4 1)] [] F v F') ∧
      (s_lt 0 (rx_f_lcmp (F (p + 7) l4) 0) →
       ∃ F1 : fx_F, Cl k_Ro_passArriving [(2, p), (0, l2), (0, l4)] F (2, 0) F1 ∧
        ∃ m, m < n ∧ Rn m k_Ro_countArriving 41 [(2, p), (3, 0), (0, l2), (0, l3), (0, i_add l4 1)] [] F1 v F'))) := by
  have t := q_ok cv_176 ap_176 (hd := [(2, [1, 1, 1, 1, 0]), (33, [1, 0, 1, 1, 0]), (41, [1, 0, 1, 1, 1])]) h rfl rfl
  exact t
-- TurnNet$Routes.countLoads()V
theorem c_Ro_countLoads {p : Nat} {F : fx_F} {v : fx_V} {F' : fx_F} (h : Cl k_Ro_countLoads [(2, p)] F v F') : ∃ n, Rn n k_Ro_countLoads 0 [(2, p), (3, 0), (3, 0)] [] F v F' := by
  obtain ⟨n, s, hs, h⟩ := h
  rw [sg_177] at hs
  cases hs
  exact ⟨n, h⟩
set_option maxRecDepth 40000 in
theorem q_Ro_countLoads_0 {n : Nat} {p : Nat} {F : fx_F} {v : fx_V} {F' : fx_F} (h : Rn n k_Ro_countLoads 0 [(2, p), (3, 0), (3, 0)] [] F v F') :
  ∃ m, m < n ∧ Rn m k_Ro_countLoads 2 [(2, p), (0, 0), (3, 0)] [] F v F' := by
  have t := q_ok cv_177 ap_177 (hd := [(2, [1, 1, 0]), (28, [1, 1, 0]), (41, [1, 1, 1])]) h rfl rfl
  exact t
set_option maxRecDepth 40000 in
theorem q_Ro_countLoads_2 {n : Nat} {p l1 : Nat} {F : fx_F} {v : fx_V} {F' : fx_F} (h : Rn n k_Ro_countLoads 2 [(2, p), (0, l1), (3, 0)] [] F v F') :
  (s_le (i_mul 2 (F 3 1)) l1 →
   ∃ m, m < n ∧ Rn m k_Ro_countLoads 28 [(2, p), (0, 0), (3, 0)] [] F v F') ∧
  (s_lt l1 (i_mul 2 (F 3 1)) →
   ∃ m, m < n ∧ Rn m k_Ro_countLoads 2 [(2, p), (0, i_add l1 1), (3, 0)] [] (fu F (p + 4) l1 0) v F') := by
  have t := q_ok cv_177 ap_177 (hd := [(2, [1, 1, 0]), (28, [1, 1, 0]), (41, [1, 1, 1])]) h rfl rfl
  exact t
set_option maxRecDepth 40000 in
theorem q_Ro_countLoads_28 {n : Nat} {p l1 : Nat} {F : fx_F} {v : fx_V} {F' : fx_F} (h : Rn n k_Ro_countLoads 28 [(2, p), (0, l1), (3, 0)] [] F v F') :
  (s_le (F 3 0) l1 →
   v = (2, 0) ∧ F' = F) ∧
  (s_lt l1 (F 3 0) →
   ∃ m, m < n ∧ Rn m k_Ro_countLoads 41 [(2, p), (0, l1), (0, 0)] [] F v F') := by
  have t := q_ok cv_177 ap_177 (hd := [(2, [1, 1, 0]), (28, [1, 1, 0]), (41, [1, 1, 1])]) h rfl rfl
  exact t
set_option maxRecDepth 40000 in
theorem q_Ro_countLoads_41 {n : Nat} {p l1 l2 : Nat} {F : fx_F} {v : fx_V} {F' : fx_F} (h : Rn n k_Ro_countLoads 41 [(2, p), (0, l1), (0, l2)] [] F v F') :
  (s_le (F 3 0) l2 →
   ∃ m, m < n ∧ Rn m k_Ro_countLoads 28 [(2, p), (0, i_add l1 1), (3, 0)] [] F v F') ∧
  (s_lt l2 (F 3 0) →
   ∃ F1 : fx_F, Cl k_Ro_countPath [(2, p), (0, l1), (0, l2)] F (2, 0) F1 ∧
    ∃ m, m < n ∧ Rn m k_Ro_countLoads 41 [(2, p), (0, l1), (0, i_add l2 1)] [] F1 v F') := by
  have t := q_ok cv_177 ap_177 (hd := [(2, [1, 1, 0]), (28, [1, 1, 0]), (41, [1, 1, 1])]) h rfl rfl
  exact t
-- TurnNet$Routes.countOnward(I)V
theorem c_Ro_countOnward {p a1 : Nat} {F : fx_F} {v : fx_V} {F' : fx_F} (h : Cl k_Ro_countOnward [(2, p), (0, a1)] F v F') : ∃ n, Rn n k_Ro_countOnward 0 [(2, p), (0, a1), (3, 0), (3, 0)] [] F v F' := by
  obtain ⟨n, s, hs, h⟩ := h
  rw [sg_178] at hs
  cases hs
  exact ⟨n, h⟩
set_option maxRecDepth 40000 in
theorem q_Ro_countOnward_0 {n : Nat} {p a1 : Nat} {F : fx_F} {v : fx_V} {F' : fx_F} (h : Rn n k_Ro_countOnward 0 [(2, p), (0, a1), (3, 0), (3, 0)] [] F v F') :
  ∃ m, m < n ∧ Rn m k_Ro_countOnward 2 [(2, p), (0, a1), (0, 0), (3, 0)] [] F v F' := by
  have t := q_ok cv_178 ap_178 (hd := [(2, [1, 1, 1, 0]), (41, [1, 1, 1, 0]), (49, [1, 1, 1, 1])]) h rfl rfl
  exact t
set_option maxRecDepth 40000 in
theorem q_Ro_countOnward_2 {n : Nat} {p l1 l2 : Nat} {F : fx_F} {v : fx_V} {F' : fx_F} (h : Rn n k_Ro_countOnward 2 [(2, p), (0, l1), (0, l2), (3, 0)] [] F v F') :
  (s_le 20 l2 →
   ∃ m, m < n ∧ Rn m k_Ro_countOnward 41 [(2, p), (0, l1), (0, 1), (3, 0)] [] F v F') ∧
  (s_lt l2 20 →
   ((F (p + 1) (i_add (i_mul l1 20) l2)) ≠ 0 →
     ∃ m, m < n ∧ Rn m k_Ro_countOnward 2 [(2, p), (0, l1), (0, i_add l2 1), (3, 0)] [] (fu F (p + 6) l2 0) v F') ∧
    ((F (p + 1) (i_add (i_mul l1 20) l2)) = 0 →
     ∃ m, m < n ∧ Rn m k_Ro_countOnward 2 [(2, p), (0, l1), (0, i_add l2 1), (3, 0)] [] (fu F (p + 6) l2 1) v F')) := by
  have t := q_ok cv_178 ap_178 (hd := [(2, [1, 1, 1, 0]), (41, [1, 1, 1, 0]), (49, [1, 1, 1, 1])]) h rfl rfl
  exact t
set_option maxRecDepth 40000 in
theorem q_Ro_countOnward_41 {n : Nat} {p l1 l2 : Nat} {F : fx_F} {v : fx_V} {F' : fx_F} (h : Rn n k_Ro_countOnward 41 [(2, p), (0, l1), (0, l2), (3, 0)] [] F v F') :
  (s_lt 20 l2 →
   v = (2, 0) ∧ F' = F) ∧
  (s_le l2 20 →
   ∃ m, m < n ∧ Rn m k_Ro_countOnward 49 [(2, p), (0, l1), (0, l2), (0, 0)] [] F v F') := by
  have t := q_ok cv_178 ap_178 (hd := [(2, [1, 1, 1, 0]), (41, [1, 1, 1, 0]), (49, [1, 1, 1, 1])]) h rfl rfl
  exact t
set_option maxRecDepth 40000 in
theorem q_Ro_countOnward_49 {n : Nat} {p l1 l2 l3 : Nat} {F : fx_F} {v : fx_V} {F' : fx_F} (h : Rn n k_Ro_countOnward 49 [(2, p), (0, l1), (0, l2), (0, l3)] [] F v F') :
  (s_le (i_mul 2 (F 3 0)) l3 →
   ∃ m, m < n ∧ Rn m k_Ro_countOnward 41 [(2, p), (0, l1), (0, i_add l2 1), (3, 0)] [] F v F') ∧
  (s_lt l3 (i_mul 2 (F 3 0)) →
   ((F (p + 1) (i_add (i_mul l1 20) l3)) ≠ l2 →
     ∃ m, m < n ∧ Rn m k_Ro_countOnward 49 [(2, p), (0, l1), (0, l2), (0, i_add l3 1)] [] F v F') ∧
    ((F (p + 1) (i_add (i_mul l1 20) l3)) = l2 →
     ∃ F1 : fx_F, Cl k_Ro_addOnward [(2, p), (0, l1), (0, l3)] F (2, 0) F1 ∧
      ∃ m, m < n ∧ Rn m k_Ro_countOnward 49 [(2, p), (0, l1), (0, l2), (0, i_add l3 1)] [] F1 v F')) := by
  have t := q_ok cv_178 ap_178 (hd := [(2, [1, 1, 1, 0]), (41, [1, 1, 1, 0]), (49, [1, 1, 1, 1])]) h rfl rfl
  exact t
-- TurnNet$Routes.fillTable()V
theorem c_Ro_fillTable {p : Nat} {F : fx_F} {v : fx_V} {F' : fx_F} (h : Cl k_Ro_fillTable [(2, p)] F v F') : ∃ n, Rn n k_Ro_fillTable 0 [(2, p), (3, 0), (3, 0), (3, 0)] [] F v F' := by
  obtain ⟨n, s, hs, h⟩ := h
  rw [sg_179] at hs
  cases hs
  exact ⟨n, h⟩
set_option maxRecDepth 40000 in
theorem q_Ro_fillTable_0 {n : Nat} {p : Nat} {F : fx_F} {v : fx_V} {F' : fx_F} (h : Rn n k_Ro_fillTable 0 [(2, p), (3, 0), (3, 0), (3, 0)] [] F v F') :
  ∃ m, m < n ∧ Rn m k_Ro_fillTable 2 [(2, p), (0, 0), (3, 0), (3, 0)] [] F v F' := by
  have t := q_ok cv_179 ap_179 (hd := [(2, [1, 1, 0, 0]), (28, [1, 1, 0, 0]), (41, [1, 1, 1, 0])]) h rfl rfl
  exact t
set_option maxRecDepth 40000 in
theorem q_Ro_fillTable_2 {n : Nat} {p l1 : Nat} {F : fx_F} {v : fx_V} {F' : fx_F} (h : Rn n k_Ro_fillTable 2 [(2, p), (0, l1), (3, 0), (3, 0)] [] F v F') :
  (s_le (i_mul 2 (F 3 1)) l1 →
   ∃ m, m < n ∧ Rn m k_Ro_fillTable 28 [(2, p), (0, 0), (3, 0), (3, 0)] [] F v F') ∧
  (s_lt l1 (i_mul 2 (F 3 1)) →
   ∃ m, m < n ∧ Rn m k_Ro_fillTable 2 [(2, p), (0, i_add l1 1), (3, 0), (3, 0)] [] (fu F (p + 3) l1 0) v F') := by
  have t := q_ok cv_179 ap_179 (hd := [(2, [1, 1, 0, 0]), (28, [1, 1, 0, 0]), (41, [1, 1, 1, 0])]) h rfl rfl
  exact t
set_option maxRecDepth 40000 in
theorem q_Ro_fillTable_28 {n : Nat} {p l1 : Nat} {F : fx_F} {v : fx_V} {F' : fx_F} (h : Rn n k_Ro_fillTable 28 [(2, p), (0, l1), (3, 0), (3, 0)] [] F v F') :
  (s_le (F 3 0) l1 →
   v = (2, 0) ∧ F' = F) ∧
  (s_lt l1 (F 3 0) →
   ∃ m, m < n ∧ Rn m k_Ro_fillTable 41 [(2, p), (0, l1), (0, 0), (3, 0)] [] F v F') := by
  have t := q_ok cv_179 ap_179 (hd := [(2, [1, 1, 0, 0]), (28, [1, 1, 0, 0]), (41, [1, 1, 1, 0])]) h rfl rfl
  exact t
set_option maxRecDepth 40000 in
theorem q_Ro_fillTable_41 {n : Nat} {p l1 l2 : Nat} {F : fx_F} {v : fx_V} {F' : fx_F} (h : Rn n k_Ro_fillTable 41 [(2, p), (0, l1), (0, l2), (3, 0)] [] F v F') :
  (s_le (i_mul 2 (F 3 0)) l2 →
   ∃ m, m < n ∧ Rn m k_Ro_fillTable 28 [(2, p), (0, i_add l1 1), (3, 0), (3, 0)] [] F v F') ∧
  (s_lt l2 (i_mul 2 (F 3 0)) →
   ∃ (n1 : Nat) (F1 : fx_F), Cl k_Ro_leastUsed [(2, p), (0, l1), (0, i_shr l2 1), (0, i_and l2 1)] F (0, n1) F1 ∧
    (n1 = 4294967295 →
      ∃ m, m < n ∧ Rn m k_Ro_fillTable 41 [(2, p), (0, l1), (0, i_add l2 1), (3, 0)] [] (fu F1 (p + 2) (i_add (i_mul l1 20) l2) n1) v F') ∧
     (n1 ≠ 4294967295 →
      ∃ m, m < n ∧ Rn m k_Ro_fillTable 41 [(2, p), (0, l1), (0, i_add l2 1), (3, 0)] [] (fu (fu F1 (p + 2) (i_add (i_mul l1 20) l2) n1) (p + 3) n1 (i_add ((fu F1 (p + 2) (i_add (i_mul l1 20) l2) n1) (p + 3) n1) 1)) v F')) := by
  have t := q_ok cv_179 ap_179 (hd := [(2, [1, 1, 0, 0]), (28, [1, 1, 0, 0]), (41, [1, 1, 1, 0])]) h rfl rfl
  exact t
-- TurnNet$Routes.see(II)V
theorem c_Ro_see {p a1 a2 : Nat} {F : fx_F} {v : fx_V} {F' : fx_F} (h : Cl k_Ro_see [(2, p), (0, a1), (0, a2)] F v F') : ∃ n, Rn n k_Ro_see 0 [(2, p), (0, a1), (0, a2), (3, 0)] [] F v F' := by
  obtain ⟨n, s, hs, h⟩ := h
  rw [sg_180] at hs
  cases hs
  exact ⟨n, h⟩
set_option maxRecDepth 40000 in
theorem q_Ro_see_0 {n : Nat} {p a1 a2 : Nat} {F : fx_F} {v : fx_V} {F' : fx_F} (h : Rn n k_Ro_see 0 [(2, p), (0, a1), (0, a2), (3, 0)] [] F v F') :
  ((F p 3) = 0 →
   ∃ m, m < n ∧ Rn m k_Ro_see 36 [(2, p), (3, 0), (3, 0), (0, 0)] [] (fu (fu F p 1 a1) p 2 a2) v F') ∧
  ((F p 3) ≠ 0 →
   ((F p 1) ≠ a1 →
     ∃ m, m < n ∧ Rn m k_Ro_see 36 [(2, p), (3, 0), (3, 0), (0, 0)] [] (fu (fu F p 1 a1) p 2 a2) v F') ∧
    ((F p 1) = a1 →
     ((F p 2) ≠ a2 →
       ∃ m, m < n ∧ Rn m k_Ro_see 36 [(2, p), (3, 0), (3, 0), (0, 0)] [] (fu (fu F p 1 a1) p 2 a2) v F') ∧
      ((F p 2) = a2 →
       v = (2, 0) ∧ F' = F))) := by
  have t := q_ok cv_180 ap_180 (hd := [(36, [1, 0, 0, 1]), (77, [1, 0, 0, 1])]) h rfl rfl
  exact t
set_option maxRecDepth 40000 in
theorem q_Ro_see_36 {n : Nat} {p l3 : Nat} {F : fx_F} {v : fx_V} {F' : fx_F} (h : Rn n k_Ro_see 36 [(2, p), (3, 0), (3, 0), (0, l3)] [] F v F') :
  (s_le (i_mul 2 (F 3 1)) l3 →
   ∃ m, m < n ∧ Rn m k_Ro_see 77 [(2, p), (3, 0), (3, 0), (0, 0)] [] F v F') ∧
  (s_lt l3 (i_mul 2 (F 3 1)) →
   ((i_and (i_shr (F p 1) (i_shr l3 1)) 1) = (i_and l3 1) →
     ∃ m, m < n ∧ Rn m k_Ro_see 36 [(2, p), (3, 0), (3, 0), (0, i_add l3 1)] [] (fu F (p + 5) l3 1) v F') ∧
    ((i_and (i_shr (F p 1) (i_shr l3 1)) 1) ≠ (i_and l3 1) →
     ∃ m, m < n ∧ Rn m k_Ro_see 36 [(2, p), (3, 0), (3, 0), (0, i_add l3 1)] [] (fu F (p + 5) l3 0) v F')) := by
  have t := q_ok cv_180 ap_180 (hd := [(36, [1, 0, 0, 1]), (77, [1, 0, 0, 1])]) h rfl rfl
  exact t
set_option maxRecDepth 40000 in
theorem q_Ro_see_77 {n : Nat} {p l3 : Nat} {F : fx_F} {v : fx_V} {F' : fx_F} (h : Rn n k_Ro_see 77 [(2, p), (3, 0), (3, 0), (0, l3)] [] F v F') :
  (s_le (F 3 0) l3 →
   v = (2, 0) ∧ F' = (fu (fu F p 3 1) p 4 0)) ∧
  (s_lt l3 (F 3 0) →
   ∃ F1 : fx_F, Cl k_Ro_measure [(2, p), (0, l3)] F (2, 0) F1 ∧
    ∃ m, m < n ∧ Rn m k_Ro_see 77 [(2, p), (3, 0), (3, 0), (0, i_add l3 1)] [] F1 v F') := by
  have t := q_ok cv_180 ap_180 (hd := [(36, [1, 0, 0, 1]), (77, [1, 0, 0, 1])]) h rfl rfl
  exact t
-- TurnNet$Traffic.goStep(LTurnNet$State;LTurnNet$Routes;)V
theorem c_Tr_goStep {a1 a2 : Nat} {F : fx_F} {v : fx_V} {F' : fx_F} (h : Cl k_Tr_goStep [(2, 50), (2, a1), (2, a2)] F v F') : ∃ n, Rn n k_Tr_goStep 0 [(2, 50), (2, a1), (2, a2), (3, 0)] [] F v F' := by
  obtain ⟨n, s, hs, h⟩ := h
  rw [sg_181] at hs
  cases hs
  exact ⟨n, h⟩
set_option maxRecDepth 40000 in
theorem q_Tr_goStep_0 {n : Nat} {a1 a2 : Nat} {F : fx_F} {v : fx_V} {F' : fx_F} (h : Rn n k_Tr_goStep 0 [(2, 50), (2, a1), (2, a2), (3, 0)] [] F v F') :
  ∃ m, m < n ∧ Rn m k_Tr_goStep 2 [(2, 50), (2, a1), (2, a2), (0, 0)] [] F v F' := by
  have t := q_ok cv_181 ap_181 (hd := [(2, [1, 1, 1, 1])]) h rfl rfl
  exact t
set_option maxRecDepth 40000 in
theorem q_Tr_goStep_2 {n : Nat} {l1 l2 l3 : Nat} {F : fx_F} {v : fx_V} {F' : fx_F} (h : Rn n k_Tr_goStep 2 [(2, 50), (2, l1), (2, l2), (0, l3)] [] F v F') :
  (s_le 12 l3 →
   v = (2, 0) ∧ F' = (fu F l1 4 (i_add (F l1 4) 1))) ∧
  (s_lt l3 12 →
   (s_lt l3 0 →
     ∃ m, m < n ∧ Rn m k_Tr_goStep 2 [(2, 50), (2, l1), (2, l2), (0, i_add l3 1)] [] F v F') ∧
    (s_le 0 l3 →
     (s_le 12 l3 →
       ∃ m, m < n ∧ Rn m k_Tr_goStep 2 [(2, 50), (2, l1), (2, l2), (0, i_add l3 1)] [] F v F') ∧
      (s_lt l3 12 →
       ((F (l1 + 1) l3) = 4294967295 →
         ∃ m, m < n ∧ Rn m k_Tr_goStep 2 [(2, 50), (2, l1), (2, l2), (0, i_add l3 1)] [] F v F') ∧
        ((F (l1 + 1) l3) ≠ 4294967295 →
         ∃ F1 : fx_F, Cl k_Tr_goOn [(2, 50), (2, l1), (2, l2), (0, l3)] F (2, 0) F1 ∧
          ∃ m, m < n ∧ Rn m k_Tr_goStep 2 [(2, 50), (2, l1), (2, l2), (0, i_add l3 1)] [] F1 v F')))) := by
  have t := q_ok cv_181 ap_181 (hd := [(2, [1, 1, 1, 1])]) h rfl rfl
  exact t
-- TurnNet.apart(II)I
theorem c_T_apart {a1 a2 : Nat} {F : fx_F} {v : fx_V} {F' : fx_F} (h : Cl k_T_apart [(2, 2), (0, a1), (0, a2)] F v F') : ∃ n, Rn n k_T_apart 0 [(2, 2), (0, a1), (0, a2)] [] F v F' := by
  obtain ⟨n, s, hs, h⟩ := h
  rw [sg_183] at hs
  cases hs
  exact ⟨n, h⟩
set_option maxRecDepth 40000 in
theorem q_T_apart_0 {n : Nat} {a1 a2 : Nat} {F : fx_F} {v : fx_V} {F' : fx_F} (h : Rn n k_T_apart 0 [(2, 2), (0, a1), (0, a2)] [] F v F') :
  (s_lt a1 0 →
   v = (0, 4294967295) ∧ F' = F) ∧
  (s_le 0 a1 →
   (s_le (F 3 0) a1 →
     v = (0, 4294967295) ∧ F' = F) ∧
    (s_lt a1 (F 3 0) →
     (s_lt a2 0 →
       v = (0, 4294967295) ∧ F' = F) ∧
      (s_le 0 a2 →
       (s_le (F 3 0) a2 →
         v = (0, 4294967295) ∧ F' = F) ∧
        (s_lt a2 (F 3 0) →
         (a1 ≠ a2 →
           ∃ (n1 : Nat) (F1 : fx_F), Cl k_Gr_countApart [(2, 40), (0, a1), (0, a2), (0, F (F 2 13) 2)] F (0, n1) F1 ∧
            v = (0, n1) ∧ F' = F1) ∧
          (a1 = a2 →
           v = (0, 4294967295) ∧ F' = F))))) := by
  have t := q_ok cv_183 ap_183 (hd := []) h rfl rfl
  exact t
-- TurnNet.cut(I)I
theorem c_T_cut {a1 : Nat} {F : fx_F} {v : fx_V} {F' : fx_F} (h : Cl k_T_cut [(2, 2), (0, a1)] F v F') : ∃ n, Rn n k_T_cut 0 [(2, 2), (0, a1)] [] F v F' := by
  obtain ⟨n, s, hs, h⟩ := h
  rw [sg_184] at hs
  cases hs
  exact ⟨n, h⟩
set_option maxRecDepth 40000 in
theorem q_T_cut_0 {n : Nat} {a1 : Nat} {F : fx_F} {v : fx_V} {F' : fx_F} (h : Rn n k_T_cut 0 [(2, 2), (0, a1)] [] F v F') :
  (s_lt a1 0 →
   v = (0, 4294967295) ∧ F' = F) ∧
  (s_le 0 a1 →
   (s_le (F 3 1) a1 →
     v = (0, 4294967295) ∧ F' = F) ∧
    (s_lt a1 (F 3 1) →
     ((i_and (i_shr (F (F 2 13) 2) a1) 1) ≠ 1 →
       v = (0, 4294967295) ∧ F' = F) ∧
      ((i_and (i_shr (F (F 2 13) 2) a1) 1) = 1 →
       ∃ F1 : fx_F, Cl k_Hi_keep [(2, 51), (2, F 2 13)] F (2, 0) F1 ∧
        ∃ (n2 : Nat) (F2 : fx_F), Cl k_I_bitCount [(0, (fu F1 (F1 2 13) 2 (i_and (F1 (F1 2 13) 2) (i_xor (i_shl 1 a1) 4294967295))) ((fu F1 (F1 2 13) 2 (i_and (F1 (F1 2 13) 2) (i_xor (i_shl 1 a1) 4294967295))) 2 13) 2)] (fu F1 (F1 2 13) 2 (i_and (F1 (F1 2 13) 2) (i_xor (i_shl 1 a1) 4294967295))) (0, n2) F2 ∧
         v = (0, n2) ∧ F' = F2))) := by
  have t := q_ok cv_184 ap_184 (hd := []) h rfl rfl
  exact t
-- TurnNet.depends(II)I
theorem c_T_depends {a1 a2 : Nat} {F : fx_F} {v : fx_V} {F' : fx_F} (h : Cl k_T_depends [(2, 2), (0, a1), (0, a2)] F v F') : ∃ n, Rn n k_T_depends 0 [(2, 2), (0, a1), (0, a2)] [] F v F' := by
  obtain ⟨n, s, hs, h⟩ := h
  rw [sg_185] at hs
  cases hs
  exact ⟨n, h⟩
set_option maxRecDepth 40000 in
theorem q_T_depends_0 {n : Nat} {a1 a2 : Nat} {F : fx_F} {v : fx_V} {F' : fx_F} (h : Rn n k_T_depends 0 [(2, 2), (0, a1), (0, a2)] [] F v F') :
  (s_lt a1 0 →
   v = (0, 4294967295) ∧ F' = F) ∧
  (s_le 0 a1 →
   (s_le (i_mul 2 (F 3 1)) a1 →
     v = (0, 4294967295) ∧ F' = F) ∧
    (s_lt a1 (i_mul 2 (F 3 1)) →
     (s_lt a2 0 →
       v = (0, 4294967295) ∧ F' = F) ∧
      (s_le 0 a2 →
       (s_le (i_mul 2 (F 3 1)) a2 →
         v = (0, 4294967295) ∧ F' = F) ∧
        (s_lt a2 (i_mul 2 (F 3 1)) →
         ∃ F1 : fx_F, Cl k_Tu_take [(2, 45), (0, F (F 2 13) 1), (0, F (F 2 13) 1), (0, F (F 2 13) 2)] F (2, 0) F1 ∧
          ((rx_f_lcmp (rx_j_and (rx_j_shr (F1 47 a1) a2) 1) 1) ≠ 0 →
            v = (0, 0) ∧ F' = F1) ∧
           ((rx_f_lcmp (rx_j_and (rx_j_shr (F1 47 a1) a2) 1) 1) = 0 →
            v = (0, 1) ∧ F' = F1))))) := by
  have t := q_ok cv_185 ap_185 (hd := []) h rfl rfl
  exact t
-- TurnNet.mend(I)I
theorem c_T_mend {a1 : Nat} {F : fx_F} {v : fx_V} {F' : fx_F} (h : Cl k_T_mend [(2, 2), (0, a1)] F v F') : ∃ n, Rn n k_T_mend 0 [(2, 2), (0, a1)] [] F v F' := by
  obtain ⟨n, s, hs, h⟩ := h
  rw [sg_186] at hs
  cases hs
  exact ⟨n, h⟩
set_option maxRecDepth 40000 in
theorem q_T_mend_0 {n : Nat} {a1 : Nat} {F : fx_F} {v : fx_V} {F' : fx_F} (h : Rn n k_T_mend 0 [(2, 2), (0, a1)] [] F v F') :
  (s_lt a1 0 →
   v = (0, 4294967295) ∧ F' = F) ∧
  (s_le 0 a1 →
   (s_le (F 3 1) a1 →
     v = (0, 4294967295) ∧ F' = F) ∧
    (s_lt a1 (F 3 1) →
     ((i_and (i_shr (F (F 2 13) 2) a1) 1) ≠ 1 →
       ∃ F1 : fx_F, Cl k_Hi_keep [(2, 51), (2, F 2 13)] F (2, 0) F1 ∧
        ∃ (n2 : Nat) (F2 : fx_F), Cl k_I_bitCount [(0, (fu F1 (F1 2 13) 2 (i_or (F1 (F1 2 13) 2) (i_shl 1 a1))) ((fu F1 (F1 2 13) 2 (i_or (F1 (F1 2 13) 2) (i_shl 1 a1))) 2 13) 2)] (fu F1 (F1 2 13) 2 (i_or (F1 (F1 2 13) 2) (i_shl 1 a1))) (0, n2) F2 ∧
         v = (0, n2) ∧ F' = F2) ∧
      ((i_and (i_shr (F (F 2 13) 2) a1) 1) = 1 →
       v = (0, 4294967295) ∧ F' = F))) := by
  have t := q_ok cv_186 ap_186 (hd := []) h rfl rfl
  exact t
-- TurnNet.node(II)I
theorem c_T_node {a1 a2 : Nat} {F : fx_F} {v : fx_V} {F' : fx_F} (h : Cl k_T_node [(2, 2), (0, a1), (0, a2)] F v F') : ∃ n, Rn n k_T_node 0 [(2, 2), (0, a1), (0, a2)] [] F v F' := by
  obtain ⟨n, s, hs, h⟩ := h
  rw [sg_187] at hs
  cases hs
  exact ⟨n, h⟩
set_option maxRecDepth 40000 in
theorem q_T_node_0 {n : Nat} {a1 a2 : Nat} {F : fx_F} {v : fx_V} {F' : fx_F} (h : Rn n k_T_node 0 [(2, 2), (0, a1), (0, a2)] [] F v F') :
  (s_lt a1 0 →
   v = (0, 4294967294) ∧ F' = F) ∧
  (s_le 0 a1 →
   (s_le (F 3 0) a1 →
     v = (0, 4294967294) ∧ F' = F) ∧
    (s_lt a1 (F 3 0) →
     ∃ F1 : fx_F, Cl k_Or_rate [(2, 19), (0, F (F 2 13) 0), (0, F (F 2 13) 2)] F (2, 0) F1 ∧
      ((a2 < 0 ∨ 5 ≤ a2) →
        v = (0, 4294967294) ∧ F' = F1) ∧
       ((a2 = 0 →
        v = (0, F1 20 a1) ∧ F' = F1) ∧
       ((a2 = 1 →
        v = (0, F1 22 a1) ∧ F' = F1) ∧
       ((a2 = 2 →
        v = (0, F1 21 a1) ∧ F' = F1) ∧
       ((a2 = 3 →
        ∃ (n2 : Nat) (F2 : fx_F), Cl k_Or_countAbove [(2, 19), (0, a1)] F1 (0, n2) F2 ∧
         v = (0, n2) ∧ F' = F2) ∧
       ((a2 = 4 →
        ∃ (n2 : Nat) (F2 : fx_F), Cl k_St_countAt [(2, F1 2 13), (0, a1)] F1 (0, n2) F2 ∧
         v = (0, n2) ∧ F' = F2) ∧ True))))))) := by
  have t := q_ok cv_187 ap_187 (hd := []) h rfl rfl
  exact t
-- TurnNet.plain(II)I
theorem c_T_plain {a1 a2 : Nat} {F : fx_F} {v : fx_V} {F' : fx_F} (h : Cl k_T_plain [(2, 2), (0, a1), (0, a2)] F v F') : ∃ n, Rn n k_T_plain 0 [(2, 2), (0, a1), (0, a2)] [] F v F' := by
  obtain ⟨n, s, hs, h⟩ := h
  rw [sg_188] at hs
  cases hs
  exact ⟨n, h⟩
set_option maxRecDepth 40000 in
theorem q_T_plain_0 {n : Nat} {a1 a2 : Nat} {F : fx_F} {v : fx_V} {F' : fx_F} (h : Rn n k_T_plain 0 [(2, 2), (0, a1), (0, a2)] [] F v F') :
  (s_lt a1 0 →
   v = (0, 4294967295) ∧ F' = F) ∧
  (s_le 0 a1 →
   (s_le (F 3 0) a1 →
     v = (0, 4294967295) ∧ F' = F) ∧
    (s_lt a1 (F 3 0) →
     (s_lt a2 0 →
       v = (0, 4294967295) ∧ F' = F) ∧
      (s_le 0 a2 →
       (s_le (F 3 0) a2 →
         v = (0, 4294967295) ∧ F' = F) ∧
        (s_lt a2 (F 3 0) →
         ∃ F1 : fx_F, Cl k_Gr_see [(2, 40), (0, F (F 2 13) 2)] F (2, 0) F1 ∧
          v = (0, F1 41 (i_add (i_mul a1 10) a2)) ∧ F' = F1)))) := by
  have t := q_ok cv_188 ap_188 (hd := []) h rfl rfl
  exact t
-- TurnNet.ring(I)I
theorem c_T_ring {a1 : Nat} {F : fx_F} {v : fx_V} {F' : fx_F} (h : Cl k_T_ring [(2, 2), (0, a1)] F v F') : ∃ n, Rn n k_T_ring 0 [(2, 2), (0, a1)] [] F v F' := by
  obtain ⟨n, s, hs, h⟩ := h
  rw [sg_189] at hs
  cases hs
  exact ⟨n, h⟩
set_option maxRecDepth 40000 in
theorem q_T_ring_0 {n : Nat} {a1 : Nat} {F : fx_F} {v : fx_V} {F' : fx_F} (h : Rn n k_T_ring 0 [(2, 2), (0, a1)] [] F v F') :
  (s_lt a1 0 →
   v = (0, 4294967295) ∧ F' = F) ∧
  (s_le 0 a1 →
   (s_le (i_mul 2 (F 3 1)) a1 →
     v = (0, 4294967295) ∧ F' = F) ∧
    (s_lt a1 (i_mul 2 (F 3 1)) →
     ∃ F1 : fx_F, Cl k_Tu_take [(2, 45), (0, F (F 2 13) 1), (0, F (F 2 13) 1), (0, F (F 2 13) 2)] F (2, 0) F1 ∧
      ∃ (n2 : Nat) (F2 : fx_F), Cl k_Tu_shortestRing [(2, 45), (0, a1)] F1 (0, n2) F2 ∧
       v = (0, n2) ∧ F' = F2)) := by
  have t := q_ok cv_189 ap_189 (hd := []) h rfl rfl
  exact t
-- TurnNet.rings()I
theorem c_T_rings {F : fx_F} {v : fx_V} {F' : fx_F} (h : Cl k_T_rings [(2, 2)] F v F') : ∃ n, Rn n k_T_rings 0 [(2, 2), (3, 0), (3, 0)] [] F v F' := by
  obtain ⟨n, s, hs, h⟩ := h
  rw [sg_190] at hs
  cases hs
  exact ⟨n, h⟩
set_option maxRecDepth 40000 in
theorem q_T_rings_0 {n : Nat} {F : fx_F} {v : fx_V} {F' : fx_F} (h : Rn n k_T_rings 0 [(2, 2), (3, 0), (3, 0)] [] F v F') :
  ∃ F1 : fx_F, Cl k_Tu_take [(2, 45), (0, F (F 2 13) 1), (0, F (F 2 13) 1), (0, F (F 2 13) 2)] F (2, 0) F1 ∧
  ∃ m, m < n ∧ Rn m k_T_rings 32 [(2, 2), (0, 0), (0, 0)] [] F1 v F' := by
  have t := q_ok cv_190 ap_190 (hd := [(32, [1, 1, 1])]) h rfl rfl
  exact t
set_option maxRecDepth 40000 in
theorem q_T_rings_32 {n : Nat} {l1 l2 : Nat} {F : fx_F} {v : fx_V} {F' : fx_F} (h : Rn n k_T_rings 32 [(2, 2), (0, l1), (0, l2)] [] F v F') :
  (s_le (i_mul 2 (F 3 1)) l2 →
   v = (0, l1) ∧ F' = F) ∧
  (s_lt l2 (i_mul 2 (F 3 1)) →
   ∃ (n1 : Nat) (F1 : fx_F), Cl k_Tu_shortestRing [(2, 45), (0, l2)] F (0, n1) F1 ∧
    (n1 = 4294967295 →
      ∃ m, m < n ∧ Rn m k_T_rings 32 [(2, 2), (0, l1), (0, i_add l2 1)] [] F1 v F') ∧
     (n1 ≠ 4294967295 →
      ∃ m, m < n ∧ Rn m k_T_rings 32 [(2, 2), (0, i_add l1 1), (0, i_add l2 1)] [] F1 v F')) := by
  have t := q_ok cv_190 ap_190 (hd := [(32, [1, 1, 1])]) h rfl rfl
  exact t
-- TurnNet.send(II)I
theorem c_T_send {a1 a2 : Nat} {F : fx_F} {v : fx_V} {F' : fx_F} (h : Cl k_T_send [(2, 2), (0, a1), (0, a2)] F v F') : ∃ n, Rn n k_T_send 0 [(2, 2), (0, a1), (0, a2)] [] F v F' := by
  obtain ⟨n, s, hs, h⟩ := h
  rw [sg_191] at hs
  cases hs
  exact ⟨n, h⟩
set_option maxRecDepth 40000 in
theorem q_T_send_0 {n : Nat} {a1 a2 : Nat} {F : fx_F} {v : fx_V} {F' : fx_F} (h : Rn n k_T_send 0 [(2, 2), (0, a1), (0, a2)] [] F v F') :
  (s_lt a1 0 →
   v = (0, 4294967295) ∧ F' = F) ∧
  (s_le 0 a1 →
   (s_le (F 3 0) a1 →
     v = (0, 4294967295) ∧ F' = F) ∧
    (s_lt a1 (F 3 0) →
     (s_lt a2 0 →
       v = (0, 4294967295) ∧ F' = F) ∧
      (s_le 0 a2 →
       (s_le (F 3 0) a2 →
         v = (0, 4294967295) ∧ F' = F) ∧
        (s_lt a2 (F 3 0) →
         (a1 = a2 →
           v = (0, 4294967295) ∧ F' = F) ∧
          (a1 ≠ a2 →
           ∃ (n1 : Nat) (F1 : fx_F), Cl k_St_freePacket [(2, F 2 13)] F (0, n1) F1 ∧
            (n1 ≠ 4294967295 →
              ∃ F2 : fx_F, Cl k_Hi_keep [(2, 51), (2, F1 2 13)] F1 (2, 0) F2 ∧
               ∃ (n3 : Nat) (F3 : fx_F), Cl k_St_freePacket [(2, F2 2 13)] F2 (0, n3) F3 ∧
                (n3 = 4294967295 →
                  v = (0, n3) ∧ F' = F3) ∧
                 (n3 ≠ 4294967295 →
                  v = (0, n3) ∧ F' = (fu (fu (fu (fu F3 ((F2 2 13) + 1) n3 a1) ((F2 2 13) + 2) n3 a2) ((F2 2 13) + 3) n3 4294967295) ((F2 2 13) + 4) n3 0))) ∧
             (n1 = 4294967295 →
              v = (0, 4294967295) ∧ F' = F1)))))) := by
  have t := q_ok cv_191 ap_191 (hd := []) h rfl rfl
  exact t
-- TurnNet.turn(I)I
theorem c_T_turn {a1 : Nat} {F : fx_F} {v : fx_V} {F' : fx_F} (h : Cl k_T_turn [(2, 2), (0, a1)] F v F') : ∃ n, Rn n k_T_turn 0 [(2, 2), (0, a1)] [] F v F' := by
  obtain ⟨n, s, hs, h⟩ := h
  rw [sg_192] at hs
  cases hs
  exact ⟨n, h⟩
set_option maxRecDepth 40000 in
theorem q_T_turn_0 {n : Nat} {a1 : Nat} {F : fx_F} {v : fx_V} {F' : fx_F} (h : Rn n k_T_turn 0 [(2, 2), (0, a1)] [] F v F') :
  (s_lt a1 0 →
   v = (0, 4294967295) ∧ F' = F) ∧
  (s_le 0 a1 →
   (s_le (F 3 1) a1 →
     v = (0, 4294967295) ∧ F' = F) ∧
    (s_lt a1 (F 3 1) →
     ∃ F1 : fx_F, Cl k_Hi_keep [(2, 51), (2, F 2 13)] F (2, 0) F1 ∧
      ((i_and (i_shr ((fu F1 (F1 2 13) 1 (i_xor (F1 (F1 2 13) 1) (i_shl 1 a1))) ((fu F1 (F1 2 13) 1 (i_xor (F1 (F1 2 13) 1) (i_shl 1 a1))) 2 13) 1) a1) 1) ≠ 1 →
        v = (0, (fu F1 (F1 2 13) 1 (i_xor (F1 (F1 2 13) 1) (i_shl 1 a1))) 4 (i_mul 2 a1)) ∧ F' = (fu F1 (F1 2 13) 1 (i_xor (F1 (F1 2 13) 1) (i_shl 1 a1)))) ∧
       ((i_and (i_shr ((fu F1 (F1 2 13) 1 (i_xor (F1 (F1 2 13) 1) (i_shl 1 a1))) ((fu F1 (F1 2 13) 1 (i_xor (F1 (F1 2 13) 1) (i_shl 1 a1))) 2 13) 1) a1) 1) = 1 →
        v = (0, (fu F1 (F1 2 13) 1 (i_xor (F1 (F1 2 13) 1) (i_shl 1 a1))) 5 (i_mul 2 a1)) ∧ F' = (fu F1 (F1 2 13) 1 (i_xor (F1 (F1 2 13) 1) (i_shl 1 a1)))))) := by
  have t := q_ok cv_192 ap_192 (hd := []) h rfl rfl
  exact t
-- TurnNet.upEndsBy(I)I
theorem c_T_upEndsBy {a1 : Nat} {F : fx_F} {v : fx_V} {F' : fx_F} (h : Cl k_T_upEndsBy [(2, 2), (0, a1)] F v F') : ∃ n, Rn n k_T_upEndsBy 0 [(2, 2), (0, a1)] [] F v F' := by
  obtain ⟨n, s, hs, h⟩ := h
  rw [sg_193] at hs
  cases hs
  exact ⟨n, h⟩
set_option maxRecDepth 40000 in
theorem q_T_upEndsBy_0 {n : Nat} {a1 : Nat} {F : fx_F} {v : fx_V} {F' : fx_F} (h : Rn n k_T_upEndsBy 0 [(2, 2), (0, a1)] [] F v F') :
  ∃ F1 : fx_F, Cl k_Or_rate [(2, 19), (0, a1), (0, F (F 2 13) 2)] F (2, 0) F1 ∧
  ∃ (n2 : Nat) (F2 : fx_F), Cl k_Or_upEnds [(2, 19)] F1 (0, n2) F2 ∧
   v = (0, n2) ∧ F' = F2 := by
  have t := q_ok cv_193 ap_193 (hd := []) h rfl rfl
  exact t
-- TurnNetModel.cut(I)I
theorem c_M_cut {a1 : Nat} {F : fx_F} {v : fx_V} {F' : fx_F} (h : Cl k_M_cut [(2, 175), (0, a1)] F v F') : ∃ n, Rn n k_M_cut 0 [(2, 175), (0, a1)] [] F v F' := by
  obtain ⟨n, s, hs, h⟩ := h
  rw [sg_195] at hs
  cases hs
  exact ⟨n, h⟩
set_option maxRecDepth 40000 in
theorem q_M_cut_0 {n : Nat} {a1 : Nat} {F : fx_F} {v : fx_V} {F' : fx_F} (h : Rn n k_M_cut 0 [(2, 175), (0, a1)] [] F v F') :
  (s_lt a1 0 →
   v = (0, 4294967295) ∧ F' = F) ∧
  (s_le 0 a1 →
   (s_lt (i_sub (F 178 (F 175 9)) 1) a1 →
     v = (0, 4294967295) ∧ F' = F) ∧
    (s_le a1 (i_sub (F 178 (F 175 9)) 1) →
     ((F 176 (i_add 0 a1)) ≠ 1 →
       v = (0, 4294967295) ∧ F' = F) ∧
      ((F 176 (i_add 0 a1)) = 1 →
       ∃ F1 : fx_F, Cl k_M_keepAct [(2, 175)] F (2, 0) F1 ∧
        ∃ (n2 : Nat) (F2 : fx_F), Cl k_M_standing [(2, 175)] (fu F1 176 (i_add 0 a1) 0) (0, n2) F2 ∧
         v = (0, n2) ∧ F' = F2))) := by
  have t := q_ok cv_195 ap_195 (hd := []) h rfl rfl
  exact t
-- TurnNetModel.hasRing()Z
theorem c_M_hasRing {F : fx_F} {v : fx_V} {F' : fx_F} (h : Cl k_M_hasRing [(2, 175)] F v F') : ∃ n, Rn n k_M_hasRing 0 [(2, 175), (3, 0)] [] F v F' := by
  obtain ⟨n, s, hs, h⟩ := h
  rw [sg_196] at hs
  cases hs
  exact ⟨n, h⟩
set_option maxRecDepth 40000 in
theorem q_M_hasRing_0 {n : Nat} {F : fx_F} {v : fx_V} {F' : fx_F} (h : Rn n k_M_hasRing 0 [(2, 175), (3, 0)] [] F v F') :
  ∃ m, m < n ∧ Rn m k_M_hasRing 2 [(2, 175), (0, 0)] [] F v F' := by
  have t := q_ok cv_196 ap_196 (hd := [(2, [1, 1])]) h rfl rfl
  exact t
set_option maxRecDepth 40000 in
theorem q_M_hasRing_2 {n : Nat} {l1 : Nat} {F : fx_F} {v : fx_V} {F' : fx_F} (h : Rn n k_M_hasRing 2 [(2, 175), (0, l1)] [] F v F') :
  (s_le (i_mul 2 (F 178 (F 175 9))) l1 →
   v = (0, 0) ∧ F' = F) ∧
  (s_lt l1 (i_mul 2 (F 178 (F 175 9))) →
   ∃ (n1 : Nat) (F1 : fx_F), Cl k_M_roundOf [(2, 175), (0, l1)] F (0, n1) F1 ∧
    (s_le n1 0 →
      ∃ m, m < n ∧ Rn m k_M_hasRing 2 [(2, 175), (0, i_add l1 1)] [] F1 v F') ∧
     (s_lt 0 n1 →
      v = (0, 1) ∧ F' = F1)) := by
  have t := q_ok cv_196 ap_196 (hd := [(2, [1, 1])]) h rfl rfl
  exact t
-- TurnNetModel.isUpBy(II)Z
theorem c_M_isUpBy {a1 a2 : Nat} {F : fx_F} {v : fx_V} {F' : fx_F} (h : Cl k_M_isUpBy [(2, 175), (0, a1), (0, a2)] F v F') : ∃ n, Rn n k_M_isUpBy 0 [(2, 175), (0, a1), (0, a2)] [] F v F' := by
  obtain ⟨n, s, hs, h⟩ := h
  rw [sg_197] at hs
  cases hs
  exact ⟨n, h⟩
set_option maxRecDepth 40000 in
theorem q_M_isUpBy_0 {n : Nat} {a1 a2 : Nat} {F : fx_F} {v : fx_V} {F' : fx_F} (h : Rn n k_M_isUpBy 0 [(2, 175), (0, a1), (0, a2)] [] F v F') :
  ((F 183 (i_add (i_add (i_mul 40 (F 175 9)) (i_mul 2 (i_div a1 2))) (i_sub 1 (i_rem a1 2)))) ≠ a2 →
   v = (0, 0) ∧ F' = F) ∧
  ((F 183 (i_add (i_add (i_mul 40 (F 175 9)) (i_mul 2 (i_div a1 2))) (i_sub 1 (i_rem a1 2)))) = a2 →
   v = (0, 1) ∧ F' = F) := by
  have t := q_ok cv_197 ap_197 (hd := []) h rfl rfl
  exact t
-- TurnNetModel.oneMore(II)Z
theorem c_M_oneMore {a1 a2 : Nat} {F : fx_F} {v : fx_V} {F' : fx_F} (h : Cl k_M_oneMore [(2, 175), (0, a1), (0, a2)] F v F') : ∃ n, Rn n k_M_oneMore 0 [(2, 175), (0, a1), (0, a2), (3, 0), (3, 0), (3, 0)] [] F v F' := by
  obtain ⟨n, s, hs, h⟩ := h
  rw [sg_200] at hs
  cases hs
  exact ⟨n, h⟩
set_option maxRecDepth 40000 in
theorem q_M_oneMore_0 {n : Nat} {a1 a2 : Nat} {F : fx_F} {v : fx_V} {F' : fx_F} (h : Rn n k_M_oneMore 0 [(2, 175), (0, a1), (0, a2), (3, 0), (3, 0), (3, 0)] [] F v F') :
  ∃ m, m < n ∧ Rn m k_M_oneMore 2 [(2, 175), (0, a1), (0, a2), (0, 0), (3, 0), (3, 0)] [] F v F' := by
  have t := q_ok cv_200 ap_200 (hd := [(2, [1, 1, 1, 1, 0, 0]), (33, [1, 1, 1, 1, 0, 0]), (51, [1, 1, 1, 1, 1, 0]), (158, [1, 1, 0, 0, 1, 0])]) h rfl rfl
  exact t
set_option maxRecDepth 40000 in
theorem q_M_oneMore_2 {n : Nat} {l1 l2 l3 : Nat} {F : fx_F} {v : fx_V} {F' : fx_F} (h : Rn n k_M_oneMore 2 [(2, 175), (0, l1), (0, l2), (0, l3), (3, 0), (3, 0)] [] F v F') :
  (s_le 10 l3 →
   ∃ m, m < n ∧ Rn m k_M_oneMore 33 [(2, 175), (0, l1), (0, l2), (0, 1), (3, 0), (3, 0)] [] F v F') ∧
  (s_lt l3 10 →
   (l3 ≠ l1 →
     ∃ m, m < n ∧ Rn m k_M_oneMore 2 [(2, 175), (0, l1), (0, l2), (0, i_add l3 1), (3, 0), (3, 0)] [] (fu F 201 l3 4294967295) v F') ∧
    (l3 = l1 →
     ∃ m, m < n ∧ Rn m k_M_oneMore 2 [(2, 175), (0, l1), (0, l2), (0, i_add l3 1), (3, 0), (3, 0)] [] (fu F 201 l3 40) v F')) := by
  have t := q_ok cv_200 ap_200 (hd := [(2, [1, 1, 1, 1, 0, 0]), (33, [1, 1, 1, 1, 0, 0]), (51, [1, 1, 1, 1, 1, 0]), (158, [1, 1, 0, 0, 1, 0])]) h rfl rfl
  exact t
set_option maxRecDepth 40000 in
theorem q_M_oneMore_33 {n : Nat} {l1 l2 l3 : Nat} {F : fx_F} {v : fx_V} {F' : fx_F} (h : Rn n k_M_oneMore 33 [(2, 175), (0, l1), (0, l2), (0, l3), (3, 0), (3, 0)] [] F v F') :
  (l3 = 0 →
   (s_le 0 (F 201 l2) →
     ∃ m, m < n ∧ Rn m k_M_oneMore 158 [(2, 175), (0, l1), (3, 0), (3, 0), (0, l2), (3, 0)] [] F v F') ∧
    (s_lt (F 201 l2) 0 →
     v = (0, 0) ∧ F' = F)) ∧
  (l3 ≠ 0 →
   (s_le 0 (F 201 l2) →
     (s_le 0 (F 201 l2) →
       ∃ m, m < n ∧ Rn m k_M_oneMore 158 [(2, 175), (0, l1), (3, 0), (3, 0), (0, l2), (3, 0)] [] F v F') ∧
      (s_lt (F 201 l2) 0 →
       v = (0, 0) ∧ F' = F)) ∧
    (s_lt (F 201 l2) 0 →
     ∃ m, m < n ∧ Rn m k_M_oneMore 51 [(2, 175), (0, l1), (0, l2), (0, 0), (0, 0), (3, 0)] [] F v F')) := by
  have t := q_ok cv_200 ap_200 (hd := [(2, [1, 1, 1, 1, 0, 0]), (33, [1, 1, 1, 1, 0, 0]), (51, [1, 1, 1, 1, 1, 0]), (158, [1, 1, 0, 0, 1, 0])]) h rfl rfl
  exact t
set_option maxRecDepth 40000 in
theorem q_M_oneMore_158 {n : Nat} {l1 l4 : Nat} {F : fx_F} {v : fx_V} {F' : fx_F} (h : Rn n k_M_oneMore 158 [(2, 175), (0, l1), (3, 0), (3, 0), (0, l4), (3, 0)] [] F v F') :
  (l4 = l1 →
   v = (0, 1) ∧ F' = F) ∧
  (l4 ≠ l1 →
   ((F 200 (i_div (F 201 l4) 2)) ≠ 0 →
     ∃ m, m < n ∧ Rn m k_M_oneMore 158 [(2, 175), (0, l1), (3, 0), (3, 0), (0, F 183 (i_add (i_add (i_mul 40 (F 175 9)) (i_mul 2 (i_div (F 201 l4) 2))) (i_rem (F 201 l4) 2))), (3, 0)] [] (fu F 200 (i_div (F 201 l4) 2) 0) v F') ∧
    ((F 200 (i_div (F 201 l4) 2)) = 0 →
     ∃ m, m < n ∧ Rn m k_M_oneMore 158 [(2, 175), (0, l1), (3, 0), (3, 0), (0, F 183 (i_add (i_add (i_mul 40 (F 175 9)) (i_mul 2 (i_div (F 201 l4) 2))) (i_rem (F 201 l4) 2))), (3, 0)] [] (fu F 200 (i_div (F 201 l4) 2) (i_add 1 (i_rem (F 201 l4) 2))) v F')) := by
  have t := q_ok cv_200 ap_200 (hd := [(2, [1, 1, 1, 1, 0, 0]), (33, [1, 1, 1, 1, 0, 0]), (51, [1, 1, 1, 1, 1, 0]), (158, [1, 1, 0, 0, 1, 0])]) h rfl rfl
  exact t
set_option maxRecDepth 40000 in
theorem q_M_oneMore_51 {n : Nat} {l1 l2 l3 l4 : Nat} {F : fx_F} {v : fx_V} {F' : fx_F} (h : Rn n k_M_oneMore 51 [(2, 175), (0, l1), (0, l2), (0, l3), (0, l4), (3, 0)] [] F v F') :
  (s_le (i_mul 2 (F 178 (F 175 9))) l4 →
   ∃ m, m < n ∧ Rn m k_M_oneMore 33 [(2, 175), (0, l1), (0, l2), (0, l3), (3, 0), (3, 0)] [] F v F') ∧
  (s_lt l4 (i_mul 2 (F 178 (F 175 9))) →
   ((F 176 (i_add 0 (i_div l4 2))) ≠ 1 →
     ∃ m, m < n ∧ Rn m k_M_oneMore 51 [(2, 175), (0, l1), (0, l2), (0, l3), (0, i_add l4 1), (3, 0)] [] F v F') ∧
    ((F 176 (i_add 0 (i_div l4 2))) = 1 →
     (s_lt (F 201 (F 183 (i_add (i_add (i_mul 40 (F 175 9)) (i_mul 2 (i_div l4 2))) (i_rem l4 2)))) 0 →
       ∃ m, m < n ∧ Rn m k_M_oneMore 51 [(2, 175), (0, l1), (0, l2), (0, l3), (0, i_add l4 1), (3, 0)] [] F v F') ∧
      (s_le 0 (F 201 (F 183 (i_add (i_add (i_mul 40 (F 175 9)) (i_mul 2 (i_div l4 2))) (i_rem l4 2)))) →
       (s_le 0 (F 201 (F 183 (i_add (i_add (i_mul 40 (F 175 9)) (i_mul 2 (i_div l4 2))) (i_sub 1 (i_rem l4 2))))) →
         ∃ m, m < n ∧ Rn m k_M_oneMore 51 [(2, 175), (0, l1), (0, l2), (0, l3), (0, i_add l4 1), (3, 0)] [] F v F') ∧
        (s_lt (F 201 (F 183 (i_add (i_add (i_mul 40 (F 175 9)) (i_mul 2 (i_div l4 2))) (i_sub 1 (i_rem l4 2))))) 0 →
         ((F 200 (i_div l4 2)) ≠ (i_add 1 (i_rem l4 2)) →
           ∃ m, m < n ∧ Rn m k_M_oneMore 51 [(2, 175), (0, l1), (0, l2), (0, 1), (0, i_add l4 1), (3, 0)] [] (fu F 201 (F 183 (i_add (i_add (i_mul 40 (F 175 9)) (i_mul 2 (i_div l4 2))) (i_sub 1 (i_rem l4 2)))) l4) v F') ∧
          ((F 200 (i_div l4 2)) = (i_add 1 (i_rem l4 2)) →
           ∃ m, m < n ∧ Rn m k_M_oneMore 51 [(2, 175), (0, l1), (0, l2), (0, l3), (0, i_add l4 1), (3, 0)] [] F v F'))))) := by
  have t := q_ok cv_200 ap_200 (hd := [(2, [1, 1, 1, 1, 0, 0]), (33, [1, 1, 1, 1, 0, 0]), (51, [1, 1, 1, 1, 1, 0]), (158, [1, 1, 0, 0, 1, 0])]) h rfl rfl
  exact t
-- TurnNetModel.pairsOf(I)I
theorem c_M_pairsOf {a1 : Nat} {F : fx_F} {v : fx_V} {F' : fx_F} (h : Cl k_M_pairsOf [(2, 175), (0, a1)] F v F') : ∃ n, Rn n k_M_pairsOf 0 [(2, 175), (0, a1), (3, 0), (3, 0)] [] F v F' := by
  obtain ⟨n, s, hs, h⟩ := h
  rw [sg_201] at hs
  cases hs
  exact ⟨n, h⟩
set_option maxRecDepth 40000 in
theorem q_M_pairsOf_0 {n : Nat} {a1 : Nat} {F : fx_F} {v : fx_V} {F' : fx_F} (h : Rn n k_M_pairsOf 0 [(2, 175), (0, a1), (3, 0), (3, 0)] [] F v F') :
  ∃ F1 : fx_F, Cl k_M_layFar [(2, 175), (0, a1), (0, 4294967295)] F (2, 0) F1 ∧
  ∃ m, m < n ∧ Rn m k_M_pairsOf 10 [(2, 175), (0, a1), (0, 0), (0, 0)] [] F1 v F' := by
  have t := q_ok cv_201 ap_201 (hd := [(10, [1, 1, 1, 1])]) h rfl rfl
  exact t
set_option maxRecDepth 40000 in
theorem q_M_pairsOf_10 {n : Nat} {l1 l2 l3 : Nat} {F : fx_F} {v : fx_V} {F' : fx_F} (h : Rn n k_M_pairsOf 10 [(2, 175), (0, l1), (0, l2), (0, l3)] [] F v F') :
  (s_le (F 177 (F 175 9)) l3 →
   v = (0, l2) ∧ F' = F) ∧
  (s_lt l3 (F 177 (F 175 9)) →
   (l3 = l1 →
     ∃ m, m < n ∧ Rn m k_M_pairsOf 10 [(2, 175), (0, l1), (0, i_add l2 0), (0, i_add l3 1)] [] F v F') ∧
    (l3 ≠ l1 →
     (s_le 10 (F 188 l3) →
       ∃ m, m < n ∧ Rn m k_M_pairsOf 10 [(2, 175), (0, l1), (0, i_add l2 0), (0, i_add l3 1)] [] F v F') ∧
      (s_lt (F 188 l3) 10 →
       ∃ m, m < n ∧ Rn m k_M_pairsOf 10 [(2, 175), (0, l1), (0, i_add l2 2), (0, i_add l3 1)] [] F v F'))) := by
  have t := q_ok cv_201 ap_201 (hd := [(10, [1, 1, 1, 1])]) h rfl rfl
  exact t
-- TurnNetModel.plain(II)I
theorem c_M_plain {a1 a2 : Nat} {F : fx_F} {v : fx_V} {F' : fx_F} (h : Cl k_M_plain [(2, 175), (0, a1), (0, a2)] F v F') : ∃ n, Rn n k_M_plain 0 [(2, 175), (0, a1), (0, a2)] [] F v F' := by
  obtain ⟨n, s, hs, h⟩ := h
  rw [sg_202] at hs
  cases hs
  exact ⟨n, h⟩
set_option maxRecDepth 40000 in
theorem q_M_plain_0 {n : Nat} {a1 a2 : Nat} {F : fx_F} {v : fx_V} {F' : fx_F} (h : Rn n k_M_plain 0 [(2, 175), (0, a1), (0, a2)] [] F v F') :
  (s_lt a1 0 →
   v = (0, 4294967295) ∧ F' = F) ∧
  (s_le 0 a1 →
   (s_lt (i_sub (F 177 (F 175 9)) 1) a1 →
     v = (0, 4294967295) ∧ F' = F) ∧
    (s_le a1 (i_sub (F 177 (F 175 9)) 1) →
     (s_lt a2 0 →
       v = (0, 4294967295) ∧ F' = F) ∧
      (s_le 0 a2 →
       (s_lt (i_sub (F 177 (F 175 9)) 1) a2 →
         v = (0, 4294967295) ∧ F' = F) ∧
        (s_le a2 (i_sub (F 177 (F 175 9)) 1) →
         ∃ F1 : fx_F, Cl k_M_layFar [(2, 175), (0, a1), (0, 4294967295)] F (2, 0) F1 ∧
          (s_le 10 (F1 188 a2) →
            v = (0, 4294967295) ∧ F' = F1) ∧
           (s_lt (F1 188 a2) 10 →
            v = (0, F1 188 a2) ∧ F' = F1))))) := by
  have t := q_ok cv_202 ap_202 (hd := []) h rfl rfl
  exact t
-- TurnNetModel.plainPairs(I)I
theorem c_M_plainPairs {a1 : Nat} {F : fx_F} {v : fx_V} {F' : fx_F} (h : Cl k_M_plainPairs [(2, 175), (0, a1)] F v F') : ∃ n, Rn n k_M_plainPairs 0 [(2, 175), (0, a1), (3, 0), (3, 0), (3, 0)] [] F v F' := by
  obtain ⟨n, s, hs, h⟩ := h
  rw [sg_203] at hs
  cases hs
  exact ⟨n, h⟩
set_option maxRecDepth 40000 in
theorem q_M_plainPairs_0 {n : Nat} {a1 : Nat} {F : fx_F} {v : fx_V} {F' : fx_F} (h : Rn n k_M_plainPairs 0 [(2, 175), (0, a1), (3, 0), (3, 0), (3, 0)] [] F v F') :
  ∃ m, m < n ∧ Rn m k_M_plainPairs 4 [(2, 175), (0, a1), (0, 0), (0, 0), (3, 0)] [] F v F' := by
  have t := q_ok cv_203 ap_203 (hd := [(4, [1, 1, 1, 1, 0]), (29, [1, 1, 1, 1, 1])]) h rfl rfl
  exact t
set_option maxRecDepth 40000 in
theorem q_M_plainPairs_4 {n : Nat} {l1 l2 l3 : Nat} {F : fx_F} {v : fx_V} {F' : fx_F} (h : Rn n k_M_plainPairs 4 [(2, 175), (0, l1), (0, l2), (0, l3), (3, 0)] [] F v F') :
  (s_le (F 177 (F 175 9)) l3 →
   v = (0, l2) ∧ F' = F) ∧
  (s_lt l3 (F 177 (F 175 9)) →
   (l3 ≠ l1 →
     ∃ F1 : fx_F, Cl k_M_layFar [(2, 175), (0, l3), (0, l1)] F (2, 0) F1 ∧
      ∃ m, m < n ∧ Rn m k_M_plainPairs 29 [(2, 175), (0, l1), (0, l2), (0, l3), (0, 0)] [] F1 v F') ∧
    (l3 = l1 →
     ∃ m, m < n ∧ Rn m k_M_plainPairs 4 [(2, 175), (0, l1), (0, l2), (0, i_add l3 1), (3, 0)] [] F v F')) := by
  have t := q_ok cv_203 ap_203 (hd := [(4, [1, 1, 1, 1, 0]), (29, [1, 1, 1, 1, 1])]) h rfl rfl
  exact t
set_option maxRecDepth 40000 in
theorem q_M_plainPairs_29 {n : Nat} {l1 l2 l3 l4 : Nat} {F : fx_F} {v : fx_V} {F' : fx_F} (h : Rn n k_M_plainPairs 29 [(2, 175), (0, l1), (0, l2), (0, l3), (0, l4)] [] F v F') :
  (s_le (F 177 (F 175 9)) l4 →
   ∃ m, m < n ∧ Rn m k_M_plainPairs 4 [(2, 175), (0, l1), (0, l2), (0, i_add l3 1), (3, 0)] [] F v F') ∧
  (s_lt l4 (F 177 (F 175 9)) →
   (l4 = l3 →
     ∃ m, m < n ∧ Rn m k_M_plainPairs 29 [(2, 175), (0, l1), (0, i_add l2 0), (0, l3), (0, i_add l4 1)] [] F v F') ∧
    (l4 ≠ l3 →
     (l4 = l1 →
       ∃ m, m < n ∧ Rn m k_M_plainPairs 29 [(2, 175), (0, l1), (0, i_add l2 0), (0, l3), (0, i_add l4 1)] [] F v F') ∧
      (l4 ≠ l1 →
       (s_le 10 (F 188 l4) →
         ∃ m, m < n ∧ Rn m k_M_plainPairs 29 [(2, 175), (0, l1), (0, i_add l2 0), (0, l3), (0, i_add l4 1)] [] F v F') ∧
        (s_lt (F 188 l4) 10 →
         ∃ m, m < n ∧ Rn m k_M_plainPairs 29 [(2, 175), (0, l1), (0, i_add l2 1), (0, l3), (0, i_add l4 1)] [] F v F')))) := by
  have t := q_ok cv_203 ap_203 (hd := [(4, [1, 1, 1, 1, 0]), (29, [1, 1, 1, 1, 1])]) h rfl rfl
  exact t
end
