section
-- TurnNetModel.rankOf(I)I
theorem c_M_rankOf {a1 : Nat} {F : fx_F} {v : fx_V} {F' : fx_F} (h : Cl k_M_rankOf [(2, 175), (0, a1)] F v F') : ∃ n, Rn n k_M_rankOf 0 [(2, 175), (0, a1), (3, 0), (3, 0), (3, 0)] [] F v F' := by
  obtain ⟨n, s, hs, h⟩ := h
  rw [sg_204] at hs
  cases hs
  exact ⟨n, h⟩
set_option maxRecDepth 40000 in
theorem q_M_rankOf_0 {n : Nat} {a1 : Nat} {F : fx_F} {v : fx_V} {F' : fx_F} (h : Rn n k_M_rankOf 0 [(2, 175), (0, a1), (3, 0), (3, 0), (3, 0)] [] F v F') :
  ((F 182 (F 175 9)) ≠ 0 →
   ∃ m, m < n ∧ Rn m k_M_rankOf 23 [(2, 175), (0, a1), (0, 0), (0, 0), (3, 0)] [] F v F') ∧
  ((F 182 (F 175 9)) = 0 →
   v = (0, F 188 a1) ∧ F' = F) := by
  have t := q_ok cv_204 ap_204 (hd := [(23, [1, 1, 1, 1, 0])]) h rfl rfl
  exact t
set_option maxRecDepth 40000 in
theorem q_M_rankOf_23 {n : Nat} {l1 l2 l3 : Nat} {F : fx_F} {v : fx_V} {F' : fx_F} (h : Rn n k_M_rankOf 23 [(2, 175), (0, l1), (0, l2), (0, l3), (3, 0)] [] F v F') :
  (s_le (F 182 (F 175 9)) l3 →
   v = (0, F 191 0) ∧ F' = F) ∧
  (s_lt l3 (F 182 (F 175 9)) →
   (s_le (F 184 (i_add (i_mul 100 (F 175 9)) l3)) 1002 →
     ((F 184 (i_add (i_mul 100 (F 175 9)) l3)) ≠ 1000 →
       ((F 184 (i_add (i_mul 100 (F 175 9)) l3)) ≠ 1001 →
         ((F 184 (i_add (i_mul 100 (F 175 9)) l3)) ≠ 1002 →
           ∃ m, m < n ∧ Rn m k_M_rankOf 23 [(2, 175), (0, l1), (0, i_add l2 1), (0, i_add l3 1), (3, 0)] [] (fu F 191 l2 (F 184 (i_add (i_mul 100 (F 175 9)) l3))) v F') ∧
          ((F 184 (i_add (i_mul 100 (F 175 9)) l3)) = 1002 →
           ∃ (n1 : Nat) (F1 : fx_F), Cl k_M_linksOf [(2, 175), (0, l1)] F (0, n1) F1 ∧
            ∃ m, m < n ∧ Rn m k_M_rankOf 23 [(2, 175), (0, l1), (0, i_add l2 1), (0, i_add l3 1), (3, 0)] [] (fu F1 191 l2 n1) v F')) ∧
        ((F 184 (i_add (i_mul 100 (F 175 9)) l3)) = 1001 →
         ∃ m, m < n ∧ Rn m k_M_rankOf 23 [(2, 175), (0, l1), (0, i_add l2 1), (0, i_add l3 1), (3, 0)] [] (fu F 191 l2 l1) v F')) ∧
      ((F 184 (i_add (i_mul 100 (F 175 9)) l3)) = 1000 →
       ∃ m, m < n ∧ Rn m k_M_rankOf 23 [(2, 175), (0, l1), (0, i_add l2 1), (0, i_add l3 1), (3, 0)] [] (fu F 191 l2 (F 188 l1)) v F')) ∧
    (s_lt 1002 (F 184 (i_add (i_mul 100 (F 175 9)) l3)) →
     ((F 184 (i_add (i_mul 100 (F 175 9)) l3)) ≠ 1008 →
       (((F 184 (i_add (i_mul 100 (F 175 9)) l3)) < 1003 ∨ 1007 ≤ (F 184 (i_add (i_mul 100 (F 175 9)) l3))) →
         ((F 191 (i_add l2 4294967295)) ≠ 0 →
           ∃ m, m < n ∧ Rn m k_M_rankOf 23 [(2, 175), (0, l1), (0, i_add l2 4294967295), (0, i_add l3 1), (3, 0)] [] (fu F 191 (i_sub (i_add l2 4294967295) 1) (i_rem (F 191 (i_sub (i_add l2 4294967295) 1)) (F 191 (i_add l2 4294967295)))) v F') ∧
          ((F 191 (i_add l2 4294967295)) = 0 →
           ∃ m, m < n ∧ Rn m k_M_rankOf 23 [(2, 175), (0, l1), (0, i_add l2 4294967295), (0, i_add l3 1), (3, 0)] [] (fu F 191 (i_sub (i_add l2 4294967295) 1) 0) v F')) ∧
        (((F 184 (i_add (i_mul 100 (F 175 9)) l3)) = 1003 →
         ∃ m, m < n ∧ Rn m k_M_rankOf 23 [(2, 175), (0, l1), (0, i_add l2 4294967295), (0, i_add l3 1), (3, 0)] [] (fu F 191 (i_sub (i_add l2 4294967295) 1) (i_add (F 191 (i_sub (i_add l2 4294967295) 1)) (F 191 (i_add l2 4294967295)))) v F') ∧
        (((F 184 (i_add (i_mul 100 (F 175 9)) l3)) = 1004 →
         ∃ m, m < n ∧ Rn m k_M_rankOf 23 [(2, 175), (0, l1), (0, i_add l2 4294967295), (0, i_add l3 1), (3, 0)] [] (fu F 191 (i_sub (i_add l2 4294967295) 1) (i_sub (F 191 (i_sub (i_add l2 4294967295) 1)) (F 191 (i_add l2 4294967295)))) v F') ∧
        (((F 184 (i_add (i_mul 100 (F 175 9)) l3)) = 1005 →
         ∃ m, m < n ∧ Rn m k_M_rankOf 23 [(2, 175), (0, l1), (0, i_add l2 4294967295), (0, i_add l3 1), (3, 0)] [] (fu F 191 (i_sub (i_add l2 4294967295) 1) (i_mul (F 191 (i_sub (i_add l2 4294967295) 1)) (F 191 (i_add l2 4294967295)))) v F') ∧
        (((F 184 (i_add (i_mul 100 (F 175 9)) l3)) = 1006 →
         ((F 191 (i_add l2 4294967295)) ≠ 0 →
           ∃ m, m < n ∧ Rn m k_M_rankOf 23 [(2, 175), (0, l1), (0, i_add l2 4294967295), (0, i_add l3 1), (3, 0)] [] (fu F 191 (i_sub (i_add l2 4294967295) 1) (i_div (F 191 (i_sub (i_add l2 4294967295) 1)) (F 191 (i_add l2 4294967295)))) v F') ∧
          ((F 191 (i_add l2 4294967295)) = 0 →
           ∃ m, m < n ∧ Rn m k_M_rankOf 23 [(2, 175), (0, l1), (0, i_add l2 4294967295), (0, i_add l3 1), (3, 0)] [] (fu F 191 (i_sub (i_add l2 4294967295) 1) 0) v F')) ∧ True))))) ∧
      ((F 184 (i_add (i_mul 100 (F 175 9)) l3)) = 1008 →
       ∃ m, m < n ∧ Rn m k_M_rankOf 23 [(2, 175), (0, l1), (0, l2), (0, i_add l3 1), (3, 0)] [] (fu F 191 (i_sub l2 1) (i_neg (F 191 (i_sub l2 1)))) v F'))) := by
  have t := q_ok cv_204 ap_204 (hd := [(23, [1, 1, 1, 1, 0])]) h rfl rfl
  exact t
-- TurnNetModel.send(II)I
theorem c_M_send {a1 a2 : Nat} {F : fx_F} {v : fx_V} {F' : fx_F} (h : Cl k_M_send [(2, 175), (0, a1), (0, a2)] F v F') : ∃ n, Rn n k_M_send 0 [(2, 175), (0, a1), (0, a2)] [] F v F' := by
  obtain ⟨n, s, hs, h⟩ := h
  rw [sg_207] at hs
  cases hs
  exact ⟨n, h⟩
set_option maxRecDepth 40000 in
theorem q_M_send_0 {n : Nat} {a1 a2 : Nat} {F : fx_F} {v : fx_V} {F' : fx_F} (h : Rn n k_M_send 0 [(2, 175), (0, a1), (0, a2)] [] F v F') :
  (s_lt a1 0 →
   v = (0, 4294967295) ∧ F' = F) ∧
  (s_le 0 a1 →
   (s_lt (i_sub (F 177 (F 175 9)) 1) a1 →
     v = (0, 4294967295) ∧ F' = F) ∧
    (s_le a1 (i_sub (F 177 (F 175 9)) 1) →
     (s_lt a2 0 →
       v = (0, 4294967295) ∧ F' = F) ∧
      (s_le 0 a2 →
       (s_lt (i_sub (F 177 (F 175 9)) 1) a2 →
         v = (0, 4294967295) ∧ F' = F) ∧
        (s_le a2 (i_sub (F 177 (F 175 9)) 1) →
         (a1 = a2 →
           v = (0, 4294967295) ∧ F' = F) ∧
          (a1 ≠ a2 →
           ∃ (n1 : Nat) (F1 : fx_F), Cl k_M_freePacket [(2, 175)] F (0, n1) F1 ∧
            (s_lt n1 0 →
              v = (0, 4294967295) ∧ F' = F1) ∧
             (s_le 0 n1 →
              ∃ F2 : fx_F, Cl k_M_keepAct [(2, 175)] F1 (2, 0) F2 ∧
               ∃ (n3 : Nat) (F3 : fx_F), Cl k_M_freePacket [(2, 175)] F2 (0, n3) F3 ∧
                v = (0, n3) ∧ F' = (fu (fu (fu (fu (fu F3 176 (i_add 41 n3) 1) 176 (i_add 53 n3) a2) 176 (i_add 65 n3) a1) 176 (i_add 77 n3) 4294967295) 176 (i_add 89 n3) 0))))))) := by
  have t := q_ok cv_207 ap_207 (hd := []) h rfl rfl
  exact t
-- TurnNet$Planner.lay(III)V
theorem c_Pl_lay {a1 a2 a3 : Nat} {F : fx_F} {v : fx_V} {F' : fx_F} (h : Cl k_Pl_lay [(2, 48), (0, a1), (0, a2), (0, a3)] F v F') : ∃ n, Rn n k_Pl_lay 0 [(2, 48), (0, a1), (0, a2), (0, a3), (3, 0), (3, 0), (3, 0), (3, 0)] [] F v F' := by
  obtain ⟨n, s, hs, h⟩ := h
  rw [sg_208] at hs
  cases hs
  exact ⟨n, h⟩
set_option maxRecDepth 40000 in
theorem q_Pl_lay_0 {n : Nat} {a1 a2 a3 : Nat} {F : fx_F} {v : fx_V} {F' : fx_F} (h : Rn n k_Pl_lay 0 [(2, 48), (0, a1), (0, a2), (0, a3), (3, 0), (3, 0), (3, 0), (3, 0)] [] F v F') :
  ∃ (n1 : Nat) (F1 : fx_F), Cl k_I_bitCount [(0, i_xor a1 a2)] F (0, n1) F1 ∧
  ∃ m, m < n ∧ Rn m k_Pl_lay 25 [(2, 48), (3, 0), (3, 0), (0, a3), (0, i_xor a1 a2), (0, a1), (0, 0), (3, 0)] [] (fu (fu F1 48 3 n1) 48 4 0) v F' := by
  have t := q_ok cv_208 ap_208 (hd := [(25, [1, 0, 0, 1, 1, 1, 1, 0])]) h rfl rfl
  exact t
set_option maxRecDepth 40000 in
theorem q_Pl_lay_25 {n : Nat} {l3 l4 l5 l6 : Nat} {F : fx_F} {v : fx_V} {F' : fx_F} (h : Rn n k_Pl_lay 25 [(2, 48), (3, 0), (3, 0), (0, l3), (0, l4), (0, l5), (0, l6), (3, 0)] [] F v F') :
  (s_le 20 l6 →
   v = (2, 0) ∧ F' = F) ∧
  (s_lt l6 20 →
   (l4 = 0 →
     v = (2, 0) ∧ F' = F) ∧
    (l4 ≠ 0 →
     ∃ (n1 : Nat) (F1 : fx_F), Cl k_Pl_takeLinks [(2, 48), (0, l5), (0, l4), (0, l3)] F (0, n1) F1 ∧
      (n1 ≠ 0 →
        ∃ m, m < n ∧ Rn m k_Pl_lay 25 [(2, 48), (3, 0), (3, 0), (0, l3), (0, i_and l4 (i_xor n1 4294967295)), (0, i_xor l5 n1), (0, i_add l6 1), (3, 0)] [] (fu (fu F1 49 (F1 48 4) n1) 48 4 (i_add (F1 48 4) 1)) v F') ∧
       (n1 = 0 →
        v = (2, 0) ∧ F' = (fu F1 48 4 4294967294)))) := by
  have t := q_ok cv_208 ap_208 (hd := [(25, [1, 0, 0, 1, 1, 1, 1, 0])]) h rfl rfl
  exact t
-- TurnNet$Reader.readLink()Z
theorem c_Rd_readLink {F : fx_F} {v : fx_V} {F' : fx_F} (h : Cl k_Rd_readLink [(2, 10)] F v F') : ∃ n, Rn n k_Rd_readLink 0 [(2, 10), (3, 0)] [] F v F' := by
  obtain ⟨n, s, hs, h⟩ := h
  rw [sg_209] at hs
  cases hs
  exact ⟨n, h⟩
set_option maxRecDepth 40000 in
theorem q_Rd_readLink_0 {n : Nat} {F : fx_F} {v : fx_V} {F' : fx_F} (h : Rn n k_Rd_readLink 0 [(2, 10), (3, 0)] [] F v F') :
  (s_lt (F 12 1) 20 →
   ∃ (n1 : Nat) (F1 : fx_F), Cl k_Rd_readNumber [(2, 10), (0, 0), (0, i_sub (F 12 0) 1)] F (0, n1) F1 ∧
    (n1 ≠ 0 →
      ∃ (n2 : Nat) (F2 : fx_F), Cl k_Rd_readNumber [(2, 10), (0, 0), (0, i_sub (F1 12 0) 1)] F1 (0, n2) F2 ∧
       (n2 ≠ 0 →
         ((F2 10 8) ≠ (F1 10 8) →
           ∃ (n3 : Nat) (F3 : fx_F), Cl k_Net_joins [(2, 12), (0, F1 10 8), (0, F2 10 8)] F2 (0, n3) F3 ∧
            (n3 = 0 →
              ∃ (n4 : Nat) (F4 : fx_F), Cl k_Rd_closeLine [(2, 10)] (fu (fu (fu (fu (fu F3 13 (i_mul 2 (F3 12 1)) (F1 10 8)) 14 (i_mul 2 (F3 12 1)) (F3 10 8)) 13 (i_add (i_mul 2 (F3 12 1)) 1) (F3 10 8)) 14 (i_add (i_mul 2 (F3 12 1)) 1) (F1 10 8)) 12 1 (i_add (F3 12 1) 1)) (0, n4) F4 ∧
               v = (0, n4) ∧ F' = F4) ∧
             (n3 ≠ 0 →
              ∃ (n4 : Nat) (F4 : fx_F), Cl k_Rd_fail [(2, 10), (0, 3)] F3 (0, n4) F4 ∧
               v = (0, n4) ∧ F' = F4)) ∧
          ((F2 10 8) = (F1 10 8) →
           ∃ (n3 : Nat) (F3 : fx_F), Cl k_Rd_fail [(2, 10), (0, 2)] F2 (0, n3) F3 ∧
            v = (0, n3) ∧ F' = F3)) ∧
        (n2 = 0 →
         v = (0, 0) ∧ F' = F2)) ∧
     (n1 = 0 →
      v = (0, 0) ∧ F' = F1)) ∧
  (s_le 20 (F 12 1) →
   ∃ (n1 : Nat) (F1 : fx_F), Cl k_Rd_fail [(2, 10), (0, 4)] F (0, n1) F1 ∧
    v = (0, n1) ∧ F' = F1) := by
  have t := q_ok cv_209 ap_209 (hd := []) h rfl rfl
  exact t
-- TurnNet$Routes.countThrough(III)J
theorem c_Ro_countThrough {p a1 a2 a3 : Nat} {F : fx_F} {v : fx_V} {F' : fx_F} (h : Cl k_Ro_countThrough [(2, p), (0, a1), (0, a2), (0, a3)] F v F') : ∃ n, Rn n k_Ro_countThrough 0 [(2, p), (0, a1), (0, a2), (0, a3), (3, 0), (3, 0), (3, 0), (3, 0), (3, 0)] [] F v F' := by
  obtain ⟨n, s, hs, h⟩ := h
  rw [sg_210] at hs
  cases hs
  exact ⟨n, h⟩
set_option maxRecDepth 40000 in
theorem q_Ro_countThrough_0 {n : Nat} {p a1 a2 a3 : Nat} {F : fx_F} {v : fx_V} {F' : fx_F} (h : Rn n k_Ro_countThrough 0 [(2, p), (0, a1), (0, a2), (0, a3), (3, 0), (3, 0), (3, 0), (3, 0), (3, 0)] [] F v F') :
  ∃ F1 : fx_F, Cl k_Ro_countOnward [(2, p), (0, a2)] F (2, 0) F1 ∧
  ∃ F2 : fx_F, Cl k_Ro_countArriving [(2, p), (0, a1), (0, a2)] F1 (2, 0) F2 ∧
   ∃ m, m < n ∧ Rn m k_Ro_countThrough 29 [(2, p), (3, 0), (0, a2), (0, a3), (1, F2 (p + 6) (i_add (i_mul 2 (F2 5 a3)) (F2 (p + 5) a3))), (3, 0), (1, 0), (3, 0), (0, 0)] [] F2 v F' := by
  have t := q_ok cv_210 ap_210 (hd := [(29, [1, 0, 1, 1, 1, 0, 1, 0, 1])]) h rfl rfl
  exact t
set_option maxRecDepth 40000 in
theorem q_Ro_countThrough_29 {n : Nat} {p l2 l3 l4 l6 l8 : Nat} {F : fx_F} {v : fx_V} {F' : fx_F} (h : Rn n k_Ro_countThrough 29 [(2, p), (3, 0), (0, l2), (0, l3), (1, l4), (3, 0), (1, l6), (3, 0), (0, l8)] [] F v F') :
  (s_lt 1 l8 →
   v = (1, l6) ∧ F' = F) ∧
  (s_le l8 1 →
   ∃ (n1 : Nat) (F1 : fx_F), Cl k_Ro_leadsOn [(2, p), (0, l2), (0, l3), (0, l8)] F (0, n1) F1 ∧
    (n1 = 0 →
      ∃ m, m < n ∧ Rn m k_Ro_countThrough 29 [(2, p), (3, 0), (0, l2), (0, l3), (1, l4), (3, 0), (1, l6), (3, 0), (0, i_add l8 1)] [] F1 v F') ∧
     (n1 ≠ 0 →
      ∃ m, m < n ∧ Rn m k_Ro_countThrough 29 [(2, p), (3, 0), (0, l2), (0, l3), (1, l4), (3, 0), (1, rx_j_add l6 (rx_j_mul (F1 (p + 7) (i_add (i_mul 2 (F1 4 l3)) l8)) l4)), (3, 0), (0, i_add l8 1)] [] F1 v F')) := by
  have t := q_ok cv_210 ap_210 (hd := [(29, [1, 0, 1, 1, 1, 0, 1, 0, 1])]) h rfl rfl
  exact t
-- TurnNet$Routes.countWays(II)J
theorem c_Ro_countWays {p a1 a2 : Nat} {F : fx_F} {v : fx_V} {F' : fx_F} (h : Cl k_Ro_countWays [(2, p), (0, a1), (0, a2)] F v F') : ∃ n, Rn n k_Ro_countWays 0 [(2, p), (0, a1), (0, a2)] [] F v F' := by
  obtain ⟨n, s, hs, h⟩ := h
  rw [sg_211] at hs
  cases hs
  exact ⟨n, h⟩
set_option maxRecDepth 40000 in
theorem q_Ro_countWays_0 {n : Nat} {p a1 a2 : Nat} {F : fx_F} {v : fx_V} {F' : fx_F} (h : Rn n k_Ro_countWays 0 [(2, p), (0, a1), (0, a2)] [] F v F') :
  ∃ F1 : fx_F, Cl k_Ro_countOnward [(2, p), (0, a2)] F (2, 0) F1 ∧
  v = (1, F1 (p + 6) (i_mul 2 a1)) ∧ F' = F1 := by
  have t := q_ok cv_211 ap_211 (hd := []) h rfl rfl
  exact t
-- TurnNet$Routes.seeTable(II)V
theorem c_Ro_seeTable {p a1 a2 : Nat} {F : fx_F} {v : fx_V} {F' : fx_F} (h : Cl k_Ro_seeTable [(2, p), (0, a1), (0, a2)] F v F') : ∃ n, Rn n k_Ro_seeTable 0 [(2, p), (0, a1), (0, a2)] [] F v F' := by
  obtain ⟨n, s, hs, h⟩ := h
  rw [sg_212] at hs
  cases hs
  exact ⟨n, h⟩
set_option maxRecDepth 40000 in
theorem q_Ro_seeTable_0 {n : Nat} {p a1 a2 : Nat} {F : fx_F} {v : fx_V} {F' : fx_F} (h : Rn n k_Ro_seeTable 0 [(2, p), (0, a1), (0, a2)] [] F v F') :
  ∃ F1 : fx_F, Cl k_Ro_see [(2, p), (0, a1), (0, a2)] F (2, 0) F1 ∧
  ((F1 p 4) ≠ 0 →
    v = (2, 0) ∧ F' = F1) ∧
   ((F1 p 4) = 0 →
    ∃ F2 : fx_F, Cl k_Ro_fillTable [(2, p)] F1 (2, 0) F2 ∧
     ∃ F3 : fx_F, Cl k_Ro_countLoads [(2, p)] F2 (2, 0) F3 ∧
      v = (2, 0) ∧ F' = (fu F3 p 4 1)) := by
  have t := q_ok cv_212 ap_212 (hd := []) h rfl rfl
  exact t
-- TurnNet$Traffic.play(LTurnNet$State;LTurnNet$Routes;II)I
theorem c_Tr_play {a1 a2 a3 a4 : Nat} {F : fx_F} {v : fx_V} {F' : fx_F} (h : Cl k_Tr_play [(2, 50), (2, a1), (2, a2), (0, a3), (0, a4)] F v F') : ∃ n, Rn n k_Tr_play 0 [(2, 50), (2, a1), (2, a2), (0, a3), (0, a4), (3, 0), (3, 0), (3, 0), (3, 0), (3, 0)] [] F v F' := by
  obtain ⟨n, s, hs, h⟩ := h
  rw [sg_213] at hs
  cases hs
  exact ⟨n, h⟩
set_option maxRecDepth 40000 in
theorem q_Tr_play_0 {n : Nat} {a1 a2 a3 a4 : Nat} {F : fx_F} {v : fx_V} {F' : fx_F} (h : Rn n k_Tr_play 0 [(2, 50), (2, a1), (2, a2), (0, a3), (0, a4), (3, 0), (3, 0), (3, 0), (3, 0), (3, 0)] [] F v F') :
  ∃ m, m < n ∧ Rn m k_Tr_play 9 [(2, 50), (2, a1), (2, a2), (3, 0), (0, a4), (0, 0), (0, a3), (0, 0), (3, 0), (3, 0)] [] F v F' := by
  have t := q_ok cv_213 ap_213 (hd := [(9, [1, 1, 1, 0, 1, 1, 1, 1, 0, 0])]) h rfl rfl
  exact t
set_option maxRecDepth 40000 in
theorem q_Tr_play_9 {n : Nat} {l1 l2 l4 l5 l6 l7 : Nat} {F : fx_F} {v : fx_V} {F' : fx_F} (h : Rn n k_Tr_play 9 [(2, 50), (2, l1), (2, l2), (3, 0), (0, l4), (0, l5), (0, l6), (0, l7), (3, 0), (3, 0)] [] F v F') :
  (s_le l4 l7 →
   v = (0, l5) ∧ F' = F) ∧
  (s_lt l7 l4 →
   ((i_rem (i_rem (i_add (i_mul 137 l6) 71) 10007) (i_max (F 3 0) 1)) = (i_rem (i_rem (i_add (i_mul 137 (i_rem (i_add (i_mul 137 l6) 71) 10007)) 71) 10007) (i_max (F 3 0) 1)) →
     ∃ F1 : fx_F, Cl k_Tr_goStep [(2, 50), (2, l1), (2, l2)] F (2, 0) F1 ∧
      ∃ m, m < n ∧ Rn m k_Tr_play 9 [(2, 50), (2, l1), (2, l2), (3, 0), (0, l4), (0, i_add l5 1), (0, i_rem (i_add (i_mul 137 (i_rem (i_add (i_mul 137 l6) 71) 10007)) 71) 10007), (0, i_add l7 1), (3, 0), (3, 0)] [] F1 v F') ∧
    ((i_rem (i_rem (i_add (i_mul 137 l6) 71) 10007) (i_max (F 3 0) 1)) ≠ (i_rem (i_rem (i_add (i_mul 137 (i_rem (i_add (i_mul 137 l6) 71) 10007)) 71) 10007) (i_max (F 3 0) 1)) →
     ∃ (n1 : Nat) (F1 : fx_F), Cl k_St_freePacket [(2, l1)] F (0, n1) F1 ∧
      (n1 = 4294967295 →
        (n1 ≠ 4294967295 →
          ∃ F2 : fx_F, Cl k_Tr_goStep [(2, 50), (2, l1), (2, l2)] F1 (2, 0) F2 ∧
           ∃ m, m < n ∧ Rn m k_Tr_play 9 [(2, 50), (2, l1), (2, l2), (3, 0), (0, l4), (0, l5), (0, i_rem (i_add (i_mul 137 (i_rem (i_add (i_mul 137 l6) 71) 10007)) 71) 10007), (0, i_add l7 1), (3, 0), (3, 0)] [] F2 v F') ∧
         (n1 = 4294967295 →
          ∃ F2 : fx_F, Cl k_Tr_goStep [(2, 50), (2, l1), (2, l2)] F1 (2, 0) F2 ∧
           ∃ m, m < n ∧ Rn m k_Tr_play 9 [(2, 50), (2, l1), (2, l2), (3, 0), (0, l4), (0, i_add l5 1), (0, i_rem (i_add (i_mul 137 (i_rem (i_add (i_mul 137 l6) 71) 10007)) 71) 10007), (0, i_add l7 1), (3, 0), (3, 0)] [] F2 v F')) ∧
       (n1 ≠ 4294967295 →
        (n1 ≠ 4294967295 →
          ∃ F2 : fx_F, Cl k_Tr_goStep [(2, 50), (2, l1), (2, l2)] (fu (fu (fu (fu F1 (l1 + 1) n1 (i_rem (i_rem (i_add (i_mul 137 l6) 71) 10007) (i_max (F 3 0) 1))) (l1 + 2) n1 (i_rem (i_rem (i_add (i_mul 137 (i_rem (i_add (i_mul 137 l6) 71) 10007)) 71) 10007) (i_max (F 3 0) 1))) (l1 + 3) n1 4294967295) (l1 + 4) n1 0) (2, 0) F2 ∧
           ∃ m, m < n ∧ Rn m k_Tr_play 9 [(2, 50), (2, l1), (2, l2), (3, 0), (0, l4), (0, l5), (0, i_rem (i_add (i_mul 137 (i_rem (i_add (i_mul 137 l6) 71) 10007)) 71) 10007), (0, i_add l7 1), (3, 0), (3, 0)] [] F2 v F') ∧
         (n1 = 4294967295 →
          ∃ F2 : fx_F, Cl k_Tr_goStep [(2, 50), (2, l1), (2, l2)] (fu (fu (fu (fu F1 (l1 + 1) n1 (i_rem (i_rem (i_add (i_mul 137 l6) 71) 10007) (i_max (F 3 0) 1))) (l1 + 2) n1 (i_rem (i_rem (i_add (i_mul 137 (i_rem (i_add (i_mul 137 l6) 71) 10007)) 71) 10007) (i_max (F 3 0) 1))) (l1 + 3) n1 4294967295) (l1 + 4) n1 0) (2, 0) F2 ∧
           ∃ m, m < n ∧ Rn m k_Tr_play 9 [(2, 50), (2, l1), (2, l2), (3, 0), (0, l4), (0, i_add l5 1), (0, i_rem (i_add (i_mul 137 (i_rem (i_add (i_mul 137 l6) 71) 10007)) 71) 10007), (0, i_add l7 1), (3, 0), (3, 0)] [] F2 v F')))) := by
  have t := q_ok cv_213 ap_213 (hd := [(9, [1, 1, 1, 0, 1, 1, 1, 1, 0, 0])]) h rfl rfl
  exact t
-- TurnNet.around(III)I
theorem c_T_around {a1 a2 a3 : Nat} {F : fx_F} {v : fx_V} {F' : fx_F} (h : Cl k_T_around [(2, 2), (0, a1), (0, a2), (0, a3)] F v F') : ∃ n, Rn n k_T_around 0 [(2, 2), (0, a1), (0, a2), (0, a3)] [] F v F' := by
  obtain ⟨n, s, hs, h⟩ := h
  rw [sg_214] at hs
  cases hs
  exact ⟨n, h⟩
set_option maxRecDepth 40000 in
theorem q_T_around_0 {n : Nat} {a1 a2 a3 : Nat} {F : fx_F} {v : fx_V} {F' : fx_F} (h : Rn n k_T_around 0 [(2, 2), (0, a1), (0, a2), (0, a3)] [] F v F') :
  (s_lt a1 0 →
   v = (0, 4294967295) ∧ F' = F) ∧
  (s_le 0 a1 →
   (s_le (F 3 0) a1 →
     v = (0, 4294967295) ∧ F' = F) ∧
    (s_lt a1 (F 3 0) →
     (s_lt a2 0 →
       v = (0, 4294967295) ∧ F' = F) ∧
      (s_le 0 a2 →
       (s_le (F 3 0) a2 →
         v = (0, 4294967295) ∧ F' = F) ∧
        (s_lt a2 (F 3 0) →
         (s_lt a3 0 →
           v = (0, 4294967295) ∧ F' = F) ∧
          (s_le 0 a3 →
           (s_le (F 3 1) a3 →
             v = (0, 4294967295) ∧ F' = F) ∧
            (s_lt a3 (F 3 1) →
             ((i_and (i_shr (F (F 2 13) 2) a3) 1) ≠ 1 →
               v = (0, 4294967295) ∧ F' = F) ∧
              ((i_and (i_shr (F (F 2 13) 2) a3) 1) = 1 →
               ∃ F1 : fx_F, Cl k_Ro_see [(2, 32), (0, F (F 2 13) 1), (0, i_and (F (F 2 13) 2) (i_xor (i_shl 1 a3) 4294967295))] F (2, 0) F1 ∧
                v = (0, F1 33 (i_add (i_mul a2 20) (i_mul 2 a1))) ∧ F' = F1))))))) := by
  have t := q_ok cv_214 ap_214 (hd := []) h rfl rfl
  exact t
-- TurnNet.length(II)I
theorem c_T_length {a1 a2 : Nat} {F : fx_F} {v : fx_V} {F' : fx_F} (h : Cl k_T_length [(2, 2), (0, a1), (0, a2)] F v F') : ∃ n, Rn n k_T_length 0 [(2, 2), (0, a1), (0, a2)] [] F v F' := by
  obtain ⟨n, s, hs, h⟩ := h
  rw [sg_215] at hs
  cases hs
  exact ⟨n, h⟩
set_option maxRecDepth 40000 in
theorem q_T_length_0 {n : Nat} {a1 a2 : Nat} {F : fx_F} {v : fx_V} {F' : fx_F} (h : Rn n k_T_length 0 [(2, 2), (0, a1), (0, a2)] [] F v F') :
  (s_lt a1 0 →
   v = (0, 4294967295) ∧ F' = F) ∧
  (s_le 0 a1 →
   (s_le (F 3 0) a1 →
     v = (0, 4294967295) ∧ F' = F) ∧
    (s_lt a1 (F 3 0) →
     (s_lt a2 0 →
       v = (0, 4294967295) ∧ F' = F) ∧
      (s_le 0 a2 →
       (s_le (F 3 0) a2 →
         v = (0, 4294967295) ∧ F' = F) ∧
        (s_lt a2 (F 3 0) →
         ∃ F1 : fx_F, Cl k_Ro_see [(2, 24), (0, F (F 2 13) 1), (0, F (F 2 13) 2)] F (2, 0) F1 ∧
          v = (0, F1 25 (i_add (i_mul a2 20) (i_mul 2 a1))) ∧ F' = F1)))) := by
  have t := q_ok cv_215 ap_215 (hd := []) h rfl rfl
  exact t
-- TurnNet.orient(I)I
theorem c_T_orient {a1 : Nat} {F : fx_F} {v : fx_V} {F' : fx_F} (h : Cl k_T_orient [(2, 2), (0, a1)] F v F') : ∃ n, Rn n k_T_orient 0 [(2, 2), (0, a1), (3, 0), (3, 0)] [] F v F' := by
  obtain ⟨n, s, hs, h⟩ := h
  rw [sg_216] at hs
  cases hs
  exact ⟨n, h⟩
set_option maxRecDepth 40000 in
theorem q_T_orient_0 {n : Nat} {a1 : Nat} {F : fx_F} {v : fx_V} {F' : fx_F} (h : Rn n k_T_orient 0 [(2, 2), (0, a1), (3, 0), (3, 0)] [] F v F') :
  (s_lt a1 0 →
   v = (0, 4294967295) ∧ F' = F) ∧
  (s_le 0 a1 →
   (s_le (F 3 0) a1 →
     v = (0, 4294967295) ∧ F' = F) ∧
    (s_lt a1 (F 3 0) →
     ∃ F1 : fx_F, Cl k_Hi_keep [(2, 51), (2, F 2 13)] F (2, 0) F1 ∧
      ∃ (n2 : Nat) (F2 : fx_F), Cl k_T_upEndsBy [(2, 2), (0, a1)] F1 (0, n2) F2 ∧
       ∃ (n3 : Nat) (F3 : fx_F), Cl k_I_bitCount [(0, i_xor n2 (F2 (F2 2 13) 1))] F2 (0, n3) F3 ∧
        v = (0, n3) ∧ F' = (fu (fu F3 (F3 2 13) 1 n2) ((fu F3 (F3 2 13) 1 n2) 2 13) 0 a1))) := by
  have t := q_ok cv_216 ap_216 (hd := []) h rfl rfl
  exact t
-- TurnNet.pairs(I)I
theorem c_T_pairs {a1 : Nat} {F : fx_F} {v : fx_V} {F' : fx_F} (h : Cl k_T_pairs [(2, 2), (0, a1)] F v F') : ∃ n, Rn n k_T_pairs 0 [(2, 2), (0, a1)] [] F v F' := by
  obtain ⟨n, s, hs, h⟩ := h
  rw [sg_217] at hs
  cases hs
  exact ⟨n, h⟩
set_option maxRecDepth 40000 in
theorem q_T_pairs_0 {n : Nat} {a1 : Nat} {F : fx_F} {v : fx_V} {F' : fx_F} (h : Rn n k_T_pairs 0 [(2, 2), (0, a1)] [] F v F') :
  ∃ F1 : fx_F, Cl k_Ro_see [(2, 24), (0, F (F 2 13) 1), (0, F (F 2 13) 2)] F (2, 0) F1 ∧
  ((a1 < 0 ∨ 4 ≤ a1) →
    v = (0, 4294967295) ∧ F' = F1) ∧
   ((a1 = 0 →
    ∃ (n2 : Nat) (F2 : fx_F), Cl k_Ro_pairsWithout [(2, 24)] F1 (0, n2) F2 ∧
     v = (0, n2) ∧ F' = F2) ∧
   ((a1 = 1 →
    ∃ (n2 : Nat) (F2 : fx_F), Cl k_Ro_hopsTogether [(2, 24)] F1 (0, n2) F2 ∧
     v = (0, n2) ∧ F' = F2) ∧
   ((a1 = 2 →
    ∃ F2 : fx_F, Cl k_Gr_see [(2, 40), (0, F1 (F1 2 13) 2)] F1 (2, 0) F2 ∧
     ∃ (n3 : Nat) (F3 : fx_F), Cl k_Ro_hopsTogether [(2, 24)] F2 (0, n3) F3 ∧
      ∃ (n4 : Nat) (F4 : fx_F), Cl k_T_hopsWhereWays [(2, 2)] F3 (0, n4) F4 ∧
       v = (0, i_sub n3 n4) ∧ F' = F4) ∧
   ((a1 = 3 →
    ∃ F2 : fx_F, Cl k_Gr_see [(2, 40), (0, F1 (F1 2 13) 2)] F1 (2, 0) F2 ∧
     ∃ (n3 : Nat) (F3 : fx_F), Cl k_Gr_pairsWithout [(2, 40)] F2 (0, n3) F3 ∧
      v = (0, n3) ∧ F' = F3) ∧ True)))) := by
  have t := q_ok cv_217 ap_217 (hd := []) h rfl rfl
  exact t
-- TurnNet.pairsWithoutWay(II)I
theorem c_T_pairsWithoutWay {a1 a2 : Nat} {F : fx_F} {v : fx_V} {F' : fx_F} (h : Cl k_T_pairsWithoutWay [(2, 2), (0, a1), (0, a2)] F v F') : ∃ n, Rn n k_T_pairsWithoutWay 0 [(2, 2), (0, a1), (0, a2)] [] F v F' := by
  obtain ⟨n, s, hs, h⟩ := h
  rw [sg_218] at hs
  cases hs
  exact ⟨n, h⟩
set_option maxRecDepth 40000 in
theorem q_T_pairsWithoutWay_0 {n : Nat} {a1 a2 : Nat} {F : fx_F} {v : fx_V} {F' : fx_F} (h : Rn n k_T_pairsWithoutWay 0 [(2, 2), (0, a1), (0, a2)] [] F v F') :
  ∃ F1 : fx_F, Cl k_Ro_see [(2, 32), (0, a1), (0, a2)] F (2, 0) F1 ∧
  ∃ (n2 : Nat) (F2 : fx_F), Cl k_Ro_pairsWithout [(2, 32)] F1 (0, n2) F2 ∧
   v = (0, n2) ∧ F' = F2 := by
  have t := q_ok cv_218 ap_218 (hd := []) h rfl rfl
  exact t
-- TurnNet.pivots()I
theorem c_T_pivots {F : fx_F} {v : fx_V} {F' : fx_F} (h : Cl k_T_pivots [(2, 2)] F v F') : ∃ n, Rn n k_T_pivots 0 [(2, 2)] [] F v F' := by
  obtain ⟨n, s, hs, h⟩ := h
  rw [sg_219] at hs
  cases hs
  exact ⟨n, h⟩
set_option maxRecDepth 40000 in
theorem q_T_pivots_0 {n : Nat} {F : fx_F} {v : fx_V} {F' : fx_F} (h : Rn n k_T_pivots 0 [(2, 2)] [] F v F') :
  ∃ (n1 : Nat) (F1 : fx_F), Cl k_Gr_findPivots [(2, 40), (0, F (F 2 13) 2)] F (0, n1) F1 ∧
  v = (0, n1) ∧ F' = F1 := by
  have t := q_ok cv_219 ap_219 (hd := []) h rfl rfl
  exact t
-- TurnNetModel.apart(II)I
theorem c_M_apart {a1 a2 : Nat} {F : fx_F} {v : fx_V} {F' : fx_F} (h : Cl k_M_apart [(2, 175), (0, a1), (0, a2)] F v F') : ∃ n, Rn n k_M_apart 0 [(2, 175), (0, a1), (0, a2), (3, 0)] [] F v F' := by
  obtain ⟨n, s, hs, h⟩ := h
  rw [sg_220] at hs
  cases hs
  exact ⟨n, h⟩
set_option maxRecDepth 40000 in
theorem q_M_apart_0 {n : Nat} {a1 a2 : Nat} {F : fx_F} {v : fx_V} {F' : fx_F} (h : Rn n k_M_apart 0 [(2, 175), (0, a1), (0, a2), (3, 0)] [] F v F') :
  (s_lt a1 0 →
   v = (0, 4294967295) ∧ F' = F) ∧
  (s_le 0 a1 →
   (s_lt (i_sub (F 177 (F 175 9)) 1) a1 →
     v = (0, 4294967295) ∧ F' = F) ∧
    (s_le a1 (i_sub (F 177 (F 175 9)) 1) →
     (s_lt a2 0 →
       v = (0, 4294967295) ∧ F' = F) ∧
      (s_le 0 a2 →
       (s_lt (i_sub (F 177 (F 175 9)) 1) a2 →
         v = (0, 4294967295) ∧ F' = F) ∧
        (s_le a2 (i_sub (F 177 (F 175 9)) 1) →
         (a1 ≠ a2 →
           ∃ m, m < n ∧ Rn m k_M_apart 25 [(2, 175), (0, a1), (0, a2), (0, 0)] [] F v F') ∧
          (a1 = a2 →
           v = (0, 4294967295) ∧ F' = F))))) := by
  have t := q_ok cv_220 ap_220 (hd := [(25, [1, 1, 1, 1]), (46, [1, 1, 1, 1])]) h rfl rfl
  exact t
set_option maxRecDepth 40000 in
theorem q_M_apart_25 {n : Nat} {l1 l2 l3 : Nat} {F : fx_F} {v : fx_V} {F' : fx_F} (h : Rn n k_M_apart 25 [(2, 175), (0, l1), (0, l2), (0, l3)] [] F v F') :
  (s_le 20 l3 →
   ∃ m, m < n ∧ Rn m k_M_apart 46 [(2, 175), (0, l1), (0, l2), (0, 0)] [] F v F') ∧
  (s_lt l3 20 →
   ∃ m, m < n ∧ Rn m k_M_apart 25 [(2, 175), (0, l1), (0, l2), (0, i_add l3 1)] [] (fu F 200 l3 0) v F') := by
  have t := q_ok cv_220 ap_220 (hd := [(25, [1, 1, 1, 1]), (46, [1, 1, 1, 1])]) h rfl rfl
  exact t
set_option maxRecDepth 40000 in
theorem q_M_apart_46 {n : Nat} {l1 l2 l3 : Nat} {F : fx_F} {v : fx_V} {F' : fx_F} (h : Rn n k_M_apart 46 [(2, 175), (0, l1), (0, l2), (0, l3)] [] F v F') :
  ∃ (n1 : Nat) (F1 : fx_F), Cl k_M_oneMore [(2, 175), (0, l1), (0, l2)] F (0, n1) F1 ∧
  (n1 = 0 →
    v = (0, l3) ∧ F' = F1) ∧
   (n1 ≠ 0 →
    ∃ m, m < n ∧ Rn m k_M_apart 46 [(2, 175), (0, l1), (0, l2), (0, i_add l3 1)] [] F1 v F') := by
  have t := q_ok cv_220 ap_220 (hd := [(25, [1, 1, 1, 1]), (46, [1, 1, 1, 1])]) h rfl rfl
  exact t
-- TurnNetModel.isTurn(IIII)Z
theorem c_M_isTurn {a1 a2 a3 a4 : Nat} {F : fx_F} {v : fx_V} {F' : fx_F} (h : Cl k_M_isTurn [(2, 175), (0, a1), (0, a2), (0, a3), (0, a4)] F v F') : ∃ n, Rn n k_M_isTurn 0 [(2, 175), (0, a1), (0, a2), (0, a3), (0, a4)] [] F v F' := by
  obtain ⟨n, s, hs, h⟩ := h
  rw [sg_221] at hs
  cases hs
  exact ⟨n, h⟩
set_option maxRecDepth 40000 in
theorem q_M_isTurn_0 {n : Nat} {a1 a2 a3 a4 : Nat} {F : fx_F} {v : fx_V} {F' : fx_F} (h : Rn n k_M_isTurn 0 [(2, 175), (0, a1), (0, a2), (0, a3), (0, a4)] [] F v F') :
  ((i_div a1 2) = (i_div a2 2) →
   v = (0, 0) ∧ F' = F) ∧
  ((i_div a1 2) ≠ (i_div a2 2) →
   ((F 176 (i_add 0 (i_div a1 2))) ≠ 1 →
     v = (0, 0) ∧ F' = F) ∧
    ((F 176 (i_add 0 (i_div a1 2))) = 1 →
     ((F 176 (i_add 0 (i_div a2 2))) ≠ 1 →
       v = (0, 0) ∧ F' = F) ∧
      ((F 176 (i_add 0 (i_div a2 2))) = 1 →
       ((F 183 (i_add (i_add (i_mul 40 (F 175 9)) (i_mul 2 (i_div a1 2))) (i_sub 1 (i_rem a1 2)))) = (F 183 (i_add (i_add (i_mul 40 (F 175 9)) (i_mul 2 (i_div a2 2))) (i_rem a2 2))) →
         ((F 183 (i_add (i_add (i_mul 40 (F 175 9)) (i_mul 2 (i_div a1 2))) (i_sub 1 (i_rem a1 2)))) ≠ a3 →
           ((F 183 (i_add (i_add (i_mul 40 (F 175 9)) (i_mul 2 (i_div a2 2))) (i_sub 1 (i_rem a2 2)))) ≠ a4 →
             v = (0, 1) ∧ F' = F) ∧
            ((F 183 (i_add (i_add (i_mul 40 (F 175 9)) (i_mul 2 (i_div a2 2))) (i_sub 1 (i_rem a2 2)))) = a4 →
             v = (0, 0) ∧ F' = F)) ∧
          ((F 183 (i_add (i_add (i_mul 40 (F 175 9)) (i_mul 2 (i_div a1 2))) (i_sub 1 (i_rem a1 2)))) = a3 →
           v = (0, 1) ∧ F' = F)) ∧
        ((F 183 (i_add (i_add (i_mul 40 (F 175 9)) (i_mul 2 (i_div a1 2))) (i_sub 1 (i_rem a1 2)))) ≠ (F 183 (i_add (i_add (i_mul 40 (F 175 9)) (i_mul 2 (i_div a2 2))) (i_rem a2 2))) →
         v = (0, 0) ∧ F' = F)))) := by
  have t := q_ok cv_221 ap_221 (hd := []) h rfl rfl
  exact t
-- TurnNetModel.isUp(I)Z
theorem c_M_isUp {a1 : Nat} {F : fx_F} {v : fx_V} {F' : fx_F} (h : Cl k_M_isUp [(2, 175), (0, a1)] F v F') : ∃ n, Rn n k_M_isUp 0 [(2, 175), (0, a1)] [] F v F' := by
  obtain ⟨n, s, hs, h⟩ := h
  rw [sg_222] at hs
  cases hs
  exact ⟨n, h⟩
set_option maxRecDepth 40000 in
theorem q_M_isUp_0 {n : Nat} {a1 : Nat} {F : fx_F} {v : fx_V} {F' : fx_F} (h : Rn n k_M_isUp 0 [(2, 175), (0, a1)] [] F v F') :
  ((F 183 (i_add (i_add (i_mul 40 (F 175 9)) (i_mul 2 (i_div a1 2))) (i_sub 1 (i_rem a1 2)))) ≠ (F 176 (i_add 20 (i_div a1 2))) →
   v = (0, 0) ∧ F' = F) ∧
  ((F 183 (i_add (i_add (i_mul 40 (F 175 9)) (i_mul 2 (i_div a1 2))) (i_sub 1 (i_rem a1 2)))) = (F 176 (i_add 20 (i_div a1 2))) →
   v = (0, 1) ∧ F' = F) := by
  have t := q_ok cv_222 ap_222 (hd := []) h rfl rfl
  exact t
-- TurnNetModel.layRanks(I)V
theorem c_M_layRanks {a1 : Nat} {F : fx_F} {v : fx_V} {F' : fx_F} (h : Cl k_M_layRanks [(2, 175), (0, a1)] F v F') : ∃ n, Rn n k_M_layRanks 0 [(2, 175), (0, a1), (3, 0)] [] F v F' := by
  obtain ⟨n, s, hs, h⟩ := h
  rw [sg_223] at hs
  cases hs
  exact ⟨n, h⟩
set_option maxRecDepth 40000 in
theorem q_M_layRanks_0 {n : Nat} {a1 : Nat} {F : fx_F} {v : fx_V} {F' : fx_F} (h : Rn n k_M_layRanks 0 [(2, 175), (0, a1), (3, 0)] [] F v F') :
  ∃ F1 : fx_F, Cl k_M_layFar [(2, 175), (0, a1), (0, 4294967295)] F (2, 0) F1 ∧
  ∃ m, m < n ∧ Rn m k_M_layRanks 8 [(2, 175), (3, 0), (0, 0)] [] F1 v F' := by
  have t := q_ok cv_223 ap_223 (hd := [(8, [1, 0, 1])]) h rfl rfl
  exact t
set_option maxRecDepth 40000 in
theorem q_M_layRanks_8 {n : Nat} {l2 : Nat} {F : fx_F} {v : fx_V} {F' : fx_F} (h : Rn n k_M_layRanks 8 [(2, 175), (3, 0), (0, l2)] [] F v F') :
  (s_le (F 177 (F 175 9)) l2 →
   v = (2, 0) ∧ F' = F) ∧
  (s_lt l2 (F 177 (F 175 9)) →
   ∃ (n1 : Nat) (F1 : fx_F), Cl k_M_rankOf [(2, 175), (0, l2)] F (0, n1) F1 ∧
    ∃ m, m < n ∧ Rn m k_M_layRanks 8 [(2, 175), (3, 0), (0, i_add l2 1)] [] (fu F1 189 l2 n1) v F') := by
  have t := q_ok cv_223 ap_223 (hd := [(8, [1, 0, 1])]) h rfl rfl
  exact t
-- TurnNetModel.pivots()I
theorem c_M_pivots {F : fx_F} {v : fx_V} {F' : fx_F} (h : Cl k_M_pivots [(2, 175)] F v F') : ∃ n, Rn n k_M_pivots 0 [(2, 175), (3, 0), (3, 0), (3, 0)] [] F v F' := by
  obtain ⟨n, s, hs, h⟩ := h
  rw [sg_224] at hs
  cases hs
  exact ⟨n, h⟩
set_option maxRecDepth 40000 in
theorem q_M_pivots_0 {n : Nat} {F : fx_F} {v : fx_V} {F' : fx_F} (h : Rn n k_M_pivots 0 [(2, 175), (3, 0), (3, 0), (3, 0)] [] F v F') :
  ∃ (n1 : Nat) (F1 : fx_F), Cl k_M_plainPairs [(2, 175), (0, 4294967295)] F (0, n1) F1 ∧
  ∃ m, m < n ∧ Rn m k_M_pivots 10 [(2, 175), (0, 0), (0, n1), (0, 0)] [] F1 v F' := by
  have t := q_ok cv_224 ap_224 (hd := [(10, [1, 1, 1, 1])]) h rfl rfl
  exact t
set_option maxRecDepth 40000 in
theorem q_M_pivots_10 {n : Nat} {l1 l2 l3 : Nat} {F : fx_F} {v : fx_V} {F' : fx_F} (h : Rn n k_M_pivots 10 [(2, 175), (0, l1), (0, l2), (0, l3)] [] F v F') :
  (s_le (F 177 (F 175 9)) l3 →
   v = (0, l1) ∧ F' = F) ∧
  (s_lt l3 (F 177 (F 175 9)) →
   ∃ (n1 : Nat) (F1 : fx_F), Cl k_M_plainPairs [(2, 175), (0, l3)] F (0, n1) F1 ∧
    ∃ (n2 : Nat) (F2 : fx_F), Cl k_M_pairsOf [(2, 175), (0, l3)] F1 (0, n2) F2 ∧
     (s_le (i_sub l2 n2) n1 →
       ∃ m, m < n ∧ Rn m k_M_pivots 10 [(2, 175), (0, l1), (0, l2), (0, i_add l3 1)] [] F2 v F') ∧
      (s_lt n1 (i_sub l2 n2) →
       ∃ m, m < n ∧ Rn m k_M_pivots 10 [(2, 175), (0, i_or l1 (i_shl 1 l3)), (0, l2), (0, i_add l3 1)] [] F2 v F')) := by
  have t := q_ok cv_224 ap_224 (hd := [(10, [1, 1, 1, 1])]) h rfl rfl
  exact t
-- TurnNet.dearest()I
theorem c_T_dearest {F : fx_F} {v : fx_V} {F' : fx_F} (h : Cl k_T_dearest [(2, 2)] F v F') : ∃ n, Rn n k_T_dearest 0 [(2, 2), (3, 0), (3, 0), (3, 0), (3, 0)] [] F v F' := by
  obtain ⟨n, s, hs, h⟩ := h
  rw [sg_227] at hs
  cases hs
  exact ⟨n, h⟩
set_option maxRecDepth 40000 in
theorem q_T_dearest_0 {n : Nat} {F : fx_F} {v : fx_V} {F' : fx_F} (h : Rn n k_T_dearest 0 [(2, 2), (3, 0), (3, 0), (3, 0), (3, 0)] [] F v F') :
  ∃ m, m < n ∧ Rn m k_T_dearest 6 [(2, 2), (0, 4294967295), (0, 4294967295), (0, 0), (3, 0)] [] F v F' := by
  have t := q_ok cv_227 ap_227 (hd := [(6, [1, 1, 1, 1, 0])]) h rfl rfl
  exact t
set_option maxRecDepth 40000 in
theorem q_T_dearest_6 {n : Nat} {l1 l2 l3 : Nat} {F : fx_F} {v : fx_V} {F' : fx_F} (h : Rn n k_T_dearest 6 [(2, 2), (0, l1), (0, l2), (0, l3), (3, 0)] [] F v F') :
  (s_le (F 3 1) l3 →
   v = (0, l1) ∧ F' = F) ∧
  (s_lt l3 (F 3 1) →
   ((i_and (i_shr (F (F 2 13) 2) l3) 1) ≠ 1 →
     ∃ m, m < n ∧ Rn m k_T_dearest 6 [(2, 2), (0, l1), (0, l2), (0, i_add l3 1), (3, 0)] [] F v F') ∧
    ((i_and (i_shr (F (F 2 13) 2) l3) 1) = 1 →
     ∃ (n1 : Nat) (F1 : fx_F), Cl k_T_pairsWithoutWay [(2, 2), (0, F (F 2 13) 1), (0, i_and (F (F 2 13) 2) (i_xor (i_shl 1 l3) 4294967295))] F (0, n1) F1 ∧
      (s_le n1 l2 →
        ∃ m, m < n ∧ Rn m k_T_dearest 6 [(2, 2), (0, l1), (0, l2), (0, i_add l3 1), (3, 0)] [] F1 v F') ∧
       (s_lt l2 n1 →
        ∃ m, m < n ∧ Rn m k_T_dearest 6 [(2, 2), (0, l3), (0, n1), (0, i_add l3 1), (3, 0)] [] F1 v F'))) := by
  have t := q_ok cv_227 ap_227 (hd := [(6, [1, 1, 1, 1, 0])]) h rfl rfl
  exact t
-- TurnNet.entry(III)I
theorem c_T_entry {a1 a2 a3 : Nat} {F : fx_F} {v : fx_V} {F' : fx_F} (h : Cl k_T_entry [(2, 2), (0, a1), (0, a2), (0, a3)] F v F') : ∃ n, Rn n k_T_entry 0 [(2, 2), (0, a1), (0, a2), (0, a3)] [] F v F' := by
  obtain ⟨n, s, hs, h⟩ := h
  rw [sg_228] at hs
  cases hs
  exact ⟨n, h⟩
set_option maxRecDepth 40000 in
theorem q_T_entry_0 {n : Nat} {a1 a2 a3 : Nat} {F : fx_F} {v : fx_V} {F' : fx_F} (h : Rn n k_T_entry 0 [(2, 2), (0, a1), (0, a2), (0, a3)] [] F v F') :
  (s_lt a1 0 →
   v = (0, 4294967295) ∧ F' = F) ∧
  (s_le 0 a1 →
   (s_le (F 3 0) a1 →
     v = (0, 4294967295) ∧ F' = F) ∧
    (s_lt a1 (F 3 0) →
     (s_lt a2 0 →
       v = (0, 4294967295) ∧ F' = F) ∧
      (s_le 0 a2 →
       (s_le (F 3 0) a2 →
         v = (0, 4294967295) ∧ F' = F) ∧
        (s_lt a2 (F 3 0) →
         (s_lt a3 0 →
           v = (0, 4294967295) ∧ F' = F) ∧
          (s_le 0 a3 →
           (s_le a3 1 →
             ∃ F1 : fx_F, Cl k_Ro_seeTable [(2, 24), (0, F (F 2 13) 1), (0, F (F 2 13) 2)] F (2, 0) F1 ∧
              v = (0, F1 26 (i_add (i_add (i_mul a1 20) (i_mul 2 a2)) a3)) ∧ F' = F1) ∧
            (s_lt 1 a3 →
             v = (0, 4294967295) ∧ F' = F)))))) := by
  have t := q_ok cv_228 ap_228 (hd := []) h rfl rfl
  exact t
-- TurnNet.game(III)I
theorem c_T_game {a1 a2 a3 : Nat} {F : fx_F} {v : fx_V} {F' : fx_F} (h : Cl k_T_game [(2, 2), (0, a1), (0, a2), (0, a3)] F v F') : ∃ n, Rn n k_T_game 0 [(2, 2), (0, a1), (0, a2), (0, a3), (3, 0)] [] F v F' := by
  obtain ⟨n, s, hs, h⟩ := h
  rw [sg_229] at hs
  cases hs
  exact ⟨n, h⟩
set_option maxRecDepth 40000 in
theorem q_T_game_0 {n : Nat} {a1 a2 a3 : Nat} {F : fx_F} {v : fx_V} {F' : fx_F} (h : Rn n k_T_game 0 [(2, 2), (0, a1), (0, a2), (0, a3), (3, 0)] [] F v F') :
  ((F 3 0) = 0 →
   v = (0, 4294967295) ∧ F' = F) ∧
  ((F 3 0) ≠ 0 →
   (s_lt a1 0 →
     v = (0, 4294967295) ∧ F' = F) ∧
    (s_le 0 a1 →
     (s_lt 9999 a1 →
       v = (0, 4294967295) ∧ F' = F) ∧
      (s_le a1 9999 →
       (s_lt a2 1 →
         v = (0, 4294967295) ∧ F' = F) ∧
        (s_le 1 a2 →
         (s_le a2 60 →
           (s_lt a3 0 →
             v = (0, 4294967295) ∧ F' = F) ∧
            (s_le 0 a3 →
             (s_le a3 3 →
               ∃ F1 : fx_F, Cl k_St_copyFrom [(2, 153), (2, F 2 13)] F (2, 0) F1 ∧
                ∃ F2 : fx_F, Cl k_Ro_seeTable [(2, 24), (0, F1 153 1), (0, F1 153 2)] F1 (2, 0) F2 ∧
                 ∃ (n3 : Nat) (F3 : fx_F), Cl k_Tr_play [(2, 50), (2, 153), (2, 24), (0, a1), (0, a2)] (fu (fu F2 50 1 0) 50 2 0) (0, n3) F3 ∧
                  ((a3 < 0 ∨ 3 ≤ a3) →
                    v = (0, n3) ∧ F' = F3) ∧
                   ((a3 = 0 →
                    v = (0, i_sub (F3 153 3) (F3 (F3 2 13) 3)) ∧ F' = F3) ∧
                   ((a3 = 1 →
                    ∃ (n4 : Nat) (F4 : fx_F), Cl k_St_countPackets [(2, 153)] F3 (0, n4) F4 ∧
                     v = (0, n4) ∧ F' = F4) ∧
                   ((a3 = 2 →
                    v = (0, F3 50 2) ∧ F' = F3) ∧ True)))) ∧
              (s_lt 3 a3 →
               v = (0, 4294967295) ∧ F' = F))) ∧
          (s_lt 60 a2 →
           v = (0, 4294967295) ∧ F' = F))))) := by
  have t := q_ok cv_229 ap_229 (hd := []) h rfl rfl
  exact t
-- TurnNet.goSteps(LTurnNet$State;I)I
theorem c_T_goSteps {a1 a2 : Nat} {F : fx_F} {v : fx_V} {F' : fx_F} (h : Cl k_T_goSteps [(2, 2), (2, a1), (0, a2)] F v F') : ∃ n, Rn n k_T_goSteps 0 [(2, 2), (2, a1), (0, a2), (3, 0)] [] F v F' := by
  obtain ⟨n, s, hs, h⟩ := h
  rw [sg_230] at hs
  cases hs
  exact ⟨n, h⟩
set_option maxRecDepth 40000 in
theorem q_T_goSteps_0 {n : Nat} {a1 a2 : Nat} {F : fx_F} {v : fx_V} {F' : fx_F} (h : Rn n k_T_goSteps 0 [(2, 2), (2, a1), (0, a2), (3, 0)] [] F v F') :
  ∃ F1 : fx_F, Cl k_Ro_seeTable [(2, 24), (0, F a1 1), (0, F a1 2)] F (2, 0) F1 ∧
  ∃ m, m < n ∧ Rn m k_T_goSteps 24 [(2, 2), (2, a1), (0, a2), (0, 0)] [] (fu (fu F1 50 1 0) 50 2 0) v F' := by
  have t := q_ok cv_230 ap_230 (hd := [(24, [1, 1, 1, 1])]) h rfl rfl
  exact t
set_option maxRecDepth 40000 in
theorem q_T_goSteps_24 {n : Nat} {l1 l2 l3 : Nat} {F : fx_F} {v : fx_V} {F' : fx_F} (h : Rn n k_T_goSteps 24 [(2, 2), (2, l1), (0, l2), (0, l3)] [] F v F') :
  (s_le l2 l3 →
   v = (0, F 50 1) ∧ F' = F) ∧
  (s_lt l3 l2 →
   ∃ F1 : fx_F, Cl k_Tr_goStep [(2, 50), (2, l1), (2, 24)] F (2, 0) F1 ∧
    ∃ m, m < n ∧ Rn m k_T_goSteps 24 [(2, 2), (2, l1), (0, l2), (0, i_add l3 1)] [] F1 v F') := by
  have t := q_ok cv_230 ap_230 (hd := [(24, [1, 1, 1, 1])]) h rfl rfl
  exact t
-- TurnNet.heaviest(I)I
theorem c_T_heaviest {a1 : Nat} {F : fx_F} {v : fx_V} {F' : fx_F} (h : Cl k_T_heaviest [(2, 2), (0, a1)] F v F') : ∃ n, Rn n k_T_heaviest 0 [(2, 2), (0, a1), (3, 0)] [] F v F' := by
  obtain ⟨n, s, hs, h⟩ := h
  rw [sg_231] at hs
  cases hs
  exact ⟨n, h⟩
set_option maxRecDepth 40000 in
theorem q_T_heaviest_0 {n : Nat} {a1 : Nat} {F : fx_F} {v : fx_V} {F' : fx_F} (h : Rn n k_T_heaviest 0 [(2, 2), (0, a1), (3, 0)] [] F v F') :
  ((F 3 1) = 0 →
   v = (0, 4294967295) ∧ F' = F) ∧
  ((F 3 1) ≠ 0 →
   (s_lt a1 0 →
     v = (0, 4294967295) ∧ F' = F) ∧
    (s_le 0 a1 →
     (s_le a1 1 →
       ∃ F1 : fx_F, Cl k_Ro_seeTable [(2, 24), (0, F (F 2 13) 1), (0, F (F 2 13) 2)] F (2, 0) F1 ∧
        ∃ (n2 : Nat) (F2 : fx_F), Cl k_Ro_heaviestChannel [(2, 24)] F1 (0, n2) F2 ∧
         (a1 ≠ 0 →
           v = (0, F2 28 n2) ∧ F' = F2) ∧
          (a1 = 0 →
           v = (0, n2) ∧ F' = F2)) ∧
      (s_lt 1 a1 →
       v = (0, 4294967295) ∧ F' = F))) := by
  have t := q_ok cv_231 ap_231 (hd := []) h rfl rfl
  exact t
-- TurnNet.load(I)I
theorem c_T_load {a1 : Nat} {F : fx_F} {v : fx_V} {F' : fx_F} (h : Cl k_T_load [(2, 2), (0, a1)] F v F') : ∃ n, Rn n k_T_load 0 [(2, 2), (0, a1)] [] F v F' := by
  obtain ⟨n, s, hs, h⟩ := h
  rw [sg_232] at hs
  cases hs
  exact ⟨n, h⟩
set_option maxRecDepth 40000 in
theorem q_T_load_0 {n : Nat} {a1 : Nat} {F : fx_F} {v : fx_V} {F' : fx_F} (h : Rn n k_T_load 0 [(2, 2), (0, a1)] [] F v F') :
  (s_lt a1 0 →
   v = (0, 4294967295) ∧ F' = F) ∧
  (s_le 0 a1 →
   (s_le (i_mul 2 (F 3 1)) a1 →
     v = (0, 4294967295) ∧ F' = F) ∧
    (s_lt a1 (i_mul 2 (F 3 1)) →
     ∃ F1 : fx_F, Cl k_Ro_seeTable [(2, 24), (0, F (F 2 13) 1), (0, F (F 2 13) 2)] F (2, 0) F1 ∧
      v = (0, F1 28 a1) ∧ F' = F1)) := by
  have t := q_ok cv_232 ap_232 (hd := []) h rfl rfl
  exact t
-- TurnNet.packet(II)I
theorem c_T_packet {a1 a2 : Nat} {F : fx_F} {v : fx_V} {F' : fx_F} (h : Cl k_T_packet [(2, 2), (0, a1), (0, a2)] F v F') : ∃ n, Rn n k_T_packet 0 [(2, 2), (0, a1), (0, a2)] [] F v F' := by
  obtain ⟨n, s, hs, h⟩ := h
  rw [sg_233] at hs
  cases hs
  exact ⟨n, h⟩
set_option maxRecDepth 40000 in
theorem q_T_packet_0 {n : Nat} {a1 a2 : Nat} {F : fx_F} {v : fx_V} {F' : fx_F} (h : Rn n k_T_packet 0 [(2, 2), (0, a1), (0, a2)] [] F v F') :
  (s_lt a1 0 →
   v = (0, 4294967294) ∧ F' = F) ∧
  (s_le 0 a1 →
   (s_le 12 a1 →
     v = (0, 4294967294) ∧ F' = F) ∧
    (s_lt a1 12 →
     ((F ((F 2 13) + 1) a1) = 4294967295 →
       v = (0, 4294967294) ∧ F' = F) ∧
      ((F ((F 2 13) + 1) a1) ≠ 4294967295 →
       ((a2 < 0 ∨ 5 ≤ a2) →
         v = (0, 4294967294) ∧ F' = F) ∧
        ((a2 = 0 →
         v = (0, F ((F 2 13) + 1) a1) ∧ F' = F) ∧
        ((a2 = 1 →
         v = (0, F ((F 2 13) + 2) a1) ∧ F' = F) ∧
        ((a2 = 2 →
         v = (0, F ((F 2 13) + 3) a1) ∧ F' = F) ∧
        ((a2 = 3 →
         v = (0, F ((F 2 13) + 4) a1) ∧ F' = F) ∧
        ((a2 = 4 →
         ∃ F1 : fx_F, Cl k_Ro_seeTable [(2, 24), (0, F (F 2 13) 1), (0, F (F 2 13) 2)] F (2, 0) F1 ∧
          ((F1 ((F1 2 13) + 3) a1) = 4294967295 →
            v = (0, F1 26 (i_add (i_add (i_mul (F1 ((F1 2 13) + 2) a1) 20) (i_mul 2 (F1 ((F1 2 13) + 1) a1))) 0)) ∧ F' = F1) ∧
           ((F1 ((F1 2 13) + 3) a1) ≠ 4294967295 →
            ((i_and (i_shr (F1 (F1 2 13) 1) (i_shr (F1 ((F1 2 13) + 3) a1) 1)) 1) = (i_and (F1 ((F1 2 13) + 3) a1) 1) →
              v = (0, F1 26 (i_add (i_add (i_mul (F1 ((F1 2 13) + 2) a1) 20) (i_mul 2 (F1 ((F1 2 13) + 1) a1))) 1)) ∧ F' = F1) ∧
             ((i_and (i_shr (F1 (F1 2 13) 1) (i_shr (F1 ((F1 2 13) + 3) a1) 1)) 1) ≠ (i_and (F1 ((F1 2 13) + 3) a1) 1) →
              v = (0, F1 26 (i_add (i_add (i_mul (F1 ((F1 2 13) + 2) a1) 20) (i_mul 2 (F1 ((F1 2 13) + 1) a1))) 0)) ∧ F' = F1))) ∧ True)))))))) := by
  have t := q_ok cv_233 ap_233 (hd := []) h rfl rfl
  exact t
-- TurnNet.path(III)I
theorem c_T_path {a1 a2 a3 : Nat} {F : fx_F} {v : fx_V} {F' : fx_F} (h : Cl k_T_path [(2, 2), (0, a1), (0, a2), (0, a3)] F v F') : ∃ n, Rn n k_T_path 0 [(2, 2), (0, a1), (0, a2), (0, a3)] [] F v F' := by
  obtain ⟨n, s, hs, h⟩ := h
  rw [sg_234] at hs
  cases hs
  exact ⟨n, h⟩
set_option maxRecDepth 40000 in
theorem q_T_path_0 {n : Nat} {a1 a2 a3 : Nat} {F : fx_F} {v : fx_V} {F' : fx_F} (h : Rn n k_T_path 0 [(2, 2), (0, a1), (0, a2), (0, a3)] [] F v F') :
  (s_lt a1 0 →
   v = (0, 4294967295) ∧ F' = F) ∧
  (s_le 0 a1 →
   (s_le (F 3 0) a1 →
     v = (0, 4294967295) ∧ F' = F) ∧
    (s_lt a1 (F 3 0) →
     (s_lt a2 0 →
       v = (0, 4294967295) ∧ F' = F) ∧
      (s_le 0 a2 →
       (s_le (F 3 0) a2 →
         v = (0, 4294967295) ∧ F' = F) ∧
        (s_lt a2 (F 3 0) →
         (s_le 0 a3 →
           ∃ F1 : fx_F, Cl k_Ro_seeTable [(2, 24), (0, F (F 2 13) 1), (0, F (F 2 13) 2)] F (2, 0) F1 ∧
            ∃ (n2 : Nat) (F2 : fx_F), Cl k_Ro_channelOnPath [(2, 24), (0, a1), (0, a2), (0, a3)] F1 (0, n2) F2 ∧
             v = (0, n2) ∧ F' = F2) ∧
          (s_lt a3 0 →
           v = (0, 4294967295) ∧ F' = F))))) := by
  have t := q_ok cv_234 ap_234 (hd := []) h rfl rfl
  exact t
-- TurnNet.planFor(I)V
theorem c_T_planFor {a1 : Nat} {F : fx_F} {v : fx_V} {F' : fx_F} (h : Cl k_T_planFor [(2, 2), (0, a1)] F v F') : ∃ n, Rn n k_T_planFor 0 [(2, 2), (0, a1)] [] F v F' := by
  obtain ⟨n, s, hs, h⟩ := h
  rw [sg_235] at hs
  cases hs
  exact ⟨n, h⟩
set_option maxRecDepth 40000 in
theorem q_T_planFor_0 {n : Nat} {a1 : Nat} {F : fx_F} {v : fx_V} {F' : fx_F} (h : Rn n k_T_planFor 0 [(2, 2), (0, a1)] [] F v F') :
  ∃ (n1 : Nat) (F1 : fx_F), Cl k_T_upEndsBy [(2, 2), (0, a1)] F (0, n1) F1 ∧
  ∃ F2 : fx_F, Cl k_Pl_lay [(2, 48), (0, F (F 2 13) 1), (0, n1), (0, F1 (F1 2 13) 2)] F1 (2, 0) F2 ∧
   v = (2, 0) ∧ F' = F2 := by
  have t := q_ok cv_235 ap_235 (hd := []) h rfl rfl
  exact t
-- TurnNet.runEmpty()I
theorem c_T_runEmpty {F : fx_F} {v : fx_V} {F' : fx_F} (h : Cl k_T_runEmpty [(2, 2)] F v F') : ∃ n, Rn n k_T_runEmpty 0 [(2, 2), (3, 0), (3, 0)] [] F v F' := by
  obtain ⟨n, s, hs, h⟩ := h
  rw [sg_236] at hs
  cases hs
  exact ⟨n, h⟩
set_option maxRecDepth 40000 in
theorem q_T_runEmpty_0 {n : Nat} {F : fx_F} {v : fx_V} {F' : fx_F} (h : Rn n k_T_runEmpty 0 [(2, 2), (3, 0), (3, 0)] [] F v F') :
  ∃ F1 : fx_F, Cl k_Ro_seeTable [(2, 24), (0, F 153 1), (0, F 153 2)] F (2, 0) F1 ∧
  ∃ m, m < n ∧ Rn m k_T_runEmpty 30 [(2, 2), (0, 0), (3, 0)] [] (fu (fu F1 50 1 0) 50 2 0) v F' := by
  have t := q_ok cv_236 ap_236 (hd := [(30, [1, 1, 0])]) h rfl rfl
  exact t
set_option maxRecDepth 40000 in
theorem q_T_runEmpty_30 {n : Nat} {l1 : Nat} {F : fx_F} {v : fx_V} {F' : fx_F} (h : Rn n k_T_runEmpty 30 [(2, 2), (0, l1), (3, 0)] [] F v F') :
  (s_le 200 l1 →
   v = (0, 200) ∧ F' = F) ∧
  (s_lt l1 200 →
   ∃ (n1 : Nat) (F1 : fx_F), Cl k_St_countPackets [(2, 153)] F (0, n1) F1 ∧
    (n1 ≠ 0 →
      ∃ F2 : fx_F, Cl k_Tr_goStep [(2, 50), (2, 153), (2, 24)] F1 (2, 0) F2 ∧
       ((F2 50 1) ≠ (F 50 1) →
         ∃ m, m < n ∧ Rn m k_T_runEmpty 30 [(2, 2), (0, i_add l1 1), (3, 0)] [] F2 v F') ∧
        ((F2 50 1) = (F 50 1) →
         v = (0, 200) ∧ F' = F2)) ∧
     (n1 = 0 →
      v = (0, l1) ∧ F' = F1)) := by
  have t := q_ok cv_236 ap_236 (hd := [(30, [1, 1, 0])]) h rfl rfl
  exact t
-- TurnNet.through(III)J
theorem c_T_through {a1 a2 a3 : Nat} {F : fx_F} {v : fx_V} {F' : fx_F} (h : Cl k_T_through [(2, 2), (0, a1), (0, a2), (0, a3)] F v F') : ∃ n, Rn n k_T_through 0 [(2, 2), (0, a1), (0, a2), (0, a3)] [] F v F' := by
  obtain ⟨n, s, hs, h⟩ := h
  rw [sg_237] at hs
  cases hs
  exact ⟨n, h⟩
set_option maxRecDepth 40000 in
theorem q_T_through_0 {n : Nat} {a1 a2 a3 : Nat} {F : fx_F} {v : fx_V} {F' : fx_F} (h : Rn n k_T_through 0 [(2, 2), (0, a1), (0, a2), (0, a3)] [] F v F') :
  (s_lt a1 0 →
   v = (1, 18446744073709551615) ∧ F' = F) ∧
  (s_le 0 a1 →
   (s_le (F 3 0) a1 →
     v = (1, 18446744073709551615) ∧ F' = F) ∧
    (s_lt a1 (F 3 0) →
     (s_lt a2 0 →
       v = (1, 18446744073709551615) ∧ F' = F) ∧
      (s_le 0 a2 →
       (s_le (F 3 0) a2 →
         v = (1, 18446744073709551615) ∧ F' = F) ∧
        (s_lt a2 (F 3 0) →
         (s_lt a3 0 →
           v = (1, 18446744073709551615) ∧ F' = F) ∧
          (s_le 0 a3 →
           (s_le (i_mul 2 (F 3 1)) a3 →
             v = (1, 18446744073709551615) ∧ F' = F) ∧
            (s_lt a3 (i_mul 2 (F 3 1)) →
             ∃ F1 : fx_F, Cl k_Ro_see [(2, 24), (0, F (F 2 13) 1), (0, F (F 2 13) 2)] F (2, 0) F1 ∧
              ∃ (n2 : Nat) (F2 : fx_F), Cl k_Ro_countThrough [(2, 24), (0, a1), (0, a2), (0, a3)] F1 (1, n2) F2 ∧
               v = (1, n2) ∧ F' = F2)))))) := by
  have t := q_ok cv_237 ap_237 (hd := []) h rfl rfl
  exact t
-- TurnNet.ways(II)J
theorem c_T_ways {a1 a2 : Nat} {F : fx_F} {v : fx_V} {F' : fx_F} (h : Cl k_T_ways [(2, 2), (0, a1), (0, a2)] F v F') : ∃ n, Rn n k_T_ways 0 [(2, 2), (0, a1), (0, a2)] [] F v F' := by
  obtain ⟨n, s, hs, h⟩ := h
  rw [sg_238] at hs
  cases hs
  exact ⟨n, h⟩
set_option maxRecDepth 40000 in
theorem q_T_ways_0 {n : Nat} {a1 a2 : Nat} {F : fx_F} {v : fx_V} {F' : fx_F} (h : Rn n k_T_ways 0 [(2, 2), (0, a1), (0, a2)] [] F v F') :
  (s_lt a1 0 →
   v = (1, 18446744073709551615) ∧ F' = F) ∧
  (s_le 0 a1 →
   (s_le (F 3 0) a1 →
     v = (1, 18446744073709551615) ∧ F' = F) ∧
    (s_lt a1 (F 3 0) →
     (s_lt a2 0 →
       v = (1, 18446744073709551615) ∧ F' = F) ∧
      (s_le 0 a2 →
       (s_le (F 3 0) a2 →
         v = (1, 18446744073709551615) ∧ F' = F) ∧
        (s_lt a2 (F 3 0) →
         ∃ F1 : fx_F, Cl k_Ro_see [(2, 24), (0, F (F 2 13) 1), (0, F (F 2 13) 2)] F (2, 0) F1 ∧
          ∃ (n2 : Nat) (F2 : fx_F), Cl k_Ro_countWays [(2, 24), (0, a1), (0, a2)] F1 (1, n2) F2 ∧
           v = (1, n2) ∧ F' = F2)))) := by
  have t := q_ok cv_238 ap_238 (hd := []) h rfl rfl
  exact t
-- TurnNet.without(II)I
theorem c_T_without {a1 a2 : Nat} {F : fx_F} {v : fx_V} {F' : fx_F} (h : Cl k_T_without [(2, 2), (0, a1), (0, a2)] F v F') : ∃ n, Rn n k_T_without 0 [(2, 2), (0, a1), (0, a2), (3, 0), (3, 0)] [] F v F' := by
  obtain ⟨n, s, hs, h⟩ := h
  rw [sg_239] at hs
  cases hs
  exact ⟨n, h⟩
set_option maxRecDepth 40000 in
theorem q_T_without_0 {n : Nat} {a1 a2 : Nat} {F : fx_F} {v : fx_V} {F' : fx_F} (h : Rn n k_T_without 0 [(2, 2), (0, a1), (0, a2), (3, 0), (3, 0)] [] F v F') :
  (s_lt a1 0 →
   v = (0, 4294967295) ∧ F' = F) ∧
  (s_le 0 a1 →
   (s_le (F 3 1) a1 →
     v = (0, 4294967295) ∧ F' = F) ∧
    (s_lt a1 (F 3 1) →
     ((i_and (i_shr (F (F 2 13) 2) a1) 1) ≠ 1 →
       v = (0, 4294967295) ∧ F' = F) ∧
      ((i_and (i_shr (F (F 2 13) 2) a1) 1) = 1 →
       (a2 ≠ 0 →
         (a2 = 1 →
           ∃ F1 : fx_F, Cl k_Or_rate [(2, 19), (0, F (F 2 13) 0), (0, i_and (F (F 2 13) 2) (i_xor (i_shl 1 a1) 4294967295))] F (2, 0) F1 ∧
            ∃ (n2 : Nat) (F2 : fx_F), Cl k_Or_upEnds [(2, 19)] F1 (0, n2) F2 ∧
             (a2 ≠ 1 →
               ∃ (n3 : Nat) (F3 : fx_F), Cl k_I_bitCount [(0, i_xor n2 (F2 (F2 2 13) 1))] F2 (0, n3) F3 ∧
                v = (0, n3) ∧ F' = F3) ∧
              (a2 = 1 →
               ∃ (n3 : Nat) (F3 : fx_F), Cl k_T_pairsWithoutWay [(2, 2), (0, n2), (0, i_and (F (F 2 13) 2) (i_xor (i_shl 1 a1) 4294967295))] F2 (0, n3) F3 ∧
                v = (0, n3) ∧ F' = F3)) ∧
          (a2 ≠ 1 →
           (a2 = 2 →
             ∃ F1 : fx_F, Cl k_Or_rate [(2, 19), (0, F (F 2 13) 0), (0, i_and (F (F 2 13) 2) (i_xor (i_shl 1 a1) 4294967295))] F (2, 0) F1 ∧
              ∃ (n2 : Nat) (F2 : fx_F), Cl k_Or_upEnds [(2, 19)] F1 (0, n2) F2 ∧
               (a2 ≠ 1 →
                 ∃ (n3 : Nat) (F3 : fx_F), Cl k_I_bitCount [(0, i_xor n2 (F2 (F2 2 13) 1))] F2 (0, n3) F3 ∧
                  v = (0, n3) ∧ F' = F3) ∧
                (a2 = 1 →
                 ∃ (n3 : Nat) (F3 : fx_F), Cl k_T_pairsWithoutWay [(2, 2), (0, n2), (0, i_and (F (F 2 13) 2) (i_xor (i_shl 1 a1) 4294967295))] F2 (0, n3) F3 ∧
                  v = (0, n3) ∧ F' = F3)) ∧
            (a2 ≠ 2 →
             v = (0, 4294967295) ∧ F' = F))) ∧
        (a2 = 0 →
         ∃ (n1 : Nat) (F1 : fx_F), Cl k_T_pairsWithoutWay [(2, 2), (0, F (F 2 13) 1), (0, i_and (F (F 2 13) 2) (i_xor (i_shl 1 a1) 4294967295))] F (0, n1) F1 ∧
          v = (0, n1) ∧ F' = F1)))) := by
  have t := q_ok cv_239 ap_239 (hd := []) h rfl rfl
  exact t
-- TurnNet.worthOf(II)I
theorem c_T_worthOf {a1 a2 : Nat} {F : fx_F} {v : fx_V} {F' : fx_F} (h : Cl k_T_worthOf [(2, 2), (0, a1), (0, a2)] F v F') : ∃ n, Rn n k_T_worthOf 0 [(2, 2), (0, a1), (0, a2), (3, 0)] [] F v F' := by
  obtain ⟨n, s, hs, h⟩ := h
  rw [sg_240] at hs
  cases hs
  exact ⟨n, h⟩
set_option maxRecDepth 40000 in
theorem q_T_worthOf_0 {n : Nat} {a1 a2 : Nat} {F : fx_F} {v : fx_V} {F' : fx_F} (h : Rn n k_T_worthOf 0 [(2, 2), (0, a1), (0, a2), (3, 0)] [] F v F') :
  ∃ (n1 : Nat) (F1 : fx_F), Cl k_T_upEndsBy [(2, 2), (0, a1)] F (0, n1) F1 ∧
  (a2 ≠ 0 →
    (a2 ≠ 1 →
      ((F1 3 1) ≠ 0 →
        ∃ F2 : fx_F, Cl k_Ro_seeTable [(2, 32), (0, n1), (0, F1 (F1 2 13) 2)] F1 (2, 0) F2 ∧
         ∃ (n3 : Nat) (F3 : fx_F), Cl k_Ro_heaviestChannel [(2, 32)] F2 (0, n3) F3 ∧
          v = (0, F3 36 n3) ∧ F' = F3) ∧
       ((F1 3 1) = 0 →
        v = (0, 0) ∧ F' = F1)) ∧
     (a2 = 1 →
      ∃ F2 : fx_F, Cl k_Ro_see [(2, 32), (0, n1), (0, F1 (F1 2 13) 2)] F1 (2, 0) F2 ∧
       ∃ (n3 : Nat) (F3 : fx_F), Cl k_Ro_hopsTogether [(2, 32)] F2 (0, n3) F3 ∧
        v = (0, n3) ∧ F' = F3)) ∧
   (a2 = 0 →
    ∃ (n2 : Nat) (F2 : fx_F), Cl k_T_pairsWithoutWay [(2, 2), (0, n1), (0, F1 (F1 2 13) 2)] F1 (0, n2) F2 ∧
     v = (0, n2) ∧ F' = F2) := by
  have t := q_ok cv_240 ap_240 (hd := []) h rfl rfl
  exact t
-- TurnNetModel.isLawful(II)Z
theorem c_M_isLawful {a1 a2 : Nat} {F : fx_F} {v : fx_V} {F' : fx_F} (h : Cl k_M_isLawful [(2, 175), (0, a1), (0, a2)] F v F') : ∃ n, Rn n k_M_isLawful 0 [(2, 175), (0, a1), (0, a2)] [] F v F' := by
  obtain ⟨n, s, hs, h⟩ := h
  rw [sg_241] at hs
  cases hs
  exact ⟨n, h⟩
set_option maxRecDepth 40000 in
theorem q_M_isLawful_0 {n : Nat} {a1 a2 : Nat} {F : fx_F} {v : fx_V} {F' : fx_F} (h : Rn n k_M_isLawful 0 [(2, 175), (0, a1), (0, a2)] [] F v F') :
  ∃ (n1 : Nat) (F1 : fx_F), Cl k_M_isTurn [(2, 175), (0, a1), (0, a2), (0, F 176 (i_add 20 (i_div a1 2))), (0, F 176 (i_add 20 (i_div a2 2)))] F (0, n1) F1 ∧
  v = (0, n1) ∧ F' = F1 := by
  have t := q_ok cv_241 ap_241 (hd := []) h rfl rfl
  exact t
-- TurnNetModel.isOpen(II)Z
theorem c_M_isOpen {a1 a2 : Nat} {F : fx_F} {v : fx_V} {F' : fx_F} (h : Cl k_M_isOpen [(2, 175), (0, a1), (0, a2)] F v F') : ∃ n, Rn n k_M_isOpen 0 [(2, 175), (0, a1), (0, a2)] [] F v F' := by
  obtain ⟨n, s, hs, h⟩ := h
  rw [sg_242] at hs
  cases hs
  exact ⟨n, h⟩
set_option maxRecDepth 40000 in
theorem q_M_isOpen_0 {n : Nat} {a1 a2 : Nat} {F : fx_F} {v : fx_V} {F' : fx_F} (h : Rn n k_M_isOpen 0 [(2, 175), (0, a1), (0, a2)] [] F v F') :
  ((F 176 (i_add 0 (i_div a1 2))) ≠ 1 →
   v = (0, 0) ∧ F' = F) ∧
  ((F 176 (i_add 0 (i_div a1 2))) = 1 →
   (a2 = 0 →
     v = (0, 1) ∧ F' = F) ∧
    (a2 ≠ 0 →
     ((F 183 (i_add (i_add (i_mul 40 (F 175 9)) (i_mul 2 (i_div a1 2))) (i_sub 1 (i_rem a1 2)))) ≠ (F 176 (i_add 20 (i_div a1 2))) →
       v = (0, 1) ∧ F' = F) ∧
      ((F 183 (i_add (i_add (i_mul 40 (F 175 9)) (i_mul 2 (i_div a1 2))) (i_sub 1 (i_rem a1 2)))) = (F 176 (i_add 20 (i_div a1 2))) →
       v = (0, 0) ∧ F' = F))) := by
  have t := q_ok cv_242 ap_242 (hd := []) h rfl rfl
  exact t
-- TurnNetModel.node(II)I
theorem c_M_node {a1 a2 : Nat} {F : fx_F} {v : fx_V} {F' : fx_F} (h : Cl k_M_node [(2, 175), (0, a1), (0, a2)] F v F') : ∃ n, Rn n k_M_node 0 [(2, 175), (0, a1), (0, a2)] [] F v F' := by
  obtain ⟨n, s, hs, h⟩ := h
  rw [sg_243] at hs
  cases hs
  exact ⟨n, h⟩
set_option maxRecDepth 40000 in
theorem q_M_node_0 {n : Nat} {a1 a2 : Nat} {F : fx_F} {v : fx_V} {F' : fx_F} (h : Rn n k_M_node 0 [(2, 175), (0, a1), (0, a2)] [] F v F') :
  (s_lt a1 0 →
   v = (0, 4294967294) ∧ F' = F) ∧
  (s_le 0 a1 →
   (s_lt (i_sub (F 177 (F 175 9)) 1) a1 →
     v = (0, 4294967294) ∧ F' = F) ∧
    (s_le a1 (i_sub (F 177 (F 175 9)) 1) →
     ∃ F1 : fx_F, Cl k_M_layRanks [(2, 175), (0, F 176 40)] F (2, 0) F1 ∧
      ((a2 < 0 ∨ 5 ≤ a2) →
        v = (0, 4294967294) ∧ F' = F1) ∧
       ((a2 = 0 →
        v = (0, F1 188 a1) ∧ F' = F1) ∧
       ((a2 = 1 →
        v = (0, F1 189 a1) ∧ F' = F1) ∧
       ((a2 = 2 →
        ∃ (n2 : Nat) (F2 : fx_F), Cl k_M_linksOf [(2, 175), (0, a1)] F1 (0, n2) F2 ∧
         v = (0, n2) ∧ F' = F2) ∧
       ((a2 = 3 →
        ∃ (n2 : Nat) (F2 : fx_F), Cl k_M_aboveOf [(2, 175), (0, a1)] F1 (0, n2) F2 ∧
         v = (0, n2) ∧ F' = F2) ∧
       ((a2 = 4 →
        ∃ (n2 : Nat) (F2 : fx_F), Cl k_M_packetsAt [(2, 175), (0, a1)] F1 (0, n2) F2 ∧
         v = (0, n2) ∧ F' = F2) ∧ True))))))) := by
  have t := q_ok cv_243 ap_243 (hd := []) h rfl rfl
  exact t
-- TurnNetModel.orientBy(I)V
theorem c_M_orientBy {a1 : Nat} {F : fx_F} {v : fx_V} {F' : fx_F} (h : Cl k_M_orientBy [(2, 175), (0, a1)] F v F') : ∃ n, Rn n k_M_orientBy 0 [(2, 175), (0, a1), (3, 0)] [] F v F' := by
  obtain ⟨n, s, hs, h⟩ := h
  rw [sg_244] at hs
  cases hs
  exact ⟨n, h⟩
set_option maxRecDepth 40000 in
theorem q_M_orientBy_0 {n : Nat} {a1 : Nat} {F : fx_F} {v : fx_V} {F' : fx_F} (h : Rn n k_M_orientBy 0 [(2, 175), (0, a1), (3, 0)] [] F v F') :
  ∃ F1 : fx_F, Cl k_M_layRanks [(2, 175), (0, a1)] F (2, 0) F1 ∧
  ∃ m, m < n ∧ Rn m k_M_orientBy 7 [(2, 175), (3, 0), (0, 0)] [] F1 v F' := by
  have t := q_ok cv_244 ap_244 (hd := [(7, [1, 0, 1])]) h rfl rfl
  exact t
set_option maxRecDepth 40000 in
theorem q_M_orientBy_7 {n : Nat} {l2 : Nat} {F : fx_F} {v : fx_V} {F' : fx_F} (h : Rn n k_M_orientBy 7 [(2, 175), (3, 0), (0, l2)] [] F v F') :
  (s_le (F 178 (F 175 9)) l2 →
   v = (2, 0) ∧ F' = F) ∧
  (s_lt l2 (F 178 (F 175 9)) →
   (s_lt (F 189 (F 183 (i_add (i_add (i_mul 40 (F 175 9)) (i_mul 2 l2)) 0))) (F 189 (F 183 (i_add (i_add (i_mul 40 (F 175 9)) (i_mul 2 l2)) 1))) →
     ∃ m, m < n ∧ Rn m k_M_orientBy 7 [(2, 175), (3, 0), (0, i_add l2 1)] [] (fu F 190 l2 (F 183 (i_add (i_add (i_mul 40 (F 175 9)) (i_mul 2 l2)) 0))) v F') ∧
    (s_le (F 189 (F 183 (i_add (i_add (i_mul 40 (F 175 9)) (i_mul 2 l2)) 1))) (F 189 (F 183 (i_add (i_add (i_mul 40 (F 175 9)) (i_mul 2 l2)) 0))) →
     ((F 189 (F 183 (i_add (i_add (i_mul 40 (F 175 9)) (i_mul 2 l2)) 0))) ≠ (F 189 (F 183 (i_add (i_add (i_mul 40 (F 175 9)) (i_mul 2 l2)) 1))) →
       ∃ m, m < n ∧ Rn m k_M_orientBy 7 [(2, 175), (3, 0), (0, i_add l2 1)] [] (fu F 190 l2 (F 183 (i_add (i_add (i_mul 40 (F 175 9)) (i_mul 2 l2)) 1))) v F') ∧
      ((F 189 (F 183 (i_add (i_add (i_mul 40 (F 175 9)) (i_mul 2 l2)) 0))) = (F 189 (F 183 (i_add (i_add (i_mul 40 (F 175 9)) (i_mul 2 l2)) 1))) →
       (s_le (F 183 (i_add (i_add (i_mul 40 (F 175 9)) (i_mul 2 l2)) 1)) (F 183 (i_add (i_add (i_mul 40 (F 175 9)) (i_mul 2 l2)) 0)) →
         ∃ m, m < n ∧ Rn m k_M_orientBy 7 [(2, 175), (3, 0), (0, i_add l2 1)] [] (fu F 190 l2 (F 183 (i_add (i_add (i_mul 40 (F 175 9)) (i_mul 2 l2)) 1))) v F') ∧
        (s_lt (F 183 (i_add (i_add (i_mul 40 (F 175 9)) (i_mul 2 l2)) 0)) (F 183 (i_add (i_add (i_mul 40 (F 175 9)) (i_mul 2 l2)) 1)) →
         ∃ m, m < n ∧ Rn m k_M_orientBy 7 [(2, 175), (3, 0), (0, i_add l2 1)] [] (fu F 190 l2 (F 183 (i_add (i_add (i_mul 40 (F 175 9)) (i_mul 2 l2)) 0))) v F')))) := by
  have t := q_ok cv_244 ap_244 (hd := [(7, [1, 0, 1])]) h rfl rfl
  exact t
-- TurnNetModel.pathAt(III)I
theorem c_M_pathAt {a1 a2 a3 : Nat} {F : fx_F} {v : fx_V} {F' : fx_F} (h : Cl k_M_pathAt [(2, 175), (0, a1), (0, a2), (0, a3)] F v F') : ∃ n, Rn n k_M_pathAt 0 [(2, 175), (0, a1), (0, a2), (0, a3), (3, 0), (3, 0), (3, 0), (3, 0)] [] F v F' := by
  obtain ⟨n, s, hs, h⟩ := h
  rw [sg_245] at hs
  cases hs
  exact ⟨n, h⟩
set_option maxRecDepth 40000 in
theorem q_M_pathAt_0 {n : Nat} {a1 a2 a3 : Nat} {F : fx_F} {v : fx_V} {F' : fx_F} (h : Rn n k_M_pathAt 0 [(2, 175), (0, a1), (0, a2), (0, a3), (3, 0), (3, 0), (3, 0), (3, 0)] [] F v F') :
  ∃ m, m < n ∧ Rn m k_M_pathAt 24 [(2, 175), (3, 0), (0, a2), (0, a3), (3, 0), (0, 0), (0, F 196 (i_add (i_add (i_mul 20 a2) (i_mul 2 a1)) 0)), (0, 0)] [] F v F' := by
  have t := q_ok cv_245 ap_245 (hd := [(24, [1, 0, 1, 1, 0, 1, 1, 1])]) h rfl rfl
  exact t
set_option maxRecDepth 40000 in
theorem q_M_pathAt_24 {n : Nat} {l2 l3 l5 l6 l7 : Nat} {F : fx_F} {v : fx_V} {F' : fx_F} (h : Rn n k_M_pathAt 24 [(2, 175), (3, 0), (0, l2), (0, l3), (3, 0), (0, l5), (0, l6), (0, l7)] [] F v F') :
  (s_le l3 l7 →
   v = (0, l6) ∧ F' = F) ∧
  (s_lt l7 l3 →
   (s_lt l6 0 →
     v = (0, l6) ∧ F' = F) ∧
    (s_le 0 l6 →
     ((F 183 (i_add (i_add (i_mul 40 (F 175 9)) (i_mul 2 (i_div l6 2))) (i_sub 1 (i_rem l6 2)))) ≠ (F 176 (i_add 20 (i_div l6 2))) →
       (l5 = 1 →
         ((F 183 (i_add (i_add (i_mul 40 (F 175 9)) (i_mul 2 (i_div l6 2))) (i_sub 1 (i_rem l6 2)))) ≠ l2 →
           ∃ m, m < n ∧ Rn m k_M_pathAt 24 [(2, 175), (3, 0), (0, l2), (0, l3), (3, 0), (0, 1), (0, F 196 (i_add (i_add (i_mul 20 l2) (i_mul 2 (F 183 (i_add (i_add (i_mul 40 (F 175 9)) (i_mul 2 (i_div l6 2))) (i_sub 1 (i_rem l6 2)))))) 1)), (0, i_add l7 1)] [] F v F') ∧
          ((F 183 (i_add (i_add (i_mul 40 (F 175 9)) (i_mul 2 (i_div l6 2))) (i_sub 1 (i_rem l6 2)))) = l2 →
           ∃ m, m < n ∧ Rn m k_M_pathAt 24 [(2, 175), (3, 0), (0, l2), (0, l3), (3, 0), (0, 1), (0, 4294967295), (0, i_add l7 1)] [] F v F')) ∧
        (l5 ≠ 1 →
         ((F 183 (i_add (i_add (i_mul 40 (F 175 9)) (i_mul 2 (i_div l6 2))) (i_sub 1 (i_rem l6 2)))) ≠ l2 →
           ∃ m, m < n ∧ Rn m k_M_pathAt 24 [(2, 175), (3, 0), (0, l2), (0, l3), (3, 0), (0, 1), (0, F 196 (i_add (i_add (i_mul 20 l2) (i_mul 2 (F 183 (i_add (i_add (i_mul 40 (F 175 9)) (i_mul 2 (i_div l6 2))) (i_sub 1 (i_rem l6 2)))))) 1)), (0, i_add l7 1)] [] F v F') ∧
          ((F 183 (i_add (i_add (i_mul 40 (F 175 9)) (i_mul 2 (i_div l6 2))) (i_sub 1 (i_rem l6 2)))) = l2 →
           ∃ m, m < n ∧ Rn m k_M_pathAt 24 [(2, 175), (3, 0), (0, l2), (0, l3), (3, 0), (0, 1), (0, 4294967295), (0, i_add l7 1)] [] F v F'))) ∧
      ((F 183 (i_add (i_add (i_mul 40 (F 175 9)) (i_mul 2 (i_div l6 2))) (i_sub 1 (i_rem l6 2)))) = (F 176 (i_add 20 (i_div l6 2))) →
       (l5 = 1 →
         ((F 183 (i_add (i_add (i_mul 40 (F 175 9)) (i_mul 2 (i_div l6 2))) (i_sub 1 (i_rem l6 2)))) ≠ l2 →
           ∃ m, m < n ∧ Rn m k_M_pathAt 24 [(2, 175), (3, 0), (0, l2), (0, l3), (3, 0), (0, 1), (0, F 196 (i_add (i_add (i_mul 20 l2) (i_mul 2 (F 183 (i_add (i_add (i_mul 40 (F 175 9)) (i_mul 2 (i_div l6 2))) (i_sub 1 (i_rem l6 2)))))) 1)), (0, i_add l7 1)] [] F v F') ∧
          ((F 183 (i_add (i_add (i_mul 40 (F 175 9)) (i_mul 2 (i_div l6 2))) (i_sub 1 (i_rem l6 2)))) = l2 →
           ∃ m, m < n ∧ Rn m k_M_pathAt 24 [(2, 175), (3, 0), (0, l2), (0, l3), (3, 0), (0, 1), (0, 4294967295), (0, i_add l7 1)] [] F v F')) ∧
        (l5 ≠ 1 →
         ((F 183 (i_add (i_add (i_mul 40 (F 175 9)) (i_mul 2 (i_div l6 2))) (i_sub 1 (i_rem l6 2)))) ≠ l2 →
           ∃ m, m < n ∧ Rn m k_M_pathAt 24 [(2, 175), (3, 0), (0, l2), (0, l3), (3, 0), (0, 0), (0, F 196 (i_add (i_add (i_mul 20 l2) (i_mul 2 (F 183 (i_add (i_add (i_mul 40 (F 175 9)) (i_mul 2 (i_div l6 2))) (i_sub 1 (i_rem l6 2)))))) 0)), (0, i_add l7 1)] [] F v F') ∧
          ((F 183 (i_add (i_add (i_mul 40 (F 175 9)) (i_mul 2 (i_div l6 2))) (i_sub 1 (i_rem l6 2)))) = l2 →
           ∃ m, m < n ∧ Rn m k_M_pathAt 24 [(2, 175), (3, 0), (0, l2), (0, l3), (3, 0), (0, 0), (0, 4294967295), (0, i_add l7 1)] [] F v F'))))) := by
  have t := q_ok cv_245 ap_245 (hd := [(24, [1, 0, 1, 1, 0, 1, 1, 1])]) h rfl rfl
  exact t
-- TurnNetModel.wayOf(I)I
theorem c_M_wayOf {a1 : Nat} {F : fx_F} {v : fx_V} {F' : fx_F} (h : Cl k_M_wayOf [(2, 175), (0, a1)] F v F') : ∃ n, Rn n k_M_wayOf 0 [(2, 175), (0, a1), (3, 0)] [] F v F' := by
  obtain ⟨n, s, hs, h⟩ := h
  rw [sg_247] at hs
  cases hs
  exact ⟨n, h⟩
set_option maxRecDepth 40000 in
theorem q_M_wayOf_0 {n : Nat} {a1 : Nat} {F : fx_F} {v : fx_V} {F' : fx_F} (h : Rn n k_M_wayOf 0 [(2, 175), (0, a1), (3, 0)] [] F v F') :
  ((F 176 (i_add 65 a1)) ≠ (F 176 (i_add 53 a1)) →
   (s_lt (F 176 (i_add 77 a1)) 0 →
     v = (0, F 196 (i_add (i_add (i_mul 20 (F 176 (i_add 53 a1))) (i_mul 2 (F 176 (i_add 65 a1)))) 0)) ∧ F' = F) ∧
    (s_le 0 (F 176 (i_add 77 a1)) →
     ((F 183 (i_add (i_add (i_mul 40 (F 175 9)) (i_mul 2 (i_div (F 176 (i_add 77 a1)) 2))) (i_sub 1 (i_rem (F 176 (i_add 77 a1)) 2)))) ≠ (F 176 (i_add 20 (i_div (F 176 (i_add 77 a1)) 2))) →
       v = (0, F 196 (i_add (i_add (i_mul 20 (F 176 (i_add 53 a1))) (i_mul 2 (F 176 (i_add 65 a1)))) 1)) ∧ F' = F) ∧
      ((F 183 (i_add (i_add (i_mul 40 (F 175 9)) (i_mul 2 (i_div (F 176 (i_add 77 a1)) 2))) (i_sub 1 (i_rem (F 176 (i_add 77 a1)) 2)))) = (F 176 (i_add 20 (i_div (F 176 (i_add 77 a1)) 2))) →
       v = (0, F 196 (i_add (i_add (i_mul 20 (F 176 (i_add 53 a1))) (i_mul 2 (F 176 (i_add 65 a1)))) 0)) ∧ F' = F))) ∧
  ((F 176 (i_add 65 a1)) = (F 176 (i_add 53 a1)) →
   v = (0, 4294967295) ∧ F' = F) := by
  have t := q_ok cv_247 ap_247 (hd := []) h rfl rfl
  exact t
end
section
-- TurnNet.best(I)I
theorem c_T_best {a1 : Nat} {F : fx_F} {v : fx_V} {F' : fx_F} (h : Cl k_T_best [(2, 2), (0, a1)] F v F') : ∃ n, Rn n k_T_best 0 [(2, 2), (0, a1), (3, 0), (3, 0), (3, 0), (3, 0)] [] F v F' := by
  obtain ⟨n, s, hs, h⟩ := h
  rw [sg_248] at hs
  cases hs
  exact ⟨n, h⟩
set_option maxRecDepth 40000 in
theorem q_T_best_0 {n : Nat} {a1 : Nat} {F : fx_F} {v : fx_V} {F' : fx_F} (h : Rn n k_T_best 0 [(2, 2), (0, a1), (3, 0), (3, 0), (3, 0), (3, 0)] [] F v F') :
  ((F 3 0) = 0 →
   v = (0, 4294967295) ∧ F' = F) ∧
  ((F 3 0) ≠ 0 →
   (s_lt a1 0 →
     v = (0, 4294967295) ∧ F' = F) ∧
    (s_le 0 a1 →
     (s_le a1 2 →
       ∃ (n1 : Nat) (F1 : fx_F), Cl k_T_worthOf [(2, 2), (0, 0), (0, a1)] F (0, n1) F1 ∧
        ∃ m, m < n ∧ Rn m k_T_best 33 [(2, 2), (0, a1), (0, 0), (0, n1), (0, 1), (3, 0)] [] F1 v F') ∧
      (s_lt 2 a1 →
       v = (0, 4294967295) ∧ F' = F))) := by
  have t := q_ok cv_248 ap_248 (hd := [(33, [1, 1, 1, 1, 1, 0])]) h rfl rfl
  exact t
set_option maxRecDepth 40000 in
theorem q_T_best_33 {n : Nat} {l1 l2 l3 l4 : Nat} {F : fx_F} {v : fx_V} {F' : fx_F} (h : Rn n k_T_best 33 [(2, 2), (0, l1), (0, l2), (0, l3), (0, l4), (3, 0)] [] F v F') :
  (s_le (F 3 0) l4 →
   v = (0, l2) ∧ F' = F) ∧
  (s_lt l4 (F 3 0) →
   ∃ (n1 : Nat) (F1 : fx_F), Cl k_T_worthOf [(2, 2), (0, l4), (0, l1)] F (0, n1) F1 ∧
    (s_le l3 n1 →
      ∃ m, m < n ∧ Rn m k_T_best 33 [(2, 2), (0, l1), (0, l2), (0, l3), (0, i_add l4 1), (3, 0)] [] F1 v F') ∧
     (s_lt n1 l3 →
      ∃ m, m < n ∧ Rn m k_T_best 33 [(2, 2), (0, l1), (0, l4), (0, n1), (0, i_add l4 1), (3, 0)] [] F1 v F')) := by
  have t := q_ok cv_248 ap_248 (hd := [(33, [1, 1, 1, 1, 1, 0])]) h rfl rfl
  exact t
-- TurnNet.change(II)I
theorem c_T_change {a1 a2 : Nat} {F : fx_F} {v : fx_V} {F' : fx_F} (h : Cl k_T_change [(2, 2), (0, a1), (0, a2)] F v F') : ∃ n, Rn n k_T_change 0 [(2, 2), (0, a1), (0, a2), (3, 0)] [] F v F' := by
  obtain ⟨n, s, hs, h⟩ := h
  rw [sg_249] at hs
  cases hs
  exact ⟨n, h⟩
set_option maxRecDepth 40000 in
theorem q_T_change_0 {n : Nat} {a1 a2 : Nat} {F : fx_F} {v : fx_V} {F' : fx_F} (h : Rn n k_T_change 0 [(2, 2), (0, a1), (0, a2), (3, 0)] [] F v F') :
  (s_lt a1 0 →
   v = (0, 4294967295) ∧ F' = F) ∧
  (s_le 0 a1 →
   (s_le (F 3 0) a1 →
     v = (0, 4294967295) ∧ F' = F) ∧
    (s_lt a1 (F 3 0) →
     (s_lt a2 0 →
       v = (0, 4294967295) ∧ F' = F) ∧
      (s_le 0 a2 →
       (s_le a2 20 →
         ∃ F1 : fx_F, Cl k_T_planFor [(2, 2), (0, a1)] F (2, 0) F1 ∧
          (s_le 0 (F1 48 4) →
            ∃ F2 : fx_F, Cl k_Hi_keep [(2, 51), (2, F1 2 13)] F1 (2, 0) F2 ∧
             ∃ m, m < n ∧ Rn m k_T_change 54 [(2, 2), (0, a1), (0, a2), (0, 0)] [] F2 v F') ∧
           (s_lt (F1 48 4) 0 →
            v = (0, 4294967294) ∧ F' = F1)) ∧
        (s_lt 20 a2 →
         v = (0, 4294967295) ∧ F' = F)))) := by
  have t := q_ok cv_249 ap_249 (hd := [(54, [1, 1, 1, 1])]) h rfl rfl
  exact t
set_option maxRecDepth 40000 in
theorem q_T_change_54 {n : Nat} {l1 l2 l3 : Nat} {F : fx_F} {v : fx_V} {F' : fx_F} (h : Rn n k_T_change 54 [(2, 2), (0, l1), (0, l2), (0, l3)] [] F v F') :
  (s_le (F 48 4) l3 →
   v = (0, (fu F (F 2 13) 0 l1) 48 4) ∧ F' = (fu F (F 2 13) 0 l1)) ∧
  (s_lt l3 (F 48 4) →
   (s_lt l3 0 →
     ∃ (n1 : Nat) (F1 : fx_F), Cl k_T_goSteps [(2, 2), (2, (fu F (F 2 13) 1 (i_xor (F (F 2 13) 1) 0)) 2 13), (0, l2)] (fu F (F 2 13) 1 (i_xor (F (F 2 13) 1) 0)) (0, n1) F1 ∧
      ∃ m, m < n ∧ Rn m k_T_change 54 [(2, 2), (0, l1), (0, l2), (0, i_add l3 1)] [] F1 v F') ∧
    (s_le 0 l3 →
     (s_le (F 48 4) l3 →
       ∃ (n1 : Nat) (F1 : fx_F), Cl k_T_goSteps [(2, 2), (2, (fu F (F 2 13) 1 (i_xor (F (F 2 13) 1) 0)) 2 13), (0, l2)] (fu F (F 2 13) 1 (i_xor (F (F 2 13) 1) 0)) (0, n1) F1 ∧
        ∃ m, m < n ∧ Rn m k_T_change 54 [(2, 2), (0, l1), (0, l2), (0, i_add l3 1)] [] F1 v F') ∧
      (s_lt l3 (F 48 4) →
       ∃ (n1 : Nat) (F1 : fx_F), Cl k_T_goSteps [(2, 2), (2, (fu F (F 2 13) 1 (i_xor (F (F 2 13) 1) (F 49 l3))) 2 13), (0, l2)] (fu F (F 2 13) 1 (i_xor (F (F 2 13) 1) (F 49 l3))) (0, n1) F1 ∧
        ∃ m, m < n ∧ Rn m k_T_change 54 [(2, 2), (0, l1), (0, l2), (0, i_add l3 1)] [] F1 v F'))) := by
  have t := q_ok cv_249 ap_249 (hd := [(54, [1, 1, 1, 1])]) h rfl rfl
  exact t
-- TurnNet.drains()I
theorem c_T_drains {F : fx_F} {v : fx_V} {F' : fx_F} (h : Cl k_T_drains [(2, 2)] F v F') : ∃ n, Rn n k_T_drains 0 [(2, 2), (3, 0)] [] F v F' := by
  obtain ⟨n, s, hs, h⟩ := h
  rw [sg_250] at hs
  cases hs
  exact ⟨n, h⟩
set_option maxRecDepth 40000 in
theorem q_T_drains_0 {n : Nat} {F : fx_F} {v : fx_V} {F' : fx_F} (h : Rn n k_T_drains 0 [(2, 2), (3, 0)] [] F v F') :
  ∃ F1 : fx_F, Cl k_St_copyFrom [(2, 153), (2, F 2 13)] F (2, 0) F1 ∧
  ∃ (n2 : Nat) (F2 : fx_F), Cl k_T_runEmpty [(2, 2)] F1 (0, n2) F2 ∧
   ∃ (n3 : Nat) (F3 : fx_F), Cl k_St_countPackets [(2, 153)] F2 (0, n3) F3 ∧
    (n3 ≠ 0 →
      v = (0, 4294967295) ∧ F' = F3) ∧
     (n3 = 0 →
      v = (0, n2) ∧ F' = F3) := by
  have t := q_ok cv_250 ap_250 (hd := []) h rfl rfl
  exact t
-- TurnNet.phase(II)I
theorem c_T_phase {a1 a2 : Nat} {F : fx_F} {v : fx_V} {F' : fx_F} (h : Cl k_T_phase [(2, 2), (0, a1), (0, a2)] F v F') : ∃ n, Rn n k_T_phase 0 [(2, 2), (0, a1), (0, a2)] [] F v F' := by
  obtain ⟨n, s, hs, h⟩ := h
  rw [sg_251] at hs
  cases hs
  exact ⟨n, h⟩
set_option maxRecDepth 40000 in
theorem q_T_phase_0 {n : Nat} {a1 a2 : Nat} {F : fx_F} {v : fx_V} {F' : fx_F} (h : Rn n k_T_phase 0 [(2, 2), (0, a1), (0, a2)] [] F v F') :
  (s_lt a1 0 →
   v = (0, 4294967295) ∧ F' = F) ∧
  (s_le 0 a1 →
   (s_le (F 3 0) a1 →
     v = (0, 4294967295) ∧ F' = F) ∧
    (s_lt a1 (F 3 0) →
     (s_lt a2 0 →
       v = (0, 4294967295) ∧ F' = F) ∧
      (s_le 0 a2 →
       (s_le (F 3 1) a2 →
         v = (0, 4294967295) ∧ F' = F) ∧
        (s_lt a2 (F 3 1) →
         ∃ F1 : fx_F, Cl k_T_planFor [(2, 2), (0, a1)] F (2, 0) F1 ∧
          ∃ (n2 : Nat) (F2 : fx_F), Cl k_Pl_phaseOf [(2, 48), (0, a2)] F1 (0, n2) F2 ∧
           v = (0, n2) ∧ F' = F2)))) := by
  have t := q_ok cv_251 ap_251 (hd := []) h rfl rfl
  exact t
-- TurnNet.plan(II)I
theorem c_T_plan {a1 a2 : Nat} {F : fx_F} {v : fx_V} {F' : fx_F} (h : Cl k_T_plan [(2, 2), (0, a1), (0, a2)] F v F') : ∃ n, Rn n k_T_plan 0 [(2, 2), (0, a1), (0, a2)] [] F v F' := by
  obtain ⟨n, s, hs, h⟩ := h
  rw [sg_252] at hs
  cases hs
  exact ⟨n, h⟩
set_option maxRecDepth 40000 in
theorem q_T_plan_0 {n : Nat} {a1 a2 : Nat} {F : fx_F} {v : fx_V} {F' : fx_F} (h : Rn n k_T_plan 0 [(2, 2), (0, a1), (0, a2)] [] F v F') :
  (s_lt a1 0 →
   v = (0, 4294967295) ∧ F' = F) ∧
  (s_le 0 a1 →
   (s_le (F 3 0) a1 →
     v = (0, 4294967295) ∧ F' = F) ∧
    (s_lt a1 (F 3 0) →
     (s_lt a2 0 →
       v = (0, 4294967295) ∧ F' = F) ∧
      (s_le 0 a2 →
       (s_le a2 1 →
         ∃ F1 : fx_F, Cl k_T_planFor [(2, 2), (0, a1)] F (2, 0) F1 ∧
          (a2 ≠ 0 →
            v = (0, F1 48 4) ∧ F' = F1) ∧
           (a2 = 0 →
            v = (0, F1 48 3) ∧ F' = F1)) ∧
        (s_lt 1 a2 →
         v = (0, 4294967295) ∧ F' = F)))) := by
  have t := q_ok cv_252 ap_252 (hd := []) h rfl rfl
  exact t
-- TurnNet.rooted(II)I
theorem c_T_rooted {a1 a2 : Nat} {F : fx_F} {v : fx_V} {F' : fx_F} (h : Cl k_T_rooted [(2, 2), (0, a1), (0, a2)] F v F') : ∃ n, Rn n k_T_rooted 0 [(2, 2), (0, a1), (0, a2)] [] F v F' := by
  obtain ⟨n, s, hs, h⟩ := h
  rw [sg_253] at hs
  cases hs
  exact ⟨n, h⟩
set_option maxRecDepth 40000 in
theorem q_T_rooted_0 {n : Nat} {a1 a2 : Nat} {F : fx_F} {v : fx_V} {F' : fx_F} (h : Rn n k_T_rooted 0 [(2, 2), (0, a1), (0, a2)] [] F v F') :
  (s_lt a1 0 →
   v = (0, 4294967295) ∧ F' = F) ∧
  (s_le 0 a1 →
   (s_le (F 3 0) a1 →
     v = (0, 4294967295) ∧ F' = F) ∧
    (s_lt a1 (F 3 0) →
     (s_lt a2 0 →
       v = (0, 4294967295) ∧ F' = F) ∧
      (s_le 0 a2 →
       (s_le a2 2 →
         ∃ (n1 : Nat) (F1 : fx_F), Cl k_T_worthOf [(2, 2), (0, a1), (0, a2)] F (0, n1) F1 ∧
          v = (0, n1) ∧ F' = F1) ∧
        (s_lt 2 a2 →
         v = (0, 4294967295) ∧ F' = F)))) := by
  have t := q_ok cv_253 ap_253 (hd := []) h rfl rfl
  exact t
-- TurnNet.steps(I)I
theorem c_T_steps {a1 : Nat} {F : fx_F} {v : fx_V} {F' : fx_F} (h : Cl k_T_steps [(2, 2), (0, a1)] F v F') : ∃ n, Rn n k_T_steps 0 [(2, 2), (0, a1)] [] F v F' := by
  obtain ⟨n, s, hs, h⟩ := h
  rw [sg_254] at hs
  cases hs
  exact ⟨n, h⟩
set_option maxRecDepth 40000 in
theorem q_T_steps_0 {n : Nat} {a1 : Nat} {F : fx_F} {v : fx_V} {F' : fx_F} (h : Rn n k_T_steps 0 [(2, 2), (0, a1)] [] F v F') :
  ((F 3 0) = 0 →
   v = (0, 4294967295) ∧ F' = F) ∧
  ((F 3 0) ≠ 0 →
   (s_lt a1 1 →
     v = (0, 4294967295) ∧ F' = F) ∧
    (s_le 1 a1 →
     (s_le a1 50 →
       ∃ F1 : fx_F, Cl k_Hi_keep [(2, 51), (2, F 2 13)] F (2, 0) F1 ∧
        ∃ (n2 : Nat) (F2 : fx_F), Cl k_T_goSteps [(2, 2), (2, F1 2 13), (0, a1)] F1 (0, n2) F2 ∧
         v = (0, n2) ∧ F' = F2) ∧
      (s_lt 50 a1 →
       v = (0, 4294967295) ∧ F' = F))) := by
  have t := q_ok cv_254 ap_254 (hd := []) h rfl rfl
  exact t
-- TurnNet.stuck()I
theorem c_T_stuck {F : fx_F} {v : fx_V} {F' : fx_F} (h : Cl k_T_stuck [(2, 2)] F v F') : ∃ n, Rn n k_T_stuck 0 [(2, 2), (3, 0), (3, 0)] [] F v F' := by
  obtain ⟨n, s, hs, h⟩ := h
  rw [sg_255] at hs
  cases hs
  exact ⟨n, h⟩
set_option maxRecDepth 40000 in
theorem q_T_stuck_0 {n : Nat} {F : fx_F} {v : fx_V} {F' : fx_F} (h : Rn n k_T_stuck 0 [(2, 2), (3, 0), (3, 0)] [] F v F') :
  ∃ F1 : fx_F, Cl k_St_copyFrom [(2, 153), (2, F 2 13)] F (2, 0) F1 ∧
  ∃ (n2 : Nat) (F2 : fx_F), Cl k_T_runEmpty [(2, 2)] F1 (0, n2) F2 ∧
   ∃ m, m < n ∧ Rn m k_T_stuck 20 [(2, 2), (0, 0), (0, 0)] [] F2 v F' := by
  have t := q_ok cv_255 ap_255 (hd := [(20, [1, 1, 1])]) h rfl rfl
  exact t
set_option maxRecDepth 40000 in
theorem q_T_stuck_20 {n : Nat} {l1 l2 : Nat} {F : fx_F} {v : fx_V} {F' : fx_F} (h : Rn n k_T_stuck 20 [(2, 2), (0, l1), (0, l2)] [] F v F') :
  (s_le 12 l2 →
   v = (0, l1) ∧ F' = F) ∧
  (s_lt l2 12 →
   (s_lt l2 0 →
     ∃ m, m < n ∧ Rn m k_T_stuck 20 [(2, 2), (0, l1), (0, i_add l2 1)] [] F v F') ∧
    (s_le 0 l2 →
     (s_le 12 l2 →
       ∃ m, m < n ∧ Rn m k_T_stuck 20 [(2, 2), (0, l1), (0, i_add l2 1)] [] F v F') ∧
      (s_lt l2 12 →
       ((F 154 l2) = 4294967295 →
         ∃ m, m < n ∧ Rn m k_T_stuck 20 [(2, 2), (0, l1), (0, i_add l2 1)] [] F v F') ∧
        ((F 154 l2) ≠ 4294967295 →
         ∃ m, m < n ∧ Rn m k_T_stuck 20 [(2, 2), (0, i_or l1 (i_shl 1 l2)), (0, i_add l2 1)] [] F v F')))) := by
  have t := q_ok cv_255 ap_255 (hd := [(20, [1, 1, 1])]) h rfl rfl
  exact t
-- TurnNetModel.depends(II)I
theorem c_M_depends {a1 a2 : Nat} {F : fx_F} {v : fx_V} {F' : fx_F} (h : Cl k_M_depends [(2, 175), (0, a1), (0, a2)] F v F') : ∃ n, Rn n k_M_depends 0 [(2, 175), (0, a1), (0, a2)] [] F v F' := by
  obtain ⟨n, s, hs, h⟩ := h
  rw [sg_256] at hs
  cases hs
  exact ⟨n, h⟩
set_option maxRecDepth 40000 in
theorem q_M_depends_0 {n : Nat} {a1 a2 : Nat} {F : fx_F} {v : fx_V} {F' : fx_F} (h : Rn n k_M_depends 0 [(2, 175), (0, a1), (0, a2)] [] F v F') :
  (s_lt a1 0 →
   v = (0, 4294967295) ∧ F' = F) ∧
  (s_le 0 a1 →
   (s_lt (i_sub (i_mul 2 (F 178 (F 175 9))) 1) a1 →
     v = (0, 4294967295) ∧ F' = F) ∧
    (s_le a1 (i_sub (i_mul 2 (F 178 (F 175 9))) 1) →
     (s_lt a2 0 →
       v = (0, 4294967295) ∧ F' = F) ∧
      (s_le 0 a2 →
       (s_lt (i_sub (i_mul 2 (F 178 (F 175 9))) 1) a2 →
         v = (0, 4294967295) ∧ F' = F) ∧
        (s_le a2 (i_sub (i_mul 2 (F 178 (F 175 9))) 1) →
         ∃ (n1 : Nat) (F1 : fx_F), Cl k_M_isLawful [(2, 175), (0, a1), (0, a2)] F (0, n1) F1 ∧
          (n1 = 0 →
            v = (0, 0) ∧ F' = F1) ∧
           (n1 ≠ 0 →
            v = (0, 1) ∧ F' = F1))))) := by
  have t := q_ok cv_256 ap_256 (hd := []) h rfl rfl
  exact t
-- TurnNetModel.goPacket(I)Z
theorem c_M_goPacket {a1 : Nat} {F : fx_F} {v : fx_V} {F' : fx_F} (h : Cl k_M_goPacket [(2, 175), (0, a1)] F v F') : ∃ n, Rn n k_M_goPacket 0 [(2, 175), (0, a1), (3, 0)] [] F v F' := by
  obtain ⟨n, s, hs, h⟩ := h
  rw [sg_257] at hs
  cases hs
  exact ⟨n, h⟩
set_option maxRecDepth 40000 in
theorem q_M_goPacket_0 {n : Nat} {a1 : Nat} {F : fx_F} {v : fx_V} {F' : fx_F} (h : Rn n k_M_goPacket 0 [(2, 175), (0, a1), (3, 0)] [] F v F') :
  ((F 176 (i_add 65 a1)) ≠ (F 176 (i_add 53 a1)) →
   ((F 176 (i_add 65 a1)) ≠ (F 176 (i_add 53 a1)) →
     (s_lt (F 176 (i_add 77 a1)) 0 →
       (s_lt (F 196 (i_add (i_add (i_mul 20 (F 176 (i_add 53 a1))) (i_mul 2 (F 176 (i_add 65 a1)))) 0)) 0 →
         v = (0, 0) ∧ F' = F) ∧
        (s_le 0 (F 196 (i_add (i_add (i_mul 20 (F 176 (i_add 53 a1))) (i_mul 2 (F 176 (i_add 65 a1)))) 0)) →
         ∃ (n1 : Nat) (F1 : fx_F), Cl k_M_cameBy [(2, 175), (0, F 196 (i_add (i_add (i_mul 20 (F 176 (i_add 53 a1))) (i_mul 2 (F 176 (i_add 65 a1)))) 0))] F (0, n1) F1 ∧
          (s_lt n1 (F1 180 (F1 175 9)) →
            v = (0, 1) ∧ F' = (fu (fu F1 176 (i_add 65 a1) (F1 183 (i_add (i_add (i_mul 40 (F1 175 9)) (i_mul 2 (i_div (F 196 (i_add (i_add (i_mul 20 (F 176 (i_add 53 a1))) (i_mul 2 (F 176 (i_add 65 a1)))) 0)) 2))) (i_sub 1 (i_rem (F 196 (i_add (i_add (i_mul 20 (F 176 (i_add 53 a1))) (i_mul 2 (F 176 (i_add 65 a1)))) 0)) 2))))) 176 (i_add 77 a1) (F 196 (i_add (i_add (i_mul 20 (F 176 (i_add 53 a1))) (i_mul 2 (F 176 (i_add 65 a1)))) 0)))) ∧
           (s_le (F1 180 (F1 175 9)) n1 →
            v = (0, 0) ∧ F' = F1))) ∧
      (s_le 0 (F 176 (i_add 77 a1)) →
       ((F 183 (i_add (i_add (i_mul 40 (F 175 9)) (i_mul 2 (i_div (F 176 (i_add 77 a1)) 2))) (i_sub 1 (i_rem (F 176 (i_add 77 a1)) 2)))) ≠ (F 176 (i_add 20 (i_div (F 176 (i_add 77 a1)) 2))) →
         (s_lt (F 196 (i_add (i_add (i_mul 20 (F 176 (i_add 53 a1))) (i_mul 2 (F 176 (i_add 65 a1)))) 1)) 0 →
           v = (0, 0) ∧ F' = F) ∧
          (s_le 0 (F 196 (i_add (i_add (i_mul 20 (F 176 (i_add 53 a1))) (i_mul 2 (F 176 (i_add 65 a1)))) 1)) →
           ∃ (n1 : Nat) (F1 : fx_F), Cl k_M_cameBy [(2, 175), (0, F 196 (i_add (i_add (i_mul 20 (F 176 (i_add 53 a1))) (i_mul 2 (F 176 (i_add 65 a1)))) 1))] F (0, n1) F1 ∧
            (s_lt n1 (F1 180 (F1 175 9)) →
              v = (0, 1) ∧ F' = (fu (fu F1 176 (i_add 65 a1) (F1 183 (i_add (i_add (i_mul 40 (F1 175 9)) (i_mul 2 (i_div (F 196 (i_add (i_add (i_mul 20 (F 176 (i_add 53 a1))) (i_mul 2 (F 176 (i_add 65 a1)))) 1)) 2))) (i_sub 1 (i_rem (F 196 (i_add (i_add (i_mul 20 (F 176 (i_add 53 a1))) (i_mul 2 (F 176 (i_add 65 a1)))) 1)) 2))))) 176 (i_add 77 a1) (F 196 (i_add (i_add (i_mul 20 (F 176 (i_add 53 a1))) (i_mul 2 (F 176 (i_add 65 a1)))) 1)))) ∧
             (s_le (F1 180 (F1 175 9)) n1 →
              v = (0, 0) ∧ F' = F1))) ∧
        ((F 183 (i_add (i_add (i_mul 40 (F 175 9)) (i_mul 2 (i_div (F 176 (i_add 77 a1)) 2))) (i_sub 1 (i_rem (F 176 (i_add 77 a1)) 2)))) = (F 176 (i_add 20 (i_div (F 176 (i_add 77 a1)) 2))) →
         (s_lt (F 196 (i_add (i_add (i_mul 20 (F 176 (i_add 53 a1))) (i_mul 2 (F 176 (i_add 65 a1)))) 0)) 0 →
           v = (0, 0) ∧ F' = F) ∧
          (s_le 0 (F 196 (i_add (i_add (i_mul 20 (F 176 (i_add 53 a1))) (i_mul 2 (F 176 (i_add 65 a1)))) 0)) →
           ∃ (n1 : Nat) (F1 : fx_F), Cl k_M_cameBy [(2, 175), (0, F 196 (i_add (i_add (i_mul 20 (F 176 (i_add 53 a1))) (i_mul 2 (F 176 (i_add 65 a1)))) 0))] F (0, n1) F1 ∧
            (s_lt n1 (F1 180 (F1 175 9)) →
              v = (0, 1) ∧ F' = (fu (fu F1 176 (i_add 65 a1) (F1 183 (i_add (i_add (i_mul 40 (F1 175 9)) (i_mul 2 (i_div (F 196 (i_add (i_add (i_mul 20 (F 176 (i_add 53 a1))) (i_mul 2 (F 176 (i_add 65 a1)))) 0)) 2))) (i_sub 1 (i_rem (F 196 (i_add (i_add (i_mul 20 (F 176 (i_add 53 a1))) (i_mul 2 (F 176 (i_add 65 a1)))) 0)) 2))))) 176 (i_add 77 a1) (F 196 (i_add (i_add (i_mul 20 (F 176 (i_add 53 a1))) (i_mul 2 (F 176 (i_add 65 a1)))) 0)))) ∧
             (s_le (F1 180 (F1 175 9)) n1 →
              v = (0, 0) ∧ F' = F1))))) ∧
    ((F 176 (i_add 65 a1)) = (F 176 (i_add 53 a1)) →
     (s_lt 4294967295 0 →
       v = (0, 0) ∧ F' = F) ∧
      (s_le 0 4294967295 →
       ∃ (n1 : Nat) (F1 : fx_F), Cl k_M_cameBy [(2, 175), (0, 4294967295)] F (0, n1) F1 ∧
        (s_lt n1 (F1 180 (F1 175 9)) →
          v = (0, 1) ∧ F' = (fu (fu F1 176 (i_add 65 a1) (F1 183 (i_add (i_add (i_mul 40 (F1 175 9)) (i_mul 2 (i_div 4294967295 2))) (i_sub 1 (i_rem 4294967295 2))))) 176 (i_add 77 a1) 4294967295)) ∧
         (s_le (F1 180 (F1 175 9)) n1 →
          v = (0, 0) ∧ F' = F1)))) ∧
  ((F 176 (i_add 65 a1)) = (F 176 (i_add 53 a1)) →
   v = (0, 1) ∧ F' = (fu (fu F 176 (i_add 41 a1) 0) 176 101 (i_add ((fu F 176 (i_add 41 a1) 0) 176 101) 1))) := by
  have t := q_ok cv_257 ap_257 (hd := []) h rfl rfl
  exact t
-- TurnNetModel.isEither(II)Z
theorem c_M_isEither {a1 a2 : Nat} {F : fx_F} {v : fx_V} {F' : fx_F} (h : Cl k_M_isEither [(2, 175), (0, a1), (0, a2)] F v F') : ∃ n, Rn n k_M_isEither 0 [(2, 175), (0, a1), (0, a2), (3, 0), (3, 0)] [] F v F' := by
  obtain ⟨n, s, hs, h⟩ := h
  rw [sg_258] at hs
  cases hs
  exact ⟨n, h⟩
set_option maxRecDepth 40000 in
theorem q_M_isEither_0 {n : Nat} {a1 a2 : Nat} {F : fx_F} {v : fx_V} {F' : fx_F} (h : Rn n k_M_isEither 0 [(2, 175), (0, a1), (0, a2), (3, 0), (3, 0)] [] F v F') :
  ((F 202 (i_div a1 2)) = 0 →
   ((F 202 (i_div a2 2)) = 0 →
     ∃ (n1 : Nat) (F1 : fx_F), Cl k_M_isLawful [(2, 175), (0, a1), (0, a2)] F (0, n1) F1 ∧
      (n1 ≠ 0 →
        v = (0, 1) ∧ F' = F1) ∧
       (n1 = 0 →
        ∃ (n2 : Nat) (F2 : fx_F), Cl k_M_isTurn [(2, 175), (0, a1), (0, a2), (0, F 176 (i_add 20 (i_div a1 2))), (0, F 176 (i_add 20 (i_div a2 2)))] F1 (0, n2) F2 ∧
         (n2 = 0 →
           v = (0, 0) ∧ F' = F2) ∧
          (n2 ≠ 0 →
           v = (0, 1) ∧ F' = F2))) ∧
    ((F 202 (i_div a2 2)) ≠ 0 →
     ∃ (n1 : Nat) (F1 : fx_F), Cl k_M_isLawful [(2, 175), (0, a1), (0, a2)] F (0, n1) F1 ∧
      (n1 ≠ 0 →
        v = (0, 1) ∧ F' = F1) ∧
       (n1 = 0 →
        ∃ (n2 : Nat) (F2 : fx_F), Cl k_M_isTurn [(2, 175), (0, a1), (0, a2), (0, F 176 (i_add 20 (i_div a1 2))), (0, F 190 (i_div a2 2))] F1 (0, n2) F2 ∧
         (n2 = 0 →
           v = (0, 0) ∧ F' = F2) ∧
          (n2 ≠ 0 →
           v = (0, 1) ∧ F' = F2)))) ∧
  ((F 202 (i_div a1 2)) ≠ 0 →
   ((F 202 (i_div a2 2)) = 0 →
     ∃ (n1 : Nat) (F1 : fx_F), Cl k_M_isLawful [(2, 175), (0, a1), (0, a2)] F (0, n1) F1 ∧
      (n1 ≠ 0 →
        v = (0, 1) ∧ F' = F1) ∧
       (n1 = 0 →
        ∃ (n2 : Nat) (F2 : fx_F), Cl k_M_isTurn [(2, 175), (0, a1), (0, a2), (0, F 190 (i_div a1 2)), (0, F 176 (i_add 20 (i_div a2 2)))] F1 (0, n2) F2 ∧
         (n2 = 0 →
           v = (0, 0) ∧ F' = F2) ∧
          (n2 ≠ 0 →
           v = (0, 1) ∧ F' = F2))) ∧
    ((F 202 (i_div a2 2)) ≠ 0 →
     ∃ (n1 : Nat) (F1 : fx_F), Cl k_M_isLawful [(2, 175), (0, a1), (0, a2)] F (0, n1) F1 ∧
      (n1 ≠ 0 →
        v = (0, 1) ∧ F' = F1) ∧
       (n1 = 0 →
        ∃ (n2 : Nat) (F2 : fx_F), Cl k_M_isTurn [(2, 175), (0, a1), (0, a2), (0, F 190 (i_div a1 2)), (0, F 190 (i_div a2 2))] F1 (0, n2) F2 ∧
         (n2 = 0 →
           v = (0, 0) ∧ F' = F2) ∧
          (n2 ≠ 0 →
           v = (0, 1) ∧ F' = F2)))) := by
  have t := q_ok cv_258 ap_258 (hd := []) h rfl rfl
  exact t
-- TurnNetModel.isNext(III)Z
theorem c_M_isNext {a1 a2 a3 : Nat} {F : fx_F} {v : fx_V} {F' : fx_F} (h : Cl k_M_isNext [(2, 175), (0, a1), (0, a2), (0, a3)] F v F') : ∃ n, Rn n k_M_isNext 0 [(2, 175), (0, a1), (0, a2), (0, a3), (3, 0)] [] F v F' := by
  obtain ⟨n, s, hs, h⟩ := h
  rw [sg_259] at hs
  cases hs
  exact ⟨n, h⟩
set_option maxRecDepth 40000 in
theorem q_M_isNext_0 {n : Nat} {a1 a2 a3 : Nat} {F : fx_F} {v : fx_V} {F' : fx_F} (h : Rn n k_M_isNext 0 [(2, 175), (0, a1), (0, a2), (0, a3), (3, 0)] [] F v F') :
  ((F 176 (i_add 0 (i_div a2 2))) ≠ 1 →
   v = (0, 0) ∧ F' = F) ∧
  ((F 176 (i_add 0 (i_div a2 2))) = 1 →
   (a3 = 0 →
     (s_le 100000 (F 193 (i_add (i_add (i_mul 20 a1) (i_mul 2 (F 183 (i_add (i_add (i_mul 40 (F 175 9)) (i_mul 2 (i_div a2 2))) (i_rem a2 2))))) a3)) →
       v = (0, 0) ∧ F' = F) ∧
      (s_lt (F 193 (i_add (i_add (i_mul 20 a1) (i_mul 2 (F 183 (i_add (i_add (i_mul 40 (F 175 9)) (i_mul 2 (i_div a2 2))) (i_rem a2 2))))) a3)) 100000 →
       ((F 183 (i_add (i_add (i_mul 40 (F 175 9)) (i_mul 2 (i_div a2 2))) (i_sub 1 (i_rem a2 2)))) ≠ (F 176 (i_add 20 (i_div a2 2))) →
         (a3 = 1 →
           ((F 193 (i_add (i_add (i_mul 20 a1) (i_mul 2 (F 183 (i_add (i_add (i_mul 40 (F 175 9)) (i_mul 2 (i_div a2 2))) (i_rem a2 2))))) a3)) ≠ (i_add 1 (F 193 (i_add (i_add (i_mul 20 a1) (i_mul 2 (F 183 (i_add (i_add (i_mul 40 (F 175 9)) (i_mul 2 (i_div a2 2))) (i_sub 1 (i_rem a2 2)))))) 1))) →
             v = (0, 0) ∧ F' = F) ∧
            ((F 193 (i_add (i_add (i_mul 20 a1) (i_mul 2 (F 183 (i_add (i_add (i_mul 40 (F 175 9)) (i_mul 2 (i_div a2 2))) (i_rem a2 2))))) a3)) = (i_add 1 (F 193 (i_add (i_add (i_mul 20 a1) (i_mul 2 (F 183 (i_add (i_add (i_mul 40 (F 175 9)) (i_mul 2 (i_div a2 2))) (i_sub 1 (i_rem a2 2)))))) 1))) →
             v = (0, 1) ∧ F' = F)) ∧
          (a3 ≠ 1 →
           ((F 193 (i_add (i_add (i_mul 20 a1) (i_mul 2 (F 183 (i_add (i_add (i_mul 40 (F 175 9)) (i_mul 2 (i_div a2 2))) (i_rem a2 2))))) a3)) ≠ (i_add 1 (F 193 (i_add (i_add (i_mul 20 a1) (i_mul 2 (F 183 (i_add (i_add (i_mul 40 (F 175 9)) (i_mul 2 (i_div a2 2))) (i_sub 1 (i_rem a2 2)))))) 1))) →
             v = (0, 0) ∧ F' = F) ∧
            ((F 193 (i_add (i_add (i_mul 20 a1) (i_mul 2 (F 183 (i_add (i_add (i_mul 40 (F 175 9)) (i_mul 2 (i_div a2 2))) (i_rem a2 2))))) a3)) = (i_add 1 (F 193 (i_add (i_add (i_mul 20 a1) (i_mul 2 (F 183 (i_add (i_add (i_mul 40 (F 175 9)) (i_mul 2 (i_div a2 2))) (i_sub 1 (i_rem a2 2)))))) 1))) →
             v = (0, 1) ∧ F' = F))) ∧
        ((F 183 (i_add (i_add (i_mul 40 (F 175 9)) (i_mul 2 (i_div a2 2))) (i_sub 1 (i_rem a2 2)))) = (F 176 (i_add 20 (i_div a2 2))) →
         (a3 = 1 →
           ((F 193 (i_add (i_add (i_mul 20 a1) (i_mul 2 (F 183 (i_add (i_add (i_mul 40 (F 175 9)) (i_mul 2 (i_div a2 2))) (i_rem a2 2))))) a3)) ≠ (i_add 1 (F 193 (i_add (i_add (i_mul 20 a1) (i_mul 2 (F 183 (i_add (i_add (i_mul 40 (F 175 9)) (i_mul 2 (i_div a2 2))) (i_sub 1 (i_rem a2 2)))))) 1))) →
             v = (0, 0) ∧ F' = F) ∧
            ((F 193 (i_add (i_add (i_mul 20 a1) (i_mul 2 (F 183 (i_add (i_add (i_mul 40 (F 175 9)) (i_mul 2 (i_div a2 2))) (i_rem a2 2))))) a3)) = (i_add 1 (F 193 (i_add (i_add (i_mul 20 a1) (i_mul 2 (F 183 (i_add (i_add (i_mul 40 (F 175 9)) (i_mul 2 (i_div a2 2))) (i_sub 1 (i_rem a2 2)))))) 1))) →
             v = (0, 1) ∧ F' = F)) ∧
          (a3 ≠ 1 →
           ((F 193 (i_add (i_add (i_mul 20 a1) (i_mul 2 (F 183 (i_add (i_add (i_mul 40 (F 175 9)) (i_mul 2 (i_div a2 2))) (i_rem a2 2))))) a3)) ≠ (i_add 1 (F 193 (i_add (i_add (i_mul 20 a1) (i_mul 2 (F 183 (i_add (i_add (i_mul 40 (F 175 9)) (i_mul 2 (i_div a2 2))) (i_sub 1 (i_rem a2 2)))))) 0))) →
             v = (0, 0) ∧ F' = F) ∧
            ((F 193 (i_add (i_add (i_mul 20 a1) (i_mul 2 (F 183 (i_add (i_add (i_mul 40 (F 175 9)) (i_mul 2 (i_div a2 2))) (i_rem a2 2))))) a3)) = (i_add 1 (F 193 (i_add (i_add (i_mul 20 a1) (i_mul 2 (F 183 (i_add (i_add (i_mul 40 (F 175 9)) (i_mul 2 (i_div a2 2))) (i_sub 1 (i_rem a2 2)))))) 0))) →
             v = (0, 1) ∧ F' = F))))) ∧
    (a3 ≠ 0 →
     ((F 183 (i_add (i_add (i_mul 40 (F 175 9)) (i_mul 2 (i_div a2 2))) (i_sub 1 (i_rem a2 2)))) ≠ (F 176 (i_add 20 (i_div a2 2))) →
       (s_le 100000 (F 193 (i_add (i_add (i_mul 20 a1) (i_mul 2 (F 183 (i_add (i_add (i_mul 40 (F 175 9)) (i_mul 2 (i_div a2 2))) (i_rem a2 2))))) a3)) →
         v = (0, 0) ∧ F' = F) ∧
        (s_lt (F 193 (i_add (i_add (i_mul 20 a1) (i_mul 2 (F 183 (i_add (i_add (i_mul 40 (F 175 9)) (i_mul 2 (i_div a2 2))) (i_rem a2 2))))) a3)) 100000 →
         ((F 183 (i_add (i_add (i_mul 40 (F 175 9)) (i_mul 2 (i_div a2 2))) (i_sub 1 (i_rem a2 2)))) ≠ (F 176 (i_add 20 (i_div a2 2))) →
           (a3 = 1 →
             ((F 193 (i_add (i_add (i_mul 20 a1) (i_mul 2 (F 183 (i_add (i_add (i_mul 40 (F 175 9)) (i_mul 2 (i_div a2 2))) (i_rem a2 2))))) a3)) ≠ (i_add 1 (F 193 (i_add (i_add (i_mul 20 a1) (i_mul 2 (F 183 (i_add (i_add (i_mul 40 (F 175 9)) (i_mul 2 (i_div a2 2))) (i_sub 1 (i_rem a2 2)))))) 1))) →
               v = (0, 0) ∧ F' = F) ∧
              ((F 193 (i_add (i_add (i_mul 20 a1) (i_mul 2 (F 183 (i_add (i_add (i_mul 40 (F 175 9)) (i_mul 2 (i_div a2 2))) (i_rem a2 2))))) a3)) = (i_add 1 (F 193 (i_add (i_add (i_mul 20 a1) (i_mul 2 (F 183 (i_add (i_add (i_mul 40 (F 175 9)) (i_mul 2 (i_div a2 2))) (i_sub 1 (i_rem a2 2)))))) 1))) →
               v = (0, 1) ∧ F' = F)) ∧
            (a3 ≠ 1 →
             ((F 193 (i_add (i_add (i_mul 20 a1) (i_mul 2 (F 183 (i_add (i_add (i_mul 40 (F 175 9)) (i_mul 2 (i_div a2 2))) (i_rem a2 2))))) a3)) ≠ (i_add 1 (F 193 (i_add (i_add (i_mul 20 a1) (i_mul 2 (F 183 (i_add (i_add (i_mul 40 (F 175 9)) (i_mul 2 (i_div a2 2))) (i_sub 1 (i_rem a2 2)))))) 1))) →
               v = (0, 0) ∧ F' = F) ∧
              ((F 193 (i_add (i_add (i_mul 20 a1) (i_mul 2 (F 183 (i_add (i_add (i_mul 40 (F 175 9)) (i_mul 2 (i_div a2 2))) (i_rem a2 2))))) a3)) = (i_add 1 (F 193 (i_add (i_add (i_mul 20 a1) (i_mul 2 (F 183 (i_add (i_add (i_mul 40 (F 175 9)) (i_mul 2 (i_div a2 2))) (i_sub 1 (i_rem a2 2)))))) 1))) →
               v = (0, 1) ∧ F' = F))) ∧
          ((F 183 (i_add (i_add (i_mul 40 (F 175 9)) (i_mul 2 (i_div a2 2))) (i_sub 1 (i_rem a2 2)))) = (F 176 (i_add 20 (i_div a2 2))) →
           (a3 = 1 →
             ((F 193 (i_add (i_add (i_mul 20 a1) (i_mul 2 (F 183 (i_add (i_add (i_mul 40 (F 175 9)) (i_mul 2 (i_div a2 2))) (i_rem a2 2))))) a3)) ≠ (i_add 1 (F 193 (i_add (i_add (i_mul 20 a1) (i_mul 2 (F 183 (i_add (i_add (i_mul 40 (F 175 9)) (i_mul 2 (i_div a2 2))) (i_sub 1 (i_rem a2 2)))))) 1))) →
               v = (0, 0) ∧ F' = F) ∧
              ((F 193 (i_add (i_add (i_mul 20 a1) (i_mul 2 (F 183 (i_add (i_add (i_mul 40 (F 175 9)) (i_mul 2 (i_div a2 2))) (i_rem a2 2))))) a3)) = (i_add 1 (F 193 (i_add (i_add (i_mul 20 a1) (i_mul 2 (F 183 (i_add (i_add (i_mul 40 (F 175 9)) (i_mul 2 (i_div a2 2))) (i_sub 1 (i_rem a2 2)))))) 1))) →
               v = (0, 1) ∧ F' = F)) ∧
            (a3 ≠ 1 →
             ((F 193 (i_add (i_add (i_mul 20 a1) (i_mul 2 (F 183 (i_add (i_add (i_mul 40 (F 175 9)) (i_mul 2 (i_div a2 2))) (i_rem a2 2))))) a3)) ≠ (i_add 1 (F 193 (i_add (i_add (i_mul 20 a1) (i_mul 2 (F 183 (i_add (i_add (i_mul 40 (F 175 9)) (i_mul 2 (i_div a2 2))) (i_sub 1 (i_rem a2 2)))))) 0))) →
               v = (0, 0) ∧ F' = F) ∧
              ((F 193 (i_add (i_add (i_mul 20 a1) (i_mul 2 (F 183 (i_add (i_add (i_mul 40 (F 175 9)) (i_mul 2 (i_div a2 2))) (i_rem a2 2))))) a3)) = (i_add 1 (F 193 (i_add (i_add (i_mul 20 a1) (i_mul 2 (F 183 (i_add (i_add (i_mul 40 (F 175 9)) (i_mul 2 (i_div a2 2))) (i_sub 1 (i_rem a2 2)))))) 0))) →
               v = (0, 1) ∧ F' = F))))) ∧
      ((F 183 (i_add (i_add (i_mul 40 (F 175 9)) (i_mul 2 (i_div a2 2))) (i_sub 1 (i_rem a2 2)))) = (F 176 (i_add 20 (i_div a2 2))) →
       v = (0, 0) ∧ F' = F))) := by
  have t := q_ok cv_259 ap_259 (hd := []) h rfl rfl
  exact t
-- TurnNetModel.layGoal(I)V
theorem c_M_layGoal {a1 : Nat} {F : fx_F} {v : fx_V} {F' : fx_F} (h : Cl k_M_layGoal [(2, 175), (0, a1)] F v F') : ∃ n, Rn n k_M_layGoal 0 [(2, 175), (0, a1), (3, 0), (3, 0), (3, 0), (3, 0)] [] F v F' := by
  obtain ⟨n, s, hs, h⟩ := h
  rw [sg_260] at hs
  cases hs
  exact ⟨n, h⟩
set_option maxRecDepth 40000 in
theorem q_M_layGoal_0 {n : Nat} {a1 : Nat} {F : fx_F} {v : fx_V} {F' : fx_F} (h : Rn n k_M_layGoal 0 [(2, 175), (0, a1), (3, 0), (3, 0), (3, 0), (3, 0)] [] F v F') :
  ∃ m, m < n ∧ Rn m k_M_layGoal 2 [(2, 175), (0, a1), (0, 0), (3, 0), (3, 0), (3, 0)] [] F v F' := by
  have t := q_ok cv_260 ap_260 (hd := [(2, [1, 1, 1, 0, 0, 0]), (62, [1, 1, 1, 0, 0, 0]), (70, [1, 1, 1, 1, 0, 0]), (81, [1, 1, 1, 1, 1, 0])]) h rfl rfl
  exact t
set_option maxRecDepth 40000 in
theorem q_M_layGoal_2 {n : Nat} {l1 l2 : Nat} {F : fx_F} {v : fx_V} {F' : fx_F} (h : Rn n k_M_layGoal 2 [(2, 175), (0, l1), (0, l2), (3, 0), (3, 0), (3, 0)] [] F v F') :
  (s_le 10 l2 →
   ∃ m, m < n ∧ Rn m k_M_layGoal 62 [(2, 175), (0, l1), (0, 1), (3, 0), (3, 0), (3, 0)] [] F v F') ∧
  (s_lt l2 10 →
   (l2 ≠ l1 →
     (l2 ≠ l1 →
       ∃ m, m < n ∧ Rn m k_M_layGoal 2 [(2, 175), (0, l1), (0, i_add l2 1), (3, 0), (3, 0), (3, 0)] [] (fu (fu F 193 (i_add (i_add (i_mul 20 l1) (i_mul 2 l2)) 0) 100000) 193 (i_add (i_add (i_mul 20 l1) (i_mul 2 l2)) 1) 100000) v F') ∧
      (l2 = l1 →
       ∃ m, m < n ∧ Rn m k_M_layGoal 2 [(2, 175), (0, l1), (0, i_add l2 1), (3, 0), (3, 0), (3, 0)] [] (fu (fu F 193 (i_add (i_add (i_mul 20 l1) (i_mul 2 l2)) 0) 100000) 193 (i_add (i_add (i_mul 20 l1) (i_mul 2 l2)) 1) 0) v F')) ∧
    (l2 = l1 →
     (l2 ≠ l1 →
       ∃ m, m < n ∧ Rn m k_M_layGoal 2 [(2, 175), (0, l1), (0, i_add l2 1), (3, 0), (3, 0), (3, 0)] [] (fu (fu F 193 (i_add (i_add (i_mul 20 l1) (i_mul 2 l2)) 0) 0) 193 (i_add (i_add (i_mul 20 l1) (i_mul 2 l2)) 1) 100000) v F') ∧
      (l2 = l1 →
       ∃ m, m < n ∧ Rn m k_M_layGoal 2 [(2, 175), (0, l1), (0, i_add l2 1), (3, 0), (3, 0), (3, 0)] [] (fu (fu F 193 (i_add (i_add (i_mul 20 l1) (i_mul 2 l2)) 0) 0) 193 (i_add (i_add (i_mul 20 l1) (i_mul 2 l2)) 1) 0) v F'))) := by
  have t := q_ok cv_260 ap_260 (hd := [(2, [1, 1, 1, 0, 0, 0]), (62, [1, 1, 1, 0, 0, 0]), (70, [1, 1, 1, 1, 0, 0]), (81, [1, 1, 1, 1, 1, 0])]) h rfl rfl
  exact t
set_option maxRecDepth 40000 in
theorem q_M_layGoal_62 {n : Nat} {l1 l2 : Nat} {F : fx_F} {v : fx_V} {F' : fx_F} (h : Rn n k_M_layGoal 62 [(2, 175), (0, l1), (0, l2), (3, 0), (3, 0), (3, 0)] [] F v F') :
  (l2 = 0 →
   v = (2, 0) ∧ F' = F) ∧
  (l2 ≠ 0 →
   ∃ m, m < n ∧ Rn m k_M_layGoal 70 [(2, 175), (0, l1), (0, 0), (0, 0), (3, 0), (3, 0)] [] F v F') := by
  have t := q_ok cv_260 ap_260 (hd := [(2, [1, 1, 1, 0, 0, 0]), (62, [1, 1, 1, 0, 0, 0]), (70, [1, 1, 1, 1, 0, 0]), (81, [1, 1, 1, 1, 1, 0])]) h rfl rfl
  exact t
set_option maxRecDepth 40000 in
theorem q_M_layGoal_70 {n : Nat} {l1 l2 l3 : Nat} {F : fx_F} {v : fx_V} {F' : fx_F} (h : Rn n k_M_layGoal 70 [(2, 175), (0, l1), (0, l2), (0, l3), (3, 0), (3, 0)] [] F v F') :
  (s_le (i_mul 2 (F 178 (F 175 9))) l3 →
   ∃ m, m < n ∧ Rn m k_M_layGoal 62 [(2, 175), (0, l1), (0, l2), (3, 0), (3, 0), (3, 0)] [] F v F') ∧
  (s_lt l3 (i_mul 2 (F 178 (F 175 9))) →
   ∃ m, m < n ∧ Rn m k_M_layGoal 81 [(2, 175), (0, l1), (0, l2), (0, l3), (0, 0), (3, 0)] [] F v F') := by
  have t := q_ok cv_260 ap_260 (hd := [(2, [1, 1, 1, 0, 0, 0]), (62, [1, 1, 1, 0, 0, 0]), (70, [1, 1, 1, 1, 0, 0]), (81, [1, 1, 1, 1, 1, 0])]) h rfl rfl
  exact t
set_option maxRecDepth 40000 in
theorem q_M_layGoal_81 {n : Nat} {l1 l2 l3 l4 : Nat} {F : fx_F} {v : fx_V} {F' : fx_F} (h : Rn n k_M_layGoal 81 [(2, 175), (0, l1), (0, l2), (0, l3), (0, l4), (3, 0)] [] F v F') :
  (s_le 2 l4 →
   ∃ m, m < n ∧ Rn m k_M_layGoal 70 [(2, 175), (0, l1), (0, l2), (0, i_add l3 1), (3, 0), (3, 0)] [] F v F') ∧
  (s_lt l4 2 →
   ((F 176 (i_add 0 (i_div l3 2))) ≠ 1 →
     ∃ m, m < n ∧ Rn m k_M_layGoal 81 [(2, 175), (0, l1), (0, l2), (0, l3), (0, i_add l4 1), (3, 0)] [] F v F') ∧
    ((F 176 (i_add 0 (i_div l3 2))) = 1 →
     (l4 = 0 →
       ((F 183 (i_add (i_add (i_mul 40 (F 175 9)) (i_mul 2 (i_div l3 2))) (i_sub 1 (i_rem l3 2)))) ≠ (F 176 (i_add 20 (i_div l3 2))) →
         (l4 = 1 →
           (s_lt (i_add 1 (F 193 (i_add (i_add (i_mul 20 l1) (i_mul 2 (F 183 (i_add (i_add (i_mul 40 (F 175 9)) (i_mul 2 (i_div l3 2))) (i_sub 1 (i_rem l3 2)))))) 1))) (F 193 (i_add (i_add (i_mul 20 l1) (i_mul 2 (F 183 (i_add (i_add (i_mul 40 (F 175 9)) (i_mul 2 (i_div l3 2))) (i_rem l3 2))))) l4)) →
             ∃ m, m < n ∧ Rn m k_M_layGoal 81 [(2, 175), (0, l1), (0, 1), (0, l3), (0, i_add l4 1), (3, 0)] [] (fu F 193 (i_add (i_add (i_mul 20 l1) (i_mul 2 (F 183 (i_add (i_add (i_mul 40 (F 175 9)) (i_mul 2 (i_div l3 2))) (i_rem l3 2))))) l4) (i_add 1 (F 193 (i_add (i_add (i_mul 20 l1) (i_mul 2 (F 183 (i_add (i_add (i_mul 40 (F 175 9)) (i_mul 2 (i_div l3 2))) (i_sub 1 (i_rem l3 2)))))) 1)))) v F') ∧
            (s_le (F 193 (i_add (i_add (i_mul 20 l1) (i_mul 2 (F 183 (i_add (i_add (i_mul 40 (F 175 9)) (i_mul 2 (i_div l3 2))) (i_rem l3 2))))) l4)) (i_add 1 (F 193 (i_add (i_add (i_mul 20 l1) (i_mul 2 (F 183 (i_add (i_add (i_mul 40 (F 175 9)) (i_mul 2 (i_div l3 2))) (i_sub 1 (i_rem l3 2)))))) 1))) →
             ∃ m, m < n ∧ Rn m k_M_layGoal 81 [(2, 175), (0, l1), (0, l2), (0, l3), (0, i_add l4 1), (3, 0)] [] F v F')) ∧
          (l4 ≠ 1 →
           (s_lt (i_add 1 (F 193 (i_add (i_add (i_mul 20 l1) (i_mul 2 (F 183 (i_add (i_add (i_mul 40 (F 175 9)) (i_mul 2 (i_div l3 2))) (i_sub 1 (i_rem l3 2)))))) 1))) (F 193 (i_add (i_add (i_mul 20 l1) (i_mul 2 (F 183 (i_add (i_add (i_mul 40 (F 175 9)) (i_mul 2 (i_div l3 2))) (i_rem l3 2))))) l4)) →
             ∃ m, m < n ∧ Rn m k_M_layGoal 81 [(2, 175), (0, l1), (0, 1), (0, l3), (0, i_add l4 1), (3, 0)] [] (fu F 193 (i_add (i_add (i_mul 20 l1) (i_mul 2 (F 183 (i_add (i_add (i_mul 40 (F 175 9)) (i_mul 2 (i_div l3 2))) (i_rem l3 2))))) l4) (i_add 1 (F 193 (i_add (i_add (i_mul 20 l1) (i_mul 2 (F 183 (i_add (i_add (i_mul 40 (F 175 9)) (i_mul 2 (i_div l3 2))) (i_sub 1 (i_rem l3 2)))))) 1)))) v F') ∧
            (s_le (F 193 (i_add (i_add (i_mul 20 l1) (i_mul 2 (F 183 (i_add (i_add (i_mul 40 (F 175 9)) (i_mul 2 (i_div l3 2))) (i_rem l3 2))))) l4)) (i_add 1 (F 193 (i_add (i_add (i_mul 20 l1) (i_mul 2 (F 183 (i_add (i_add (i_mul 40 (F 175 9)) (i_mul 2 (i_div l3 2))) (i_sub 1 (i_rem l3 2)))))) 1))) →
             ∃ m, m < n ∧ Rn m k_M_layGoal 81 [(2, 175), (0, l1), (0, l2), (0, l3), (0, i_add l4 1), (3, 0)] [] F v F'))) ∧
        ((F 183 (i_add (i_add (i_mul 40 (F 175 9)) (i_mul 2 (i_div l3 2))) (i_sub 1 (i_rem l3 2)))) = (F 176 (i_add 20 (i_div l3 2))) →
         (l4 = 1 →
           (s_lt (i_add 1 (F 193 (i_add (i_add (i_mul 20 l1) (i_mul 2 (F 183 (i_add (i_add (i_mul 40 (F 175 9)) (i_mul 2 (i_div l3 2))) (i_sub 1 (i_rem l3 2)))))) 1))) (F 193 (i_add (i_add (i_mul 20 l1) (i_mul 2 (F 183 (i_add (i_add (i_mul 40 (F 175 9)) (i_mul 2 (i_div l3 2))) (i_rem l3 2))))) l4)) →
             ∃ m, m < n ∧ Rn m k_M_layGoal 81 [(2, 175), (0, l1), (0, 1), (0, l3), (0, i_add l4 1), (3, 0)] [] (fu F 193 (i_add (i_add (i_mul 20 l1) (i_mul 2 (F 183 (i_add (i_add (i_mul 40 (F 175 9)) (i_mul 2 (i_div l3 2))) (i_rem l3 2))))) l4) (i_add 1 (F 193 (i_add (i_add (i_mul 20 l1) (i_mul 2 (F 183 (i_add (i_add (i_mul 40 (F 175 9)) (i_mul 2 (i_div l3 2))) (i_sub 1 (i_rem l3 2)))))) 1)))) v F') ∧
            (s_le (F 193 (i_add (i_add (i_mul 20 l1) (i_mul 2 (F 183 (i_add (i_add (i_mul 40 (F 175 9)) (i_mul 2 (i_div l3 2))) (i_rem l3 2))))) l4)) (i_add 1 (F 193 (i_add (i_add (i_mul 20 l1) (i_mul 2 (F 183 (i_add (i_add (i_mul 40 (F 175 9)) (i_mul 2 (i_div l3 2))) (i_sub 1 (i_rem l3 2)))))) 1))) →
             ∃ m, m < n ∧ Rn m k_M_layGoal 81 [(2, 175), (0, l1), (0, l2), (0, l3), (0, i_add l4 1), (3, 0)] [] F v F')) ∧
          (l4 ≠ 1 →
           (s_lt (i_add 1 (F 193 (i_add (i_add (i_mul 20 l1) (i_mul 2 (F 183 (i_add (i_add (i_mul 40 (F 175 9)) (i_mul 2 (i_div l3 2))) (i_sub 1 (i_rem l3 2)))))) 0))) (F 193 (i_add (i_add (i_mul 20 l1) (i_mul 2 (F 183 (i_add (i_add (i_mul 40 (F 175 9)) (i_mul 2 (i_div l3 2))) (i_rem l3 2))))) l4)) →
             ∃ m, m < n ∧ Rn m k_M_layGoal 81 [(2, 175), (0, l1), (0, 1), (0, l3), (0, i_add l4 1), (3, 0)] [] (fu F 193 (i_add (i_add (i_mul 20 l1) (i_mul 2 (F 183 (i_add (i_add (i_mul 40 (F 175 9)) (i_mul 2 (i_div l3 2))) (i_rem l3 2))))) l4) (i_add 1 (F 193 (i_add (i_add (i_mul 20 l1) (i_mul 2 (F 183 (i_add (i_add (i_mul 40 (F 175 9)) (i_mul 2 (i_div l3 2))) (i_sub 1 (i_rem l3 2)))))) 0)))) v F') ∧
            (s_le (F 193 (i_add (i_add (i_mul 20 l1) (i_mul 2 (F 183 (i_add (i_add (i_mul 40 (F 175 9)) (i_mul 2 (i_div l3 2))) (i_rem l3 2))))) l4)) (i_add 1 (F 193 (i_add (i_add (i_mul 20 l1) (i_mul 2 (F 183 (i_add (i_add (i_mul 40 (F 175 9)) (i_mul 2 (i_div l3 2))) (i_sub 1 (i_rem l3 2)))))) 0))) →
             ∃ m, m < n ∧ Rn m k_M_layGoal 81 [(2, 175), (0, l1), (0, l2), (0, l3), (0, i_add l4 1), (3, 0)] [] F v F')))) ∧
      (l4 ≠ 0 →
       ((F 183 (i_add (i_add (i_mul 40 (F 175 9)) (i_mul 2 (i_div l3 2))) (i_sub 1 (i_rem l3 2)))) ≠ (F 176 (i_add 20 (i_div l3 2))) →
         ((F 183 (i_add (i_add (i_mul 40 (F 175 9)) (i_mul 2 (i_div l3 2))) (i_sub 1 (i_rem l3 2)))) ≠ (F 176 (i_add 20 (i_div l3 2))) →
           (l4 = 1 →
             (s_lt (i_add 1 (F 193 (i_add (i_add (i_mul 20 l1) (i_mul 2 (F 183 (i_add (i_add (i_mul 40 (F 175 9)) (i_mul 2 (i_div l3 2))) (i_sub 1 (i_rem l3 2)))))) 1))) (F 193 (i_add (i_add (i_mul 20 l1) (i_mul 2 (F 183 (i_add (i_add (i_mul 40 (F 175 9)) (i_mul 2 (i_div l3 2))) (i_rem l3 2))))) l4)) →
               ∃ m, m < n ∧ Rn m k_M_layGoal 81 [(2, 175), (0, l1), (0, 1), (0, l3), (0, i_add l4 1), (3, 0)] [] (fu F 193 (i_add (i_add (i_mul 20 l1) (i_mul 2 (F 183 (i_add (i_add (i_mul 40 (F 175 9)) (i_mul 2 (i_div l3 2))) (i_rem l3 2))))) l4) (i_add 1 (F 193 (i_add (i_add (i_mul 20 l1) (i_mul 2 (F 183 (i_add (i_add (i_mul 40 (F 175 9)) (i_mul 2 (i_div l3 2))) (i_sub 1 (i_rem l3 2)))))) 1)))) v F') ∧
              (s_le (F 193 (i_add (i_add (i_mul 20 l1) (i_mul 2 (F 183 (i_add (i_add (i_mul 40 (F 175 9)) (i_mul 2 (i_div l3 2))) (i_rem l3 2))))) l4)) (i_add 1 (F 193 (i_add (i_add (i_mul 20 l1) (i_mul 2 (F 183 (i_add (i_add (i_mul 40 (F 175 9)) (i_mul 2 (i_div l3 2))) (i_sub 1 (i_rem l3 2)))))) 1))) →
               ∃ m, m < n ∧ Rn m k_M_layGoal 81 [(2, 175), (0, l1), (0, l2), (0, l3), (0, i_add l4 1), (3, 0)] [] F v F')) ∧
            (l4 ≠ 1 →
             (s_lt (i_add 1 (F 193 (i_add (i_add (i_mul 20 l1) (i_mul 2 (F 183 (i_add (i_add (i_mul 40 (F 175 9)) (i_mul 2 (i_div l3 2))) (i_sub 1 (i_rem l3 2)))))) 1))) (F 193 (i_add (i_add (i_mul 20 l1) (i_mul 2 (F 183 (i_add (i_add (i_mul 40 (F 175 9)) (i_mul 2 (i_div l3 2))) (i_rem l3 2))))) l4)) →
               ∃ m, m < n ∧ Rn m k_M_layGoal 81 [(2, 175), (0, l1), (0, 1), (0, l3), (0, i_add l4 1), (3, 0)] [] (fu F 193 (i_add (i_add (i_mul 20 l1) (i_mul 2 (F 183 (i_add (i_add (i_mul 40 (F 175 9)) (i_mul 2 (i_div l3 2))) (i_rem l3 2))))) l4) (i_add 1 (F 193 (i_add (i_add (i_mul 20 l1) (i_mul 2 (F 183 (i_add (i_add (i_mul 40 (F 175 9)) (i_mul 2 (i_div l3 2))) (i_sub 1 (i_rem l3 2)))))) 1)))) v F') ∧
              (s_le (F 193 (i_add (i_add (i_mul 20 l1) (i_mul 2 (F 183 (i_add (i_add (i_mul 40 (F 175 9)) (i_mul 2 (i_div l3 2))) (i_rem l3 2))))) l4)) (i_add 1 (F 193 (i_add (i_add (i_mul 20 l1) (i_mul 2 (F 183 (i_add (i_add (i_mul 40 (F 175 9)) (i_mul 2 (i_div l3 2))) (i_sub 1 (i_rem l3 2)))))) 1))) →
               ∃ m, m < n ∧ Rn m k_M_layGoal 81 [(2, 175), (0, l1), (0, l2), (0, l3), (0, i_add l4 1), (3, 0)] [] F v F'))) ∧
          ((F 183 (i_add (i_add (i_mul 40 (F 175 9)) (i_mul 2 (i_div l3 2))) (i_sub 1 (i_rem l3 2)))) = (F 176 (i_add 20 (i_div l3 2))) →
           (l4 = 1 →
             (s_lt (i_add 1 (F 193 (i_add (i_add (i_mul 20 l1) (i_mul 2 (F 183 (i_add (i_add (i_mul 40 (F 175 9)) (i_mul 2 (i_div l3 2))) (i_sub 1 (i_rem l3 2)))))) 1))) (F 193 (i_add (i_add (i_mul 20 l1) (i_mul 2 (F 183 (i_add (i_add (i_mul 40 (F 175 9)) (i_mul 2 (i_div l3 2))) (i_rem l3 2))))) l4)) →
               ∃ m, m < n ∧ Rn m k_M_layGoal 81 [(2, 175), (0, l1), (0, 1), (0, l3), (0, i_add l4 1), (3, 0)] [] (fu F 193 (i_add (i_add (i_mul 20 l1) (i_mul 2 (F 183 (i_add (i_add (i_mul 40 (F 175 9)) (i_mul 2 (i_div l3 2))) (i_rem l3 2))))) l4) (i_add 1 (F 193 (i_add (i_add (i_mul 20 l1) (i_mul 2 (F 183 (i_add (i_add (i_mul 40 (F 175 9)) (i_mul 2 (i_div l3 2))) (i_sub 1 (i_rem l3 2)))))) 1)))) v F') ∧
              (s_le (F 193 (i_add (i_add (i_mul 20 l1) (i_mul 2 (F 183 (i_add (i_add (i_mul 40 (F 175 9)) (i_mul 2 (i_div l3 2))) (i_rem l3 2))))) l4)) (i_add 1 (F 193 (i_add (i_add (i_mul 20 l1) (i_mul 2 (F 183 (i_add (i_add (i_mul 40 (F 175 9)) (i_mul 2 (i_div l3 2))) (i_sub 1 (i_rem l3 2)))))) 1))) →
               ∃ m, m < n ∧ Rn m k_M_layGoal 81 [(2, 175), (0, l1), (0, l2), (0, l3), (0, i_add l4 1), (3, 0)] [] F v F')) ∧
            (l4 ≠ 1 →
             (s_lt (i_add 1 (F 193 (i_add (i_add (i_mul 20 l1) (i_mul 2 (F 183 (i_add (i_add (i_mul 40 (F 175 9)) (i_mul 2 (i_div l3 2))) (i_sub 1 (i_rem l3 2)))))) 0))) (F 193 (i_add (i_add (i_mul 20 l1) (i_mul 2 (F 183 (i_add (i_add (i_mul 40 (F 175 9)) (i_mul 2 (i_div l3 2))) (i_rem l3 2))))) l4)) →
               ∃ m, m < n ∧ Rn m k_M_layGoal 81 [(2, 175), (0, l1), (0, 1), (0, l3), (0, i_add l4 1), (3, 0)] [] (fu F 193 (i_add (i_add (i_mul 20 l1) (i_mul 2 (F 183 (i_add (i_add (i_mul 40 (F 175 9)) (i_mul 2 (i_div l3 2))) (i_rem l3 2))))) l4) (i_add 1 (F 193 (i_add (i_add (i_mul 20 l1) (i_mul 2 (F 183 (i_add (i_add (i_mul 40 (F 175 9)) (i_mul 2 (i_div l3 2))) (i_sub 1 (i_rem l3 2)))))) 0)))) v F') ∧
              (s_le (F 193 (i_add (i_add (i_mul 20 l1) (i_mul 2 (F 183 (i_add (i_add (i_mul 40 (F 175 9)) (i_mul 2 (i_div l3 2))) (i_rem l3 2))))) l4)) (i_add 1 (F 193 (i_add (i_add (i_mul 20 l1) (i_mul 2 (F 183 (i_add (i_add (i_mul 40 (F 175 9)) (i_mul 2 (i_div l3 2))) (i_sub 1 (i_rem l3 2)))))) 0))) →
               ∃ m, m < n ∧ Rn m k_M_layGoal 81 [(2, 175), (0, l1), (0, l2), (0, l3), (0, i_add l4 1), (3, 0)] [] F v F')))) ∧
        ((F 183 (i_add (i_add (i_mul 40 (F 175 9)) (i_mul 2 (i_div l3 2))) (i_sub 1 (i_rem l3 2)))) = (F 176 (i_add 20 (i_div l3 2))) →
         ∃ m, m < n ∧ Rn m k_M_layGoal 81 [(2, 175), (0, l1), (0, l2), (0, l3), (0, i_add l4 1), (3, 0)] [] F v F')))) := by
  have t := q_ok cv_260 ap_260 (hd := [(2, [1, 1, 1, 0, 0, 0]), (62, [1, 1, 1, 0, 0, 0]), (70, [1, 1, 1, 1, 0, 0]), (81, [1, 1, 1, 1, 1, 0])]) h rfl rfl
  exact t
-- TurnNetModel.layTurns()V
theorem c_M_layTurns {F : fx_F} {v : fx_V} {F' : fx_F} (h : Cl k_M_layTurns [(2, 175)] F v F') : ∃ n, Rn n k_M_layTurns 0 [(2, 175), (3, 0), (3, 0)] [] F v F' := by
  obtain ⟨n, s, hs, h⟩ := h
  rw [sg_261] at hs
  cases hs
  exact ⟨n, h⟩
set_option maxRecDepth 40000 in
theorem q_M_layTurns_0 {n : Nat} {F : fx_F} {v : fx_V} {F' : fx_F} (h : Rn n k_M_layTurns 0 [(2, 175), (3, 0), (3, 0)] [] F v F') :
  ∃ m, m < n ∧ Rn m k_M_layTurns 2 [(2, 175), (0, 0), (3, 0)] [] F v F' := by
  have t := q_ok cv_261 ap_261 (hd := [(2, [1, 1, 0]), (19, [1, 1, 1])]) h rfl rfl
  exact t
set_option maxRecDepth 40000 in
theorem q_M_layTurns_2 {n : Nat} {l1 : Nat} {F : fx_F} {v : fx_V} {F' : fx_F} (h : Rn n k_M_layTurns 2 [(2, 175), (0, l1), (3, 0)] [] F v F') :
  (s_le (i_mul 2 (F 178 (F 175 9))) l1 →
   v = (2, 0) ∧ F' = F) ∧
  (s_lt l1 (i_mul 2 (F 178 (F 175 9))) →
   ∃ m, m < n ∧ Rn m k_M_layTurns 19 [(2, 175), (0, l1), (0, 0)] [] (fu F 192 l1 0) v F') := by
  have t := q_ok cv_261 ap_261 (hd := [(2, [1, 1, 0]), (19, [1, 1, 1])]) h rfl rfl
  exact t
set_option maxRecDepth 40000 in
theorem q_M_layTurns_19 {n : Nat} {l1 l2 : Nat} {F : fx_F} {v : fx_V} {F' : fx_F} (h : Rn n k_M_layTurns 19 [(2, 175), (0, l1), (0, l2)] [] F v F') :
  (s_le (i_mul 2 (F 178 (F 175 9))) l2 →
   ∃ m, m < n ∧ Rn m k_M_layTurns 2 [(2, 175), (0, i_add l1 1), (3, 0)] [] F v F') ∧
  (s_lt l2 (i_mul 2 (F 178 (F 175 9))) →
   ∃ (n1 : Nat) (F1 : fx_F), Cl k_M_isLawful [(2, 175), (0, l1), (0, l2)] F (0, n1) F1 ∧
    (n1 = 0 →
      ∃ m, m < n ∧ Rn m k_M_layTurns 19 [(2, 175), (0, l1), (0, i_add l2 1)] [] F1 v F') ∧
     (n1 ≠ 0 →
      ∃ m, m < n ∧ Rn m k_M_layTurns 19 [(2, 175), (0, l1), (0, i_add l2 1)] [] (fu F1 192 l1 (rx_j_or (F1 192 l1) (rx_j_shl 1 l2))) v F')) := by
  have t := q_ok cv_261 ap_261 (hd := [(2, [1, 1, 0]), (19, [1, 1, 1])]) h rfl rfl
  exact t
-- TurnNetModel.orient(I)I
theorem c_M_orient {a1 : Nat} {F : fx_F} {v : fx_V} {F' : fx_F} (h : Cl k_M_orient [(2, 175), (0, a1)] F v F') : ∃ n, Rn n k_M_orient 0 [(2, 175), (0, a1), (3, 0)] [] F v F' := by
  obtain ⟨n, s, hs, h⟩ := h
  rw [sg_262] at hs
  cases hs
  exact ⟨n, h⟩
set_option maxRecDepth 40000 in
theorem q_M_orient_0 {n : Nat} {a1 : Nat} {F : fx_F} {v : fx_V} {F' : fx_F} (h : Rn n k_M_orient 0 [(2, 175), (0, a1), (3, 0)] [] F v F') :
  (s_lt a1 0 →
   v = (0, 4294967295) ∧ F' = F) ∧
  (s_le 0 a1 →
   (s_lt (i_sub (F 177 (F 175 9)) 1) a1 →
     v = (0, 4294967295) ∧ F' = F) ∧
    (s_le a1 (i_sub (F 177 (F 175 9)) 1) →
     ∃ F1 : fx_F, Cl k_M_keepAct [(2, 175)] F (2, 0) F1 ∧
      ∃ F2 : fx_F, Cl k_M_orientBy [(2, 175), (0, a1)] F1 (2, 0) F2 ∧
       ∃ (n3 : Nat) (F3 : fx_F), Cl k_M_flips [(2, 175)] F2 (0, n3) F3 ∧
        ∃ F4 : fx_F, Cl k_M_takeOver [(2, 175)] F3 (2, 0) F4 ∧
         v = (0, n3) ∧ F' = (fu F4 176 40 a1))) := by
  have t := q_ok cv_262 ap_262 (hd := []) h rfl rfl
  exact t
-- TurnNetModel.startAnew()V
theorem c_M_startAnew {F : fx_F} {v : fx_V} {F' : fx_F} (h : Cl k_M_startAnew [(2, 175)] F v F') : ∃ n, Rn n k_M_startAnew 0 [(2, 175), (3, 0)] [] F v F' := by
  obtain ⟨n, s, hs, h⟩ := h
  rw [sg_264] at hs
  cases hs
  exact ⟨n, h⟩
set_option maxRecDepth 40000 in
theorem q_M_startAnew_0 {n : Nat} {F : fx_F} {v : fx_V} {F' : fx_F} (h : Rn n k_M_startAnew 0 [(2, 175), (3, 0)] [] F v F') :
  ∃ m, m < n ∧ Rn m k_M_startAnew 2 [(2, 175), (0, 0)] [] F v F' := by
  have t := q_ok cv_264 ap_264 (hd := [(2, [1, 1]), (23, [1, 1]), (75, [1, 1]), (116, [1, 1])]) h rfl rfl
  exact t
set_option maxRecDepth 40000 in
theorem q_M_startAnew_2 {n : Nat} {l1 : Nat} {F : fx_F} {v : fx_V} {F' : fx_F} (h : Rn n k_M_startAnew 2 [(2, 175), (0, l1)] [] F v F') :
  (s_le 103 l1 →
   ∃ m, m < n ∧ Rn m k_M_startAnew 23 [(2, 175), (0, 0)] [] F v F') ∧
  (s_lt l1 103 →
   ∃ m, m < n ∧ Rn m k_M_startAnew 2 [(2, 175), (0, i_add l1 1)] [] (fu F 176 l1 0) v F') := by
  have t := q_ok cv_264 ap_264 (hd := [(2, [1, 1]), (23, [1, 1]), (75, [1, 1]), (116, [1, 1])]) h rfl rfl
  exact t
set_option maxRecDepth 40000 in
theorem q_M_startAnew_23 {n : Nat} {l1 : Nat} {F : fx_F} {v : fx_V} {F' : fx_F} (h : Rn n k_M_startAnew 23 [(2, 175), (0, l1)] [] F v F') :
  (s_le 20 l1 →
   ∃ F1 : fx_F, Cl k_M_orientBy [(2, 175), (0, F 179 (F 175 9))] (fu F 176 40 (F 179 (F 175 9))) (2, 0) F1 ∧
    ∃ m, m < n ∧ Rn m k_M_startAnew 75 [(2, 175), (0, 0)] [] F1 v F') ∧
  (s_lt l1 20 →
   ∃ m, m < n ∧ Rn m k_M_startAnew 23 [(2, 175), (0, i_add l1 1)] [] (fu F 176 (i_add 0 l1) 1) v F') := by
  have t := q_ok cv_264 ap_264 (hd := [(2, [1, 1]), (23, [1, 1]), (75, [1, 1]), (116, [1, 1])]) h rfl rfl
  exact t
set_option maxRecDepth 40000 in
theorem q_M_startAnew_75 {n : Nat} {l1 : Nat} {F : fx_F} {v : fx_V} {F' : fx_F} (h : Rn n k_M_startAnew 75 [(2, 175), (0, l1)] [] F v F') :
  (s_le (F 178 (F 175 9)) l1 →
   ∃ m, m < n ∧ Rn m k_M_startAnew 116 [(2, 175), (0, 0)] [] (fu (fu F 175 56 0) 175 57 0) v F') ∧
  (s_lt l1 (F 178 (F 175 9)) →
   ∃ m, m < n ∧ Rn m k_M_startAnew 75 [(2, 175), (0, i_add l1 1)] [] (fu F 176 (i_add 20 l1) (F 190 l1)) v F') := by
  have t := q_ok cv_264 ap_264 (hd := [(2, [1, 1]), (23, [1, 1]), (75, [1, 1]), (116, [1, 1])]) h rfl rfl
  exact t
set_option maxRecDepth 40000 in
theorem q_M_startAnew_116 {n : Nat} {l1 : Nat} {F : fx_F} {v : fx_V} {F' : fx_F} (h : Rn n k_M_startAnew 116 [(2, 175), (0, l1)] [] F v F') :
  (s_le 2 l1 →
   v = (2, 0) ∧ F' = F) ∧
  (s_lt l1 2 →
   ∃ m, m < n ∧ Rn m k_M_startAnew 116 [(2, 175), (0, i_add l1 1)] [] (fu F 206 l1 0) v F') := by
  have t := q_ok cv_264 ap_264 (hd := [(2, [1, 1]), (23, [1, 1]), (75, [1, 1]), (116, [1, 1])]) h rfl rfl
  exact t
-- TurnNetModel.isSafe()Z
theorem c_M_isSafe {F : fx_F} {v : fx_V} {F' : fx_F} (h : Cl k_M_isSafe [(2, 175)] F v F') : ∃ n, Rn n k_M_isSafe 0 [(2, 175), (3, 0), (3, 0)] [] F v F' := by
  obtain ⟨n, s, hs, h⟩ := h
  rw [sg_266] at hs
  cases hs
  exact ⟨n, h⟩
set_option maxRecDepth 40000 in
theorem q_M_isSafe_0 {n : Nat} {F : fx_F} {v : fx_V} {F' : fx_F} (h : Rn n k_M_isSafe 0 [(2, 175), (3, 0), (3, 0)] [] F v F') :
  ∃ m, m < n ∧ Rn m k_M_isSafe 2 [(2, 175), (0, 0), (3, 0)] [] F v F' := by
  have t := q_ok cv_266 ap_266 (hd := [(2, [1, 1, 0]), (19, [1, 1, 1])]) h rfl rfl
  exact t
set_option maxRecDepth 40000 in
theorem q_M_isSafe_2 {n : Nat} {l1 : Nat} {F : fx_F} {v : fx_V} {F' : fx_F} (h : Rn n k_M_isSafe 2 [(2, 175), (0, l1), (3, 0)] [] F v F') :
  (s_le (i_mul 2 (F 178 (F 175 9))) l1 →
   ∃ (n1 : Nat) (F1 : fx_F), Cl k_M_hasRing [(2, 175)] F (0, n1) F1 ∧
    (n1 ≠ 0 →
      v = (0, 0) ∧ F' = F1) ∧
     (n1 = 0 →
      v = (0, 1) ∧ F' = F1)) ∧
  (s_lt l1 (i_mul 2 (F 178 (F 175 9))) →
   ∃ m, m < n ∧ Rn m k_M_isSafe 19 [(2, 175), (0, l1), (0, 0)] [] (fu F 192 l1 0) v F') := by
  have t := q_ok cv_266 ap_266 (hd := [(2, [1, 1, 0]), (19, [1, 1, 1])]) h rfl rfl
  exact t
set_option maxRecDepth 40000 in
theorem q_M_isSafe_19 {n : Nat} {l1 l2 : Nat} {F : fx_F} {v : fx_V} {F' : fx_F} (h : Rn n k_M_isSafe 19 [(2, 175), (0, l1), (0, l2)] [] F v F') :
  (s_le (i_mul 2 (F 178 (F 175 9))) l2 →
   ∃ m, m < n ∧ Rn m k_M_isSafe 2 [(2, 175), (0, i_add l1 1), (3, 0)] [] F v F') ∧
  (s_lt l2 (i_mul 2 (F 178 (F 175 9))) →
   ∃ (n1 : Nat) (F1 : fx_F), Cl k_M_isEither [(2, 175), (0, l1), (0, l2)] F (0, n1) F1 ∧
    (n1 = 0 →
      ∃ m, m < n ∧ Rn m k_M_isSafe 19 [(2, 175), (0, l1), (0, i_add l2 1)] [] F1 v F') ∧
     (n1 ≠ 0 →
      ∃ m, m < n ∧ Rn m k_M_isSafe 19 [(2, 175), (0, l1), (0, i_add l2 1)] [] (fu F1 192 l1 (rx_j_or (F1 192 l1) (rx_j_shl 1 l2))) v F')) := by
  have t := q_ok cv_266 ap_266 (hd := [(2, [1, 1, 0]), (19, [1, 1, 1])]) h rfl rfl
  exact t
-- TurnNetModel.layCome(II)V
theorem c_M_layCome {a1 a2 : Nat} {F : fx_F} {v : fx_V} {F' : fx_F} (h : Cl k_M_layCome [(2, 175), (0, a1), (0, a2)] F v F') : ∃ n, Rn n k_M_layCome 0 [(2, 175), (0, a1), (0, a2), (3, 0), (3, 0), (3, 0)] [] F v F' := by
  obtain ⟨n, s, hs, h⟩ := h
  rw [sg_267] at hs
  cases hs
  exact ⟨n, h⟩
set_option maxRecDepth 40000 in
theorem q_M_layCome_0 {n : Nat} {a1 a2 : Nat} {F : fx_F} {v : fx_V} {F' : fx_F} (h : Rn n k_M_layCome 0 [(2, 175), (0, a1), (0, a2), (3, 0), (3, 0), (3, 0)] [] F v F') :
  ∃ m, m < n ∧ Rn m k_M_layCome 2 [(2, 175), (0, a1), (0, a2), (0, 0), (3, 0), (3, 0)] [] F v F' := by
  have t := q_ok cv_267 ap_267 (hd := [(2, [1, 1, 1, 1, 0, 0]), (39, [1, 0, 1, 1, 0, 0]), (46, [1, 0, 1, 1, 1, 0]), (58, [1, 0, 1, 1, 1, 1])]) h rfl rfl
  exact t
set_option maxRecDepth 40000 in
theorem q_M_layCome_2 {n : Nat} {l1 l2 l3 : Nat} {F : fx_F} {v : fx_V} {F' : fx_F} (h : Rn n k_M_layCome 2 [(2, 175), (0, l1), (0, l2), (0, l3), (3, 0), (3, 0)] [] F v F') :
  (s_le 20 l3 →
   ∃ m, m < n ∧ Rn m k_M_layCome 39 [(2, 175), (3, 0), (0, l2), (0, F 193 (i_add (i_add (i_mul 20 l2) (i_mul 2 l1)) 0)), (3, 0), (3, 0)] [] F v F') ∧
  (s_lt l3 20 →
   (l3 ≠ (i_mul 2 l1) →
     ∃ m, m < n ∧ Rn m k_M_layCome 2 [(2, 175), (0, l1), (0, l2), (0, i_add l3 1), (3, 0), (3, 0)] [] (fu F 195 l3 0) v F') ∧
    (l3 = (i_mul 2 l1) →
     ∃ m, m < n ∧ Rn m k_M_layCome 2 [(2, 175), (0, l1), (0, l2), (0, i_add l3 1), (3, 0), (3, 0)] [] (fu F 195 l3 1) v F')) := by
  have t := q_ok cv_267 ap_267 (hd := [(2, [1, 1, 1, 1, 0, 0]), (39, [1, 0, 1, 1, 0, 0]), (46, [1, 0, 1, 1, 1, 0]), (58, [1, 0, 1, 1, 1, 1])]) h rfl rfl
  exact t
set_option maxRecDepth 40000 in
theorem q_M_layCome_39 {n : Nat} {l2 l3 : Nat} {F : fx_F} {v : fx_V} {F' : fx_F} (h : Rn n k_M_layCome 39 [(2, 175), (3, 0), (0, l2), (0, l3), (3, 0), (3, 0)] [] F v F') :
  (s_le l3 0 →
   v = (2, 0) ∧ F' = F) ∧
  (s_lt 0 l3 →
   ∃ m, m < n ∧ Rn m k_M_layCome 46 [(2, 175), (3, 0), (0, l2), (0, l3), (0, 0), (3, 0)] [] F v F') := by
  have t := q_ok cv_267 ap_267 (hd := [(2, [1, 1, 1, 1, 0, 0]), (39, [1, 0, 1, 1, 0, 0]), (46, [1, 0, 1, 1, 1, 0]), (58, [1, 0, 1, 1, 1, 1])]) h rfl rfl
  exact t
set_option maxRecDepth 40000 in
theorem q_M_layCome_46 {n : Nat} {l2 l3 l4 : Nat} {F : fx_F} {v : fx_V} {F' : fx_F} (h : Rn n k_M_layCome 46 [(2, 175), (3, 0), (0, l2), (0, l3), (0, l4), (3, 0)] [] F v F') :
  (s_le (i_mul 2 (F 178 (F 175 9))) l4 →
   ∃ m, m < n ∧ Rn m k_M_layCome 39 [(2, 175), (3, 0), (0, l2), (0, i_add l3 4294967295), (3, 0), (3, 0)] [] F v F') ∧
  (s_lt l4 (i_mul 2 (F 178 (F 175 9))) →
   ∃ m, m < n ∧ Rn m k_M_layCome 58 [(2, 175), (3, 0), (0, l2), (0, l3), (0, l4), (0, 0)] [] F v F') := by
  have t := q_ok cv_267 ap_267 (hd := [(2, [1, 1, 1, 1, 0, 0]), (39, [1, 0, 1, 1, 0, 0]), (46, [1, 0, 1, 1, 1, 0]), (58, [1, 0, 1, 1, 1, 1])]) h rfl rfl
  exact t
set_option maxRecDepth 40000 in
theorem q_M_layCome_58 {n : Nat} {l2 l3 l4 l5 : Nat} {F : fx_F} {v : fx_V} {F' : fx_F} (h : Rn n k_M_layCome 58 [(2, 175), (3, 0), (0, l2), (0, l3), (0, l4), (0, l5)] [] F v F') :
  (s_le 2 l5 →
   ∃ m, m < n ∧ Rn m k_M_layCome 46 [(2, 175), (3, 0), (0, l2), (0, l3), (0, i_add l4 1), (3, 0)] [] F v F') ∧
  (s_lt l5 2 →
   ((F 193 (i_add (i_add (i_mul 20 l2) (i_mul 2 (F 183 (i_add (i_add (i_mul 40 (F 175 9)) (i_mul 2 (i_div l4 2))) (i_rem l4 2))))) l5)) ≠ l3 →
     ∃ m, m < n ∧ Rn m k_M_layCome 58 [(2, 175), (3, 0), (0, l2), (0, l3), (0, l4), (0, i_add l5 1)] [] F v F') ∧
    ((F 193 (i_add (i_add (i_mul 20 l2) (i_mul 2 (F 183 (i_add (i_add (i_mul 40 (F 175 9)) (i_mul 2 (i_div l4 2))) (i_rem l4 2))))) l5)) = l3 →
     ∃ (n1 : Nat) (F1 : fx_F), Cl k_M_isNext [(2, 175), (0, l2), (0, l4), (0, l5)] F (0, n1) F1 ∧
      (n1 ≠ 0 →
        ((F1 183 (i_add (i_add (i_mul 40 (F1 175 9)) (i_mul 2 (i_div l4 2))) (i_sub 1 (i_rem l4 2)))) ≠ (F1 176 (i_add 20 (i_div l4 2))) →
          (l5 = 1 →
            ∃ m, m < n ∧ Rn m k_M_layCome 58 [(2, 175), (3, 0), (0, l2), (0, l3), (0, l4), (0, i_add l5 1)] [] (fu F1 195 (i_add (i_mul 2 (F1 183 (i_add (i_add (i_mul 40 (F1 175 9)) (i_mul 2 (i_div l4 2))) (i_sub 1 (i_rem l4 2))))) 1) (rx_j_add (F1 195 (i_add (i_mul 2 (F1 183 (i_add (i_add (i_mul 40 (F1 175 9)) (i_mul 2 (i_div l4 2))) (i_sub 1 (i_rem l4 2))))) 1)) (F1 195 (i_add (i_mul 2 (F1 183 (i_add (i_add (i_mul 40 (F1 175 9)) (i_mul 2 (i_div l4 2))) (i_rem l4 2)))) l5)))) v F') ∧
           (l5 ≠ 1 →
            ∃ m, m < n ∧ Rn m k_M_layCome 58 [(2, 175), (3, 0), (0, l2), (0, l3), (0, l4), (0, i_add l5 1)] [] (fu F1 195 (i_add (i_mul 2 (F1 183 (i_add (i_add (i_mul 40 (F1 175 9)) (i_mul 2 (i_div l4 2))) (i_sub 1 (i_rem l4 2))))) 1) (rx_j_add (F1 195 (i_add (i_mul 2 (F1 183 (i_add (i_add (i_mul 40 (F1 175 9)) (i_mul 2 (i_div l4 2))) (i_sub 1 (i_rem l4 2))))) 1)) (F1 195 (i_add (i_mul 2 (F1 183 (i_add (i_add (i_mul 40 (F1 175 9)) (i_mul 2 (i_div l4 2))) (i_rem l4 2)))) l5)))) v F')) ∧
         ((F1 183 (i_add (i_add (i_mul 40 (F1 175 9)) (i_mul 2 (i_div l4 2))) (i_sub 1 (i_rem l4 2)))) = (F1 176 (i_add 20 (i_div l4 2))) →
          (l5 = 1 →
            ∃ m, m < n ∧ Rn m k_M_layCome 58 [(2, 175), (3, 0), (0, l2), (0, l3), (0, l4), (0, i_add l5 1)] [] (fu F1 195 (i_add (i_mul 2 (F1 183 (i_add (i_add (i_mul 40 (F1 175 9)) (i_mul 2 (i_div l4 2))) (i_sub 1 (i_rem l4 2))))) 1) (rx_j_add (F1 195 (i_add (i_mul 2 (F1 183 (i_add (i_add (i_mul 40 (F1 175 9)) (i_mul 2 (i_div l4 2))) (i_sub 1 (i_rem l4 2))))) 1)) (F1 195 (i_add (i_mul 2 (F1 183 (i_add (i_add (i_mul 40 (F1 175 9)) (i_mul 2 (i_div l4 2))) (i_rem l4 2)))) l5)))) v F') ∧
           (l5 ≠ 1 →
            ∃ m, m < n ∧ Rn m k_M_layCome 58 [(2, 175), (3, 0), (0, l2), (0, l3), (0, l4), (0, i_add l5 1)] [] (fu F1 195 (i_add (i_mul 2 (F1 183 (i_add (i_add (i_mul 40 (F1 175 9)) (i_mul 2 (i_div l4 2))) (i_sub 1 (i_rem l4 2))))) 0) (rx_j_add (F1 195 (i_add (i_mul 2 (F1 183 (i_add (i_add (i_mul 40 (F1 175 9)) (i_mul 2 (i_div l4 2))) (i_sub 1 (i_rem l4 2))))) 0)) (F1 195 (i_add (i_mul 2 (F1 183 (i_add (i_add (i_mul 40 (F1 175 9)) (i_mul 2 (i_div l4 2))) (i_rem l4 2)))) l5)))) v F'))) ∧
       (n1 = 0 →
        ∃ m, m < n ∧ Rn m k_M_layCome 58 [(2, 175), (3, 0), (0, l2), (0, l3), (0, l4), (0, i_add l5 1)] [] F1 v F'))) := by
  have t := q_ok cv_267 ap_267 (hd := [(2, [1, 1, 1, 1, 0, 0]), (39, [1, 0, 1, 1, 0, 0]), (46, [1, 0, 1, 1, 1, 0]), (58, [1, 0, 1, 1, 1, 1])]) h rfl rfl
  exact t
-- TurnNetModel.layGoals()V
theorem c_M_layGoals {F : fx_F} {v : fx_V} {F' : fx_F} (h : Cl k_M_layGoals [(2, 175)] F v F') : ∃ n, Rn n k_M_layGoals 0 [(2, 175), (3, 0)] [] F v F' := by
  obtain ⟨n, s, hs, h⟩ := h
  rw [sg_268] at hs
  cases hs
  exact ⟨n, h⟩
set_option maxRecDepth 40000 in
theorem q_M_layGoals_0 {n : Nat} {F : fx_F} {v : fx_V} {F' : fx_F} (h : Rn n k_M_layGoals 0 [(2, 175), (3, 0)] [] F v F') :
  ∃ m, m < n ∧ Rn m k_M_layGoals 2 [(2, 175), (0, 0)] [] F v F' := by
  have t := q_ok cv_268 ap_268 (hd := [(2, [1, 1])]) h rfl rfl
  exact t
set_option maxRecDepth 40000 in
theorem q_M_layGoals_2 {n : Nat} {l1 : Nat} {F : fx_F} {v : fx_V} {F' : fx_F} (h : Rn n k_M_layGoals 2 [(2, 175), (0, l1)] [] F v F') :
  (s_le (F 177 (F 175 9)) l1 →
   v = (2, 0) ∧ F' = F) ∧
  (s_lt l1 (F 177 (F 175 9)) →
   ∃ F1 : fx_F, Cl k_M_layGoal [(2, 175), (0, l1)] F (2, 0) F1 ∧
    ∃ m, m < n ∧ Rn m k_M_layGoals 2 [(2, 175), (0, i_add l1 1)] [] F1 v F') := by
  have t := q_ok cv_268 ap_268 (hd := [(2, [1, 1])]) h rfl rfl
  exact t
-- TurnNetModel.layOnward(I)V
theorem c_M_layOnward {a1 : Nat} {F : fx_F} {v : fx_V} {F' : fx_F} (h : Cl k_M_layOnward [(2, 175), (0, a1)] F v F') : ∃ n, Rn n k_M_layOnward 0 [(2, 175), (0, a1), (3, 0), (3, 0), (3, 0)] [] F v F' := by
  obtain ⟨n, s, hs, h⟩ := h
  rw [sg_269] at hs
  cases hs
  exact ⟨n, h⟩
set_option maxRecDepth 40000 in
theorem q_M_layOnward_0 {n : Nat} {a1 : Nat} {F : fx_F} {v : fx_V} {F' : fx_F} (h : Rn n k_M_layOnward 0 [(2, 175), (0, a1), (3, 0), (3, 0), (3, 0)] [] F v F') :
  ∃ F1 : fx_F, Cl k_M_layGoal [(2, 175), (0, a1)] F (2, 0) F1 ∧
  ∃ m, m < n ∧ Rn m k_M_layOnward 7 [(2, 175), (0, a1), (0, 0), (3, 0), (3, 0)] [] F1 v F' := by
  have t := q_ok cv_269 ap_269 (hd := [(7, [1, 1, 1, 0, 0]), (39, [1, 1, 1, 0, 0]), (47, [1, 1, 1, 1, 0]), (58, [1, 1, 1, 1, 1])]) h rfl rfl
  exact t
set_option maxRecDepth 40000 in
theorem q_M_layOnward_7 {n : Nat} {l1 l2 : Nat} {F : fx_F} {v : fx_V} {F' : fx_F} (h : Rn n k_M_layOnward 7 [(2, 175), (0, l1), (0, l2), (3, 0), (3, 0)] [] F v F') :
  (s_le 20 l2 →
   ∃ m, m < n ∧ Rn m k_M_layOnward 39 [(2, 175), (0, l1), (0, 1), (3, 0), (3, 0)] [] F v F') ∧
  (s_lt l2 20 →
   ((i_div l2 2) ≠ l1 →
     ∃ m, m < n ∧ Rn m k_M_layOnward 7 [(2, 175), (0, l1), (0, i_add l2 1), (3, 0), (3, 0)] [] (fu F 194 l2 0) v F') ∧
    ((i_div l2 2) = l1 →
     ∃ m, m < n ∧ Rn m k_M_layOnward 7 [(2, 175), (0, l1), (0, i_add l2 1), (3, 0), (3, 0)] [] (fu F 194 l2 1) v F')) := by
  have t := q_ok cv_269 ap_269 (hd := [(7, [1, 1, 1, 0, 0]), (39, [1, 1, 1, 0, 0]), (47, [1, 1, 1, 1, 0]), (58, [1, 1, 1, 1, 1])]) h rfl rfl
  exact t
set_option maxRecDepth 40000 in
theorem q_M_layOnward_39 {n : Nat} {l1 l2 : Nat} {F : fx_F} {v : fx_V} {F' : fx_F} (h : Rn n k_M_layOnward 39 [(2, 175), (0, l1), (0, l2), (3, 0), (3, 0)] [] F v F') :
  (s_lt 20 l2 →
   v = (2, 0) ∧ F' = F) ∧
  (s_le l2 20 →
   ∃ m, m < n ∧ Rn m k_M_layOnward 47 [(2, 175), (0, l1), (0, l2), (0, 0), (3, 0)] [] F v F') := by
  have t := q_ok cv_269 ap_269 (hd := [(7, [1, 1, 1, 0, 0]), (39, [1, 1, 1, 0, 0]), (47, [1, 1, 1, 1, 0]), (58, [1, 1, 1, 1, 1])]) h rfl rfl
  exact t
set_option maxRecDepth 40000 in
theorem q_M_layOnward_47 {n : Nat} {l1 l2 l3 : Nat} {F : fx_F} {v : fx_V} {F' : fx_F} (h : Rn n k_M_layOnward 47 [(2, 175), (0, l1), (0, l2), (0, l3), (3, 0)] [] F v F') :
  (s_le (i_mul 2 (F 178 (F 175 9))) l3 →
   ∃ m, m < n ∧ Rn m k_M_layOnward 39 [(2, 175), (0, l1), (0, i_add l2 1), (3, 0), (3, 0)] [] F v F') ∧
  (s_lt l3 (i_mul 2 (F 178 (F 175 9))) →
   ∃ m, m < n ∧ Rn m k_M_layOnward 58 [(2, 175), (0, l1), (0, l2), (0, l3), (0, 0)] [] F v F') := by
  have t := q_ok cv_269 ap_269 (hd := [(7, [1, 1, 1, 0, 0]), (39, [1, 1, 1, 0, 0]), (47, [1, 1, 1, 1, 0]), (58, [1, 1, 1, 1, 1])]) h rfl rfl
  exact t
set_option maxRecDepth 40000 in
theorem q_M_layOnward_58 {n : Nat} {l1 l2 l3 l4 : Nat} {F : fx_F} {v : fx_V} {F' : fx_F} (h : Rn n k_M_layOnward 58 [(2, 175), (0, l1), (0, l2), (0, l3), (0, l4)] [] F v F') :
  (s_le 2 l4 →
   ∃ m, m < n ∧ Rn m k_M_layOnward 47 [(2, 175), (0, l1), (0, l2), (0, i_add l3 1), (3, 0)] [] F v F') ∧
  (s_lt l4 2 →
   ((F 193 (i_add (i_add (i_mul 20 l1) (i_mul 2 (F 183 (i_add (i_add (i_mul 40 (F 175 9)) (i_mul 2 (i_div l3 2))) (i_rem l3 2))))) l4)) ≠ l2 →
     ∃ m, m < n ∧ Rn m k_M_layOnward 58 [(2, 175), (0, l1), (0, l2), (0, l3), (0, i_add l4 1)] [] F v F') ∧
    ((F 193 (i_add (i_add (i_mul 20 l1) (i_mul 2 (F 183 (i_add (i_add (i_mul 40 (F 175 9)) (i_mul 2 (i_div l3 2))) (i_rem l3 2))))) l4)) = l2 →
     ∃ (n1 : Nat) (F1 : fx_F), Cl k_M_isNext [(2, 175), (0, l1), (0, l3), (0, l4)] F (0, n1) F1 ∧
      (n1 ≠ 0 →
        ((F1 183 (i_add (i_add (i_mul 40 (F1 175 9)) (i_mul 2 (i_div l3 2))) (i_sub 1 (i_rem l3 2)))) ≠ (F1 176 (i_add 20 (i_div l3 2))) →
          (l4 = 1 →
            ∃ m, m < n ∧ Rn m k_M_layOnward 58 [(2, 175), (0, l1), (0, l2), (0, l3), (0, i_add l4 1)] [] (fu F1 194 (i_add (i_mul 2 (F1 183 (i_add (i_add (i_mul 40 (F1 175 9)) (i_mul 2 (i_div l3 2))) (i_rem l3 2)))) l4) (rx_j_add (F1 194 (i_add (i_mul 2 (F1 183 (i_add (i_add (i_mul 40 (F1 175 9)) (i_mul 2 (i_div l3 2))) (i_rem l3 2)))) l4)) (F1 194 (i_add (i_mul 2 (F1 183 (i_add (i_add (i_mul 40 (F1 175 9)) (i_mul 2 (i_div l3 2))) (i_sub 1 (i_rem l3 2))))) 1)))) v F') ∧
           (l4 ≠ 1 →
            ∃ m, m < n ∧ Rn m k_M_layOnward 58 [(2, 175), (0, l1), (0, l2), (0, l3), (0, i_add l4 1)] [] (fu F1 194 (i_add (i_mul 2 (F1 183 (i_add (i_add (i_mul 40 (F1 175 9)) (i_mul 2 (i_div l3 2))) (i_rem l3 2)))) l4) (rx_j_add (F1 194 (i_add (i_mul 2 (F1 183 (i_add (i_add (i_mul 40 (F1 175 9)) (i_mul 2 (i_div l3 2))) (i_rem l3 2)))) l4)) (F1 194 (i_add (i_mul 2 (F1 183 (i_add (i_add (i_mul 40 (F1 175 9)) (i_mul 2 (i_div l3 2))) (i_sub 1 (i_rem l3 2))))) 1)))) v F')) ∧
         ((F1 183 (i_add (i_add (i_mul 40 (F1 175 9)) (i_mul 2 (i_div l3 2))) (i_sub 1 (i_rem l3 2)))) = (F1 176 (i_add 20 (i_div l3 2))) →
          (l4 = 1 →
            ∃ m, m < n ∧ Rn m k_M_layOnward 58 [(2, 175), (0, l1), (0, l2), (0, l3), (0, i_add l4 1)] [] (fu F1 194 (i_add (i_mul 2 (F1 183 (i_add (i_add (i_mul 40 (F1 175 9)) (i_mul 2 (i_div l3 2))) (i_rem l3 2)))) l4) (rx_j_add (F1 194 (i_add (i_mul 2 (F1 183 (i_add (i_add (i_mul 40 (F1 175 9)) (i_mul 2 (i_div l3 2))) (i_rem l3 2)))) l4)) (F1 194 (i_add (i_mul 2 (F1 183 (i_add (i_add (i_mul 40 (F1 175 9)) (i_mul 2 (i_div l3 2))) (i_sub 1 (i_rem l3 2))))) 1)))) v F') ∧
           (l4 ≠ 1 →
            ∃ m, m < n ∧ Rn m k_M_layOnward 58 [(2, 175), (0, l1), (0, l2), (0, l3), (0, i_add l4 1)] [] (fu F1 194 (i_add (i_mul 2 (F1 183 (i_add (i_add (i_mul 40 (F1 175 9)) (i_mul 2 (i_div l3 2))) (i_rem l3 2)))) l4) (rx_j_add (F1 194 (i_add (i_mul 2 (F1 183 (i_add (i_add (i_mul 40 (F1 175 9)) (i_mul 2 (i_div l3 2))) (i_rem l3 2)))) l4)) (F1 194 (i_add (i_mul 2 (F1 183 (i_add (i_add (i_mul 40 (F1 175 9)) (i_mul 2 (i_div l3 2))) (i_sub 1 (i_rem l3 2))))) 0)))) v F'))) ∧
       (n1 = 0 →
        ∃ m, m < n ∧ Rn m k_M_layOnward 58 [(2, 175), (0, l1), (0, l2), (0, l3), (0, i_add l4 1)] [] F1 v F'))) := by
  have t := q_ok cv_269 ap_269 (hd := [(7, [1, 1, 1, 0, 0]), (39, [1, 1, 1, 0, 0]), (47, [1, 1, 1, 1, 0]), (58, [1, 1, 1, 1, 1])]) h rfl rfl
  exact t
end
