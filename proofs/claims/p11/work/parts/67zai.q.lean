-- TurnNet$Reader.readSum(I)Z
theorem c_Rd_readSum1 {a1 : Nat} {F : fx_F} {v : fx_V} {F' : fx_F} (h : Cl k_Rd_readSum1 [(2, 10), (0, a1)] F v F') : ∃ n, Rn n k_Rd_readSum1 0 [(2, 10), (0, a1), (3, 0), (3, 0)] [] F v F' := by
  obtain ⟨n, s, hs, h⟩ := h
  rw [sg_325] at hs
  cases hs
  exact ⟨n, h⟩
set_option maxRecDepth 40000 in
theorem q_Rd_readSum1_0 {n : Nat} {a1 : Nat} {F : fx_F} {v : fx_V} {F' : fx_F} (h : Rn n k_Rd_readSum1 0 [(2, 10), (0, a1), (3, 0), (3, 0)] [] F v F') :
  ∃ (n1 : Nat) (F1 : fx_F), Cl k_Rd_readProduct1 [(2, 10), (0, a1)] F (0, n1) F1 ∧
  (n1 ≠ 0 →
    ∃ m, m < n ∧ Rn m k_Rd_readSum1 12 [(2, 10), (0, a1), (0, 0), (3, 0)] [] F1 v F') ∧
   (n1 = 0 →
    v = (0, 0) ∧ F' = F1) := by
  have t := q_ok cv_325 ap_325 (hd := [(12, [1, 1, 1, 0])]) h rfl rfl
  exact t
set_option maxRecDepth 40000 in
theorem q_Rd_readSum1_12 {n : Nat} {l1 l2 : Nat} {F : fx_F} {v : fx_V} {F' : fx_F} (h : Rn n k_Rd_readSum1 12 [(2, 10), (0, l1), (0, l2), (3, 0)] [] F v F') :
  (s_le 800 l2 →
   v = (0, 1) ∧ F' = F) ∧
  (s_lt l2 800 →
   ((F 10 7) = 43 →
     ∃ F1 : fx_F, Cl k_Rd_advance [(2, 10)] F (2, 0) F1 ∧
      ∃ (n2 : Nat) (F2 : fx_F), Cl k_Rd_readProduct1 [(2, 10), (0, l1)] F1 (0, n2) F2 ∧
       (n2 ≠ 0 →
         (s_le 80 (F2 12 5) →
           ∃ m, m < n ∧ Rn m k_Rd_readSum1 12 [(2, 10), (0, l1), (0, i_add l2 1), (3, 0)] [] F2 v F') ∧
          (s_lt (F2 12 5) 80 →
           ∃ m, m < n ∧ Rn m k_Rd_readSum1 12 [(2, 10), (0, l1), (0, i_add l2 1), (3, 0)] [] (fu (fu (fu F2 17 (F2 12 5) (F 10 7)) 18 (F2 12 5) 0) 12 5 (i_add (F2 12 5) 1)) v F')) ∧
        (n2 = 0 →
         v = (0, 0) ∧ F' = F2)) ∧
    ((F 10 7) ≠ 43 →
     ((F 10 7) ≠ 45 →
       v = (0, 1) ∧ F' = F) ∧
      ((F 10 7) = 45 →
       ∃ F1 : fx_F, Cl k_Rd_advance [(2, 10)] F (2, 0) F1 ∧
        ∃ (n2 : Nat) (F2 : fx_F), Cl k_Rd_readProduct1 [(2, 10), (0, l1)] F1 (0, n2) F2 ∧
         (n2 ≠ 0 →
           (s_le 80 (F2 12 5) →
             ∃ m, m < n ∧ Rn m k_Rd_readSum1 12 [(2, 10), (0, l1), (0, i_add l2 1), (3, 0)] [] F2 v F') ∧
            (s_lt (F2 12 5) 80 →
             ∃ m, m < n ∧ Rn m k_Rd_readSum1 12 [(2, 10), (0, l1), (0, i_add l2 1), (3, 0)] [] (fu (fu (fu F2 17 (F2 12 5) (F 10 7)) 18 (F2 12 5) 0) 12 5 (i_add (F2 12 5) 1)) v F')) ∧
          (n2 = 0 →
           v = (0, 0) ∧ F' = F2)))) := by
  have t := q_ok cv_325 ap_325 (hd := [(12, [1, 1, 1, 0])]) h rfl rfl
  exact t
-- TurnNet$Reader.readUnit(I)Z
theorem c_Rd_readUnit0 {a1 : Nat} {F : fx_F} {v : fx_V} {F' : fx_F} (h : Cl k_Rd_readUnit0 [(2, 10), (0, a1)] F v F') : ∃ n, Rn n k_Rd_readUnit0 0 [(2, 10), (0, a1), (3, 0), (3, 0)] [] F v F' := by
  obtain ⟨n, s, hs, h⟩ := h
  rw [sg_326] at hs
  cases hs
  exact ⟨n, h⟩
set_option maxRecDepth 40000 in
theorem q_Rd_readUnit0_0 {n : Nat} {a1 : Nat} {F : fx_F} {v : fx_V} {F' : fx_F} (h : Rn n k_Rd_readUnit0 0 [(2, 10), (0, a1), (3, 0), (3, 0)] [] F v F') :
  ∃ (n1 : Nat) (F1 : fx_F), Cl k_Rd_unitKind [(2, 10)] F (0, n1) F1 ∧
  (n1 ≠ 0 →
    (n1 ≠ 1 →
      (s_le 40 (F1 12 4) →
        ∃ (n2 : Nat) (F2 : fx_F), Cl k_Rd_fail [(2, 10), (0, 4)] F1 (0, n2) F2 ∧
         v = (0, n2) ∧ F' = F2) ∧
       (s_lt (F1 12 4) 40 →
        (s_le a1 5 →
          ∃ F2 : fx_F, Cl k_Rd_advance [(2, 10)] (fu F1 12 4 (i_add (F1 12 4) 1)) (2, 0) F2 ∧
           (n1 ≠ 40 →
             (n1 ≠ 5 →
               (s_le 80 (F2 12 5) →
                 v = (0, 1) ∧ F' = F2) ∧
                (s_lt (F2 12 5) 80 →
                 v = (0, 1) ∧ F' = (fu (fu (fu F2 17 (F2 12 5) n1) 18 (F2 12 5) (F1 10 8)) 12 5 (i_add (F2 12 5) 1)))) ∧
              (n1 = 5 →
               ∃ (n3 : Nat) (F3 : fx_F), Cl k_Rd_readUnit1 [(2, 10), (0, i_add a1 1)] F2 (0, n3) F3 ∧
                (n3 ≠ 0 →
                  (s_le 80 (F3 12 5) →
                    v = (0, 1) ∧ F' = F3) ∧
                   (s_lt (F3 12 5) 80 →
                    v = (0, 1) ∧ F' = (fu (fu (fu F3 17 (F3 12 5) n1) 18 (F3 12 5) (F1 10 8)) 12 5 (i_add (F3 12 5) 1)))) ∧
                 (n3 = 0 →
                  v = (0, 0) ∧ F' = F3))) ∧
            (n1 = 40 →
             ∃ (n3 : Nat) (F3 : fx_F), Cl k_Rd_readSum1 [(2, 10), (0, i_add a1 1)] F2 (0, n3) F3 ∧
              (n3 = 0 →
                v = (0, 0) ∧ F' = F3) ∧
               (n3 ≠ 0 →
                ∃ (n4 : Nat) (F4 : fx_F), Cl k_Rd_readSign [(2, 10), (0, 41)] F3 (0, n4) F4 ∧
                 (n4 = 0 →
                   v = (0, 0) ∧ F' = F4) ∧
                  (n4 ≠ 0 →
                   v = (0, 1) ∧ F' = F4)))) ∧
         (s_lt 5 a1 →
          ∃ (n2 : Nat) (F2 : fx_F), Cl k_Rd_fail [(2, 10), (0, 4)] F1 (0, n2) F2 ∧
           v = (0, n2) ∧ F' = F2))) ∧
     (n1 = 1 →
      (s_le (F1 10 8) 999 →
        (s_le 40 (F1 12 4) →
          ∃ (n2 : Nat) (F2 : fx_F), Cl k_Rd_fail [(2, 10), (0, 4)] F1 (0, n2) F2 ∧
           v = (0, n2) ∧ F' = F2) ∧
         (s_lt (F1 12 4) 40 →
          (s_le a1 5 →
            ∃ F2 : fx_F, Cl k_Rd_advance [(2, 10)] (fu F1 12 4 (i_add (F1 12 4) 1)) (2, 0) F2 ∧
             (n1 ≠ 40 →
               (n1 ≠ 5 →
                 (s_le 80 (F2 12 5) →
                   v = (0, 1) ∧ F' = F2) ∧
                  (s_lt (F2 12 5) 80 →
                   v = (0, 1) ∧ F' = (fu (fu (fu F2 17 (F2 12 5) n1) 18 (F2 12 5) (F1 10 8)) 12 5 (i_add (F2 12 5) 1)))) ∧
                (n1 = 5 →
                 ∃ (n3 : Nat) (F3 : fx_F), Cl k_Rd_readUnit1 [(2, 10), (0, i_add a1 1)] F2 (0, n3) F3 ∧
                  (n3 ≠ 0 →
                    (s_le 80 (F3 12 5) →
                      v = (0, 1) ∧ F' = F3) ∧
                     (s_lt (F3 12 5) 80 →
                      v = (0, 1) ∧ F' = (fu (fu (fu F3 17 (F3 12 5) n1) 18 (F3 12 5) (F1 10 8)) 12 5 (i_add (F3 12 5) 1)))) ∧
                   (n3 = 0 →
                    v = (0, 0) ∧ F' = F3))) ∧
              (n1 = 40 →
               ∃ (n3 : Nat) (F3 : fx_F), Cl k_Rd_readSum1 [(2, 10), (0, i_add a1 1)] F2 (0, n3) F3 ∧
                (n3 = 0 →
                  v = (0, 0) ∧ F' = F3) ∧
                 (n3 ≠ 0 →
                  ∃ (n4 : Nat) (F4 : fx_F), Cl k_Rd_readSign [(2, 10), (0, 41)] F3 (0, n4) F4 ∧
                   (n4 = 0 →
                     v = (0, 0) ∧ F' = F4) ∧
                    (n4 ≠ 0 →
                     v = (0, 1) ∧ F' = F4)))) ∧
           (s_lt 5 a1 →
            ∃ (n2 : Nat) (F2 : fx_F), Cl k_Rd_fail [(2, 10), (0, 4)] F1 (0, n2) F2 ∧
             v = (0, n2) ∧ F' = F2))) ∧
       (s_lt 999 (F1 10 8) →
        ∃ (n2 : Nat) (F2 : fx_F), Cl k_Rd_fail [(2, 10), (0, 2)] F1 (0, n2) F2 ∧
         v = (0, n2) ∧ F' = F2))) ∧
   (n1 = 0 →
    ∃ (n2 : Nat) (F2 : fx_F), Cl k_Rd_fail [(2, 10), (0, 1)] F1 (0, n2) F2 ∧
     v = (0, n2) ∧ F' = F2) := by
  have t := q_ok cv_326 ap_326 (hd := []) h rfl rfl
  exact t
-- TurnNet$Reader.readProduct(I)Z
theorem c_Rd_readProduct0 {a1 : Nat} {F : fx_F} {v : fx_V} {F' : fx_F} (h : Cl k_Rd_readProduct0 [(2, 10), (0, a1)] F v F') : ∃ n, Rn n k_Rd_readProduct0 0 [(2, 10), (0, a1), (3, 0), (3, 0)] [] F v F' := by
  obtain ⟨n, s, hs, h⟩ := h
  rw [sg_327] at hs
  cases hs
  exact ⟨n, h⟩
set_option maxRecDepth 40000 in
theorem q_Rd_readProduct0_0 {n : Nat} {a1 : Nat} {F : fx_F} {v : fx_V} {F' : fx_F} (h : Rn n k_Rd_readProduct0 0 [(2, 10), (0, a1), (3, 0), (3, 0)] [] F v F') :
  ∃ (n1 : Nat) (F1 : fx_F), Cl k_Rd_readUnit0 [(2, 10), (0, a1)] F (0, n1) F1 ∧
  (n1 ≠ 0 →
    ∃ m, m < n ∧ Rn m k_Rd_readProduct0 12 [(2, 10), (0, a1), (0, 0), (3, 0)] [] F1 v F') ∧
   (n1 = 0 →
    v = (0, 0) ∧ F' = F1) := by
  have t := q_ok cv_327 ap_327 (hd := [(12, [1, 1, 1, 0])]) h rfl rfl
  exact t
set_option maxRecDepth 40000 in
theorem q_Rd_readProduct0_12 {n : Nat} {l1 l2 : Nat} {F : fx_F} {v : fx_V} {F' : fx_F} (h : Rn n k_Rd_readProduct0 12 [(2, 10), (0, l1), (0, l2), (3, 0)] [] F v F') :
  (s_le 800 l2 →
   v = (0, 1) ∧ F' = F) ∧
  (s_lt l2 800 →
   ((F 10 7) = 42 →
     ∃ F1 : fx_F, Cl k_Rd_advance [(2, 10)] F (2, 0) F1 ∧
      ∃ (n2 : Nat) (F2 : fx_F), Cl k_Rd_readUnit0 [(2, 10), (0, l1)] F1 (0, n2) F2 ∧
       (n2 ≠ 0 →
         (s_le 80 (F2 12 5) →
           ∃ m, m < n ∧ Rn m k_Rd_readProduct0 12 [(2, 10), (0, l1), (0, i_add l2 1), (3, 0)] [] F2 v F') ∧
          (s_lt (F2 12 5) 80 →
           ∃ m, m < n ∧ Rn m k_Rd_readProduct0 12 [(2, 10), (0, l1), (0, i_add l2 1), (3, 0)] [] (fu (fu (fu F2 17 (F2 12 5) (F 10 7)) 18 (F2 12 5) 0) 12 5 (i_add (F2 12 5) 1)) v F')) ∧
        (n2 = 0 →
         v = (0, 0) ∧ F' = F2)) ∧
    ((F 10 7) ≠ 42 →
     ((F 10 7) = 47 →
       ∃ F1 : fx_F, Cl k_Rd_advance [(2, 10)] F (2, 0) F1 ∧
        ∃ (n2 : Nat) (F2 : fx_F), Cl k_Rd_readUnit0 [(2, 10), (0, l1)] F1 (0, n2) F2 ∧
         (n2 ≠ 0 →
           (s_le 80 (F2 12 5) →
             ∃ m, m < n ∧ Rn m k_Rd_readProduct0 12 [(2, 10), (0, l1), (0, i_add l2 1), (3, 0)] [] F2 v F') ∧
            (s_lt (F2 12 5) 80 →
             ∃ m, m < n ∧ Rn m k_Rd_readProduct0 12 [(2, 10), (0, l1), (0, i_add l2 1), (3, 0)] [] (fu (fu (fu F2 17 (F2 12 5) (F 10 7)) 18 (F2 12 5) 0) 12 5 (i_add (F2 12 5) 1)) v F')) ∧
          (n2 = 0 →
           v = (0, 0) ∧ F' = F2)) ∧
      ((F 10 7) ≠ 47 →
       ((F 10 7) ≠ 37 →
         v = (0, 1) ∧ F' = F) ∧
        ((F 10 7) = 37 →
         ∃ F1 : fx_F, Cl k_Rd_advance [(2, 10)] F (2, 0) F1 ∧
          ∃ (n2 : Nat) (F2 : fx_F), Cl k_Rd_readUnit0 [(2, 10), (0, l1)] F1 (0, n2) F2 ∧
           (n2 ≠ 0 →
             (s_le 80 (F2 12 5) →
               ∃ m, m < n ∧ Rn m k_Rd_readProduct0 12 [(2, 10), (0, l1), (0, i_add l2 1), (3, 0)] [] F2 v F') ∧
              (s_lt (F2 12 5) 80 →
               ∃ m, m < n ∧ Rn m k_Rd_readProduct0 12 [(2, 10), (0, l1), (0, i_add l2 1), (3, 0)] [] (fu (fu (fu F2 17 (F2 12 5) (F 10 7)) 18 (F2 12 5) 0) 12 5 (i_add (F2 12 5) 1)) v F')) ∧
            (n2 = 0 →
             v = (0, 0) ∧ F' = F2))))) := by
  have t := q_ok cv_327 ap_327 (hd := [(12, [1, 1, 1, 0])]) h rfl rfl
  exact t
-- TurnNet$Reader.readSum(I)Z
theorem c_Rd_readSum0 {a1 : Nat} {F : fx_F} {v : fx_V} {F' : fx_F} (h : Cl k_Rd_readSum0 [(2, 10), (0, a1)] F v F') : ∃ n, Rn n k_Rd_readSum0 0 [(2, 10), (0, a1), (3, 0), (3, 0)] [] F v F' := by
  obtain ⟨n, s, hs, h⟩ := h
  rw [sg_328] at hs
  cases hs
  exact ⟨n, h⟩
set_option maxRecDepth 40000 in
theorem q_Rd_readSum0_0 {n : Nat} {a1 : Nat} {F : fx_F} {v : fx_V} {F' : fx_F} (h : Rn n k_Rd_readSum0 0 [(2, 10), (0, a1), (3, 0), (3, 0)] [] F v F') :
  ∃ (n1 : Nat) (F1 : fx_F), Cl k_Rd_readProduct0 [(2, 10), (0, a1)] F (0, n1) F1 ∧
  (n1 ≠ 0 →
    ∃ m, m < n ∧ Rn m k_Rd_readSum0 12 [(2, 10), (0, a1), (0, 0), (3, 0)] [] F1 v F') ∧
   (n1 = 0 →
    v = (0, 0) ∧ F' = F1) := by
  have t := q_ok cv_328 ap_328 (hd := [(12, [1, 1, 1, 0])]) h rfl rfl
  exact t
set_option maxRecDepth 40000 in
theorem q_Rd_readSum0_12 {n : Nat} {l1 l2 : Nat} {F : fx_F} {v : fx_V} {F' : fx_F} (h : Rn n k_Rd_readSum0 12 [(2, 10), (0, l1), (0, l2), (3, 0)] [] F v F') :
  (s_le 800 l2 →
   v = (0, 1) ∧ F' = F) ∧
  (s_lt l2 800 →
   ((F 10 7) = 43 →
     ∃ F1 : fx_F, Cl k_Rd_advance [(2, 10)] F (2, 0) F1 ∧
      ∃ (n2 : Nat) (F2 : fx_F), Cl k_Rd_readProduct0 [(2, 10), (0, l1)] F1 (0, n2) F2 ∧
       (n2 ≠ 0 →
         (s_le 80 (F2 12 5) →
           ∃ m, m < n ∧ Rn m k_Rd_readSum0 12 [(2, 10), (0, l1), (0, i_add l2 1), (3, 0)] [] F2 v F') ∧
          (s_lt (F2 12 5) 80 →
           ∃ m, m < n ∧ Rn m k_Rd_readSum0 12 [(2, 10), (0, l1), (0, i_add l2 1), (3, 0)] [] (fu (fu (fu F2 17 (F2 12 5) (F 10 7)) 18 (F2 12 5) 0) 12 5 (i_add (F2 12 5) 1)) v F')) ∧
        (n2 = 0 →
         v = (0, 0) ∧ F' = F2)) ∧
    ((F 10 7) ≠ 43 →
     ((F 10 7) ≠ 45 →
       v = (0, 1) ∧ F' = F) ∧
      ((F 10 7) = 45 →
       ∃ F1 : fx_F, Cl k_Rd_advance [(2, 10)] F (2, 0) F1 ∧
        ∃ (n2 : Nat) (F2 : fx_F), Cl k_Rd_readProduct0 [(2, 10), (0, l1)] F1 (0, n2) F2 ∧
         (n2 ≠ 0 →
           (s_le 80 (F2 12 5) →
             ∃ m, m < n ∧ Rn m k_Rd_readSum0 12 [(2, 10), (0, l1), (0, i_add l2 1), (3, 0)] [] F2 v F') ∧
            (s_lt (F2 12 5) 80 →
             ∃ m, m < n ∧ Rn m k_Rd_readSum0 12 [(2, 10), (0, l1), (0, i_add l2 1), (3, 0)] [] (fu (fu (fu F2 17 (F2 12 5) (F 10 7)) 18 (F2 12 5) 0) 12 5 (i_add (F2 12 5) 1)) v F')) ∧
          (n2 = 0 →
           v = (0, 0) ∧ F' = F2)))) := by
  have t := q_ok cv_328 ap_328 (hd := [(12, [1, 1, 1, 0])]) h rfl rfl
  exact t
-- TurnNet$Reader.readLine()Z
theorem c_Rd_readLine {F : fx_F} {v : fx_V} {F' : fx_F} (h : Cl k_Rd_readLine [(2, 10)] F v F') : ∃ n, Rn n k_Rd_readLine 0 [(2, 10)] [] F v F' := by
  obtain ⟨n, s, hs, h⟩ := h
  rw [sg_329] at hs
  cases hs
  exact ⟨n, h⟩
set_option maxRecDepth 40000 in
theorem q_Rd_readLine_0 {n : Nat} {F : fx_F} {v : fx_V} {F' : fx_F} (h : Rn n k_Rd_readLine 0 [(2, 10)] [] F v F') :
  ∃ (n1 : Nat) (F1 : fx_F), Cl k_Rd_isWord [(2, 10), (2, 1001)] F (0, n1) F1 ∧
  (n1 = 0 →
    ∃ (n2 : Nat) (F2 : fx_F), Cl k_Rd_isWord [(2, 10), (2, 1002)] F1 (0, n2) F2 ∧
     (n2 = 0 →
       ∃ (n3 : Nat) (F3 : fx_F), Cl k_Rd_isWord [(2, 10), (2, 1003)] F2 (0, n3) F3 ∧
        (n3 = 0 →
          ∃ (n4 : Nat) (F4 : fx_F), Cl k_Rd_isWord [(2, 10), (2, 1004)] F3 (0, n4) F4 ∧
           (n4 = 0 →
             ∃ (n5 : Nat) (F5 : fx_F), Cl k_Rd_fail [(2, 10), (0, 1)] F4 (0, n5) F5 ∧
              v = (0, n5) ∧ F' = F5) ∧
            (n4 ≠ 0 →
             ((F4 10 10) ≠ 0 →
               ∃ (n5 : Nat) (F5 : fx_F), Cl k_Rd_fail [(2, 10), (0, 1)] F4 (0, n5) F5 ∧
                v = (0, n5) ∧ F' = F5) ∧
              ((F4 10 10) = 0 →
               ∃ F5 : fx_F, Cl k_Rd_advance [(2, 10)] (fu F4 10 10 1) (2, 0) F5 ∧
                ∃ (n6 : Nat) (F6 : fx_F), Cl k_Rd_readSum0 [(2, 10), (0, 0)] F5 (0, n6) F6 ∧
                 (n6 = 0 →
                   v = (0, 0) ∧ F' = F6) ∧
                  (n6 ≠ 0 →
                   ∃ (n7 : Nat) (F7 : fx_F), Cl k_Rd_readSign [(2, 10), (0, 59)] F6 (0, n7) F7 ∧
                    (n7 = 0 →
                      v = (0, 0) ∧ F' = F7) ∧
                     (n7 ≠ 0 →
                      v = (0, 1) ∧ F' = F7))))) ∧
         (n3 ≠ 0 →
          ((F3 10 11) ≠ 0 →
            ∃ (n4 : Nat) (F4 : fx_F), Cl k_Rd_isWord [(2, 10), (2, 1004)] F3 (0, n4) F4 ∧
             (n4 = 0 →
               ∃ (n5 : Nat) (F5 : fx_F), Cl k_Rd_fail [(2, 10), (0, 1)] F4 (0, n5) F5 ∧
                v = (0, n5) ∧ F' = F5) ∧
              (n4 ≠ 0 →
               ((F4 10 10) ≠ 0 →
                 ∃ (n5 : Nat) (F5 : fx_F), Cl k_Rd_fail [(2, 10), (0, 1)] F4 (0, n5) F5 ∧
                  v = (0, n5) ∧ F' = F5) ∧
                ((F4 10 10) = 0 →
                 ∃ F5 : fx_F, Cl k_Rd_advance [(2, 10)] (fu F4 10 10 1) (2, 0) F5 ∧
                  ∃ (n6 : Nat) (F6 : fx_F), Cl k_Rd_readSum0 [(2, 10), (0, 0)] F5 (0, n6) F6 ∧
                   (n6 = 0 →
                     v = (0, 0) ∧ F' = F6) ∧
                    (n6 ≠ 0 →
                     ∃ (n7 : Nat) (F7 : fx_F), Cl k_Rd_readSign [(2, 10), (0, 59)] F6 (0, n7) F7 ∧
                      (n7 = 0 →
                        v = (0, 0) ∧ F' = F7) ∧
                       (n7 ≠ 0 →
                        v = (0, 1) ∧ F' = F7))))) ∧
           ((F3 10 11) = 0 →
            ∃ (n4 : Nat) (F4 : fx_F), Cl k_Rd_readNumber [(2, 10), (0, 1), (0, 3)] (fu F3 10 11 1) (0, n4) F4 ∧
             (n4 ≠ 0 →
               ∃ (n5 : Nat) (F5 : fx_F), Cl k_Rd_closeLine [(2, 10)] (fu F4 12 3 (F4 10 8)) (0, n5) F5 ∧
                v = (0, n5) ∧ F' = F5) ∧
              (n4 = 0 →
               v = (0, 0) ∧ F' = F4)))) ∧
      (n2 ≠ 0 →
       ((F2 10 9) ≠ 0 →
         ∃ (n3 : Nat) (F3 : fx_F), Cl k_Rd_isWord [(2, 10), (2, 1003)] F2 (0, n3) F3 ∧
          (n3 = 0 →
            ∃ (n4 : Nat) (F4 : fx_F), Cl k_Rd_isWord [(2, 10), (2, 1004)] F3 (0, n4) F4 ∧
             (n4 = 0 →
               ∃ (n5 : Nat) (F5 : fx_F), Cl k_Rd_fail [(2, 10), (0, 1)] F4 (0, n5) F5 ∧
                v = (0, n5) ∧ F' = F5) ∧
              (n4 ≠ 0 →
               ((F4 10 10) ≠ 0 →
                 ∃ (n5 : Nat) (F5 : fx_F), Cl k_Rd_fail [(2, 10), (0, 1)] F4 (0, n5) F5 ∧
                  v = (0, n5) ∧ F' = F5) ∧
                ((F4 10 10) = 0 →
                 ∃ F5 : fx_F, Cl k_Rd_advance [(2, 10)] (fu F4 10 10 1) (2, 0) F5 ∧
                  ∃ (n6 : Nat) (F6 : fx_F), Cl k_Rd_readSum0 [(2, 10), (0, 0)] F5 (0, n6) F6 ∧
                   (n6 = 0 →
                     v = (0, 0) ∧ F' = F6) ∧
                    (n6 ≠ 0 →
                     ∃ (n7 : Nat) (F7 : fx_F), Cl k_Rd_readSign [(2, 10), (0, 59)] F6 (0, n7) F7 ∧
                      (n7 = 0 →
                        v = (0, 0) ∧ F' = F7) ∧
                       (n7 ≠ 0 →
                        v = (0, 1) ∧ F' = F7))))) ∧
           (n3 ≠ 0 →
            ((F3 10 11) ≠ 0 →
              ∃ (n4 : Nat) (F4 : fx_F), Cl k_Rd_isWord [(2, 10), (2, 1004)] F3 (0, n4) F4 ∧
               (n4 = 0 →
                 ∃ (n5 : Nat) (F5 : fx_F), Cl k_Rd_fail [(2, 10), (0, 1)] F4 (0, n5) F5 ∧
                  v = (0, n5) ∧ F' = F5) ∧
                (n4 ≠ 0 →
                 ((F4 10 10) ≠ 0 →
                   ∃ (n5 : Nat) (F5 : fx_F), Cl k_Rd_fail [(2, 10), (0, 1)] F4 (0, n5) F5 ∧
                    v = (0, n5) ∧ F' = F5) ∧
                  ((F4 10 10) = 0 →
                   ∃ F5 : fx_F, Cl k_Rd_advance [(2, 10)] (fu F4 10 10 1) (2, 0) F5 ∧
                    ∃ (n6 : Nat) (F6 : fx_F), Cl k_Rd_readSum0 [(2, 10), (0, 0)] F5 (0, n6) F6 ∧
                     (n6 = 0 →
                       v = (0, 0) ∧ F' = F6) ∧
                      (n6 ≠ 0 →
                       ∃ (n7 : Nat) (F7 : fx_F), Cl k_Rd_readSign [(2, 10), (0, 59)] F6 (0, n7) F7 ∧
                        (n7 = 0 →
                          v = (0, 0) ∧ F' = F7) ∧
                         (n7 ≠ 0 →
                          v = (0, 1) ∧ F' = F7))))) ∧
             ((F3 10 11) = 0 →
              ∃ (n4 : Nat) (F4 : fx_F), Cl k_Rd_readNumber [(2, 10), (0, 1), (0, 3)] (fu F3 10 11 1) (0, n4) F4 ∧
               (n4 ≠ 0 →
                 ∃ (n5 : Nat) (F5 : fx_F), Cl k_Rd_closeLine [(2, 10)] (fu F4 12 3 (F4 10 8)) (0, n5) F5 ∧
                  v = (0, n5) ∧ F' = F5) ∧
                (n4 = 0 →
                 v = (0, 0) ∧ F' = F4)))) ∧
        ((F2 10 9) = 0 →
         ∃ (n3 : Nat) (F3 : fx_F), Cl k_Rd_readNumber [(2, 10), (0, 0), (0, i_sub (F2 12 0) 1)] (fu F2 10 9 1) (0, n3) F3 ∧
          (n3 ≠ 0 →
            ∃ (n4 : Nat) (F4 : fx_F), Cl k_Rd_closeLine [(2, 10)] (fu F3 12 2 (F3 10 8)) (0, n4) F4 ∧
             v = (0, n4) ∧ F' = F4) ∧
           (n3 = 0 →
            v = (0, 0) ∧ F' = F3)))) ∧
   (n1 ≠ 0 →
    ∃ (n2 : Nat) (F2 : fx_F), Cl k_Rd_readLink [(2, 10)] F1 (0, n2) F2 ∧
     v = (0, n2) ∧ F' = F2) := by
  have t := q_ok cv_329 ap_329 (hd := []) h rfl rfl
  exact t
-- TurnNet$Reader.readText()Z
theorem c_Rd_readText {F : fx_F} {v : fx_V} {F' : fx_F} (h : Cl k_Rd_readText [(2, 10)] F v F') : ∃ n, Rn n k_Rd_readText 0 [(2, 10), (3, 0)] [] F v F' := by
  obtain ⟨n, s, hs, h⟩ := h
  rw [sg_330] at hs
  cases hs
  exact ⟨n, h⟩
set_option maxRecDepth 40000 in
theorem q_Rd_readText_0 {n : Nat} {F : fx_F} {v : fx_V} {F' : fx_F} (h : Rn n k_Rd_readText 0 [(2, 10), (3, 0)] [] F v F') :
  ∃ F1 : fx_F, Cl k_Rd_advance [(2, 10)] (fu (fu (fu (fu (fu (fu (fu (fu (fu (fu (fu (fu F 12 0 0) 12 1 0) 12 2 0) 12 3 1) 12 4 0) 12 5 0) 10 3 0) 10 4 4294967295) 10 5 0) 10 9 0) 10 10 0) 10 11 0) (2, 0) F1 ∧
  ((F1 10 7) ≠ 0 →
    ∃ (n2 : Nat) (F2 : fx_F), Cl k_Rd_readSwitches [(2, 10)] F1 (0, n2) F2 ∧
     (n2 ≠ 0 →
       ∃ m, m < n ∧ Rn m k_Rd_readText 61 [(2, 10), (0, 0)] [] F2 v F') ∧
      (n2 = 0 →
       v = (0, 0) ∧ F' = F2)) ∧
   ((F1 10 7) = 0 →
    v = (0, 1) ∧ F' = F1) := by
  have t := q_ok cv_330 ap_330 (hd := [(61, [1, 1])]) h rfl rfl
  exact t
set_option maxRecDepth 40000 in
theorem q_Rd_readText_61 {n : Nat} {l1 : Nat} {F : fx_F} {v : fx_V} {F' : fx_F} (h : Rn n k_Rd_readText 61 [(2, 10), (0, l1)] [] F v F') :
  (s_le 800 l1 →
   v = (0, 1) ∧ F' = F) ∧
  (s_lt l1 800 →
   ((F 10 7) = 0 →
     v = (0, 1) ∧ F' = F) ∧
    ((F 10 7) ≠ 0 →
     ∃ (n1 : Nat) (F1 : fx_F), Cl k_Rd_readLine [(2, 10)] F (0, n1) F1 ∧
      (n1 ≠ 0 →
        ∃ m, m < n ∧ Rn m k_Rd_readText 61 [(2, 10), (0, i_add l1 1)] [] F1 v F') ∧
       (n1 = 0 →
        v = (0, 0) ∧ F' = F1))) := by
  have t := q_ok cv_330 ap_330 (hd := [(61, [1, 1])]) h rfl rfl
  exact t
-- TurnNet.net()I
theorem c_T_net {F : fx_F} {v : fx_V} {F' : fx_F} (h : Cl k_T_net [(2, 2)] F v F') : ∃ n, Rn n k_T_net 0 [(2, 2), (3, 0), (3, 0)] [] F v F' := by
  obtain ⟨n, s, hs, h⟩ := h
  rw [sg_331] at hs
  cases hs
  exact ⟨n, h⟩
set_option maxRecDepth 40000 in
theorem q_T_net_0 {n : Nat} {F : fx_F} {v : fx_V} {F' : fx_F} (h : Rn n k_T_net 0 [(2, 2), (3, 0), (3, 0)] [] F v F') :
  ∃ (n1 : Nat) (F1 : fx_F), Cl k_Rd_readText [(2, 10)] F (0, n1) F1 ∧
  (n1 ≠ 0 →
    ∃ F2 : fx_F, Cl k_Net_copyFrom [(2, 3), (2, 12)] (fu F1 10 1 0) (2, 0) F2 ∧
     ∃ m, m < n ∧ Rn m k_T_net 59 [(2, 2), (3, 0), (0, 0)] [] (fu (fu (fu (fu (fu (fu F2 24 3 0) 24 4 0) 32 3 0) 32 4 0) 51 2 0) 51 3 0) v F') ∧
   (n1 = 0 →
    v = (0, 4294967295) ∧ F' = (fu F1 10 1 0)) := by
  have t := q_ok cv_331 ap_331 (hd := [(59, [1, 0, 1])]) h rfl rfl
  exact t
set_option maxRecDepth 40000 in
theorem q_T_net_59 {n : Nat} {l2 : Nat} {F : fx_F} {v : fx_V} {F' : fx_F} (h : Rn n k_T_net 59 [(2, 2), (3, 0), (0, l2)] [] F v F') :
  (s_le 2 l2 →
   ∃ F1 : fx_F, Cl k_Or_rate [(2, 19), (0, F 3 2), (0, i_sub (i_shl 1 (F 3 1)) 1)] F (2, 0) F1 ∧
    ∃ (n2 : Nat) (F2 : fx_F), Cl k_Or_upEnds [(2, 19)] F1 (0, n2) F2 ∧
     ∃ F3 : fx_F, Cl k_St_begin [(2, F1 2 13), (0, F1 3 2), (0, n2), (0, i_sub (i_shl 1 (F 3 1)) 1)] F2 (2, 0) F3 ∧
      v = (0, F3 3 0) ∧ F' = F3) ∧
  (s_lt l2 2 →
   ∃ m, m < n ∧ Rn m k_T_net 59 [(2, 2), (3, 0), (0, i_add l2 1)] [] (fu F 159 l2 0) v F') := by
  have t := q_ok cv_331 ap_331 (hd := [(59, [1, 0, 1])]) h rfl rfl
  exact t
