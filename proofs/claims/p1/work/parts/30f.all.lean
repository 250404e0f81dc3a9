theorem rx_isS_two {α β : Type} {o : Option (α × β)} (d : α × β) (h : rx_isS o = true) : o = some ((rx_getS d o).1, (rx_getS d o).2) := by
  match o, h with
  | none, h => cases h
  | some x, _ => rfl
theorem rx_k1_e : rx_cal rx_P (rxl 6) 161 rx_a1 = some (rx_k1.1, rx_k1.2) := by unfold rx_k1; exact rx_isS_two ([], []) rx_k1_1
theorem rx_k2_e : rx_cal rx_P rxm_161 159 rx_b1 = some (rx_k2.1, rx_k2.2) := by unfold rx_k2; exact rx_isS_two ([], []) rx_k2_1
theorem rxq_SI : rx_nth rx_P 161 = some rxm_161 := rfl
theorem rxq_GI : rx_nth rx_P 159 = some rxm_159 := rfl
theorem rxm_SI_in : rxm_161 ∈ rx_P := by have h := rxq_SI; rw [rx_nth_eq] at h; exact List.mem_of_getElem? h
theorem rxm_GI_in : rxm_159 ∈ rx_P := by have h := rxq_GI; rw [rx_nth_eq] at h; exact List.mem_of_getElem? h
theorem rxg_at (l : Launch) (cy : Nat → ClassId) (D : va_G) : rx_At l cy D rxm_159 rx_c0 [rx_e1] := by
  have one : ∀ {k : Nat} {σ τ : rx_S}, rx_eq1 (rx_adv rx_P (rx_DF, rx_FK) 20000 999999 rxm_159 k σ) τ = true → rx_At l cy D rxm_159 τ [rx_e1] → rx_At l cy D rxm_159 σ [rx_e1] := fun h1 h2 =>
    rx_at_adv rxP_ok rxm_GI_in (rx_eq1_ok h1) (fun σ' hσ => by rw [List.mem_singleton.mp hσ]; exact h2)
  exact one rxg_s (one rxg_0 (one rxg_1 (one rxg_2 (one rxg_3 (rx_at_run rxP_ok rxm_GI_in (rx_is1_ok (0, rx_h0, []) rx_o3_1))))))
theorem rxs_at (l : Launch) (cy : Nat → ClassId) (D : va_G) : rx_At l cy D rxm_161 rx_b0 [rx_e2] :=
  rx_at_adv rxP_ok rxm_SI_in (rx_is1_ok rx_s0 rx_o2_1) (fun σ' hσ => by
    rw [List.mem_singleton.mp hσ]
    exact rx_at_call rxP_ok rxm_SI_in rxq_GI rx_k2_e (rxg_at l cy D) (fun o ho => by
      rw [List.mem_singleton.mp ho]
      exact rx_at_run rxP_ok rxm_SI_in (rx_is1_ok (0, rx_h0, []) rx_o4_1)))
theorem rx_d39 : rx_d6 33 39 := fun G hrun hadv hcal l σ hg hi => by
  have h0 : σ = rx_a0 := by unfold rx_a0; rw [hg]; show σ = rx_getS rx_s0 (rx_nth l 39); rw [hi]; rfl
  rw [h0]
  refine hadv 20000 1334 50 rx_a0 [rx_a1] (rx_is1_ok rx_s0 rx_o1_1) (fun σ' hσ => ?_)
  rw [List.mem_singleton.mp hσ]
  refine hcal 161 rxm_161 rx_k1.1 rx_k1.2 [rx_e2] rx_a1 rxq_SI rx_k1_e (fun l cy D => rxs_at l cy D) (fun o ho => ?_)
  rw [List.mem_singleton.mp ho]
  obtain ⟨os, h1, h2⟩ := rx_ok_ex rx_o5_1
  exact hrun 20000 _ os h1 h2
theorem rxw_6 : rx_Main 6 := rx_main_6 rxw_n (by
  intro i hi
  by_cases g0 : 0 ≤ i ∧ i < 4
  · exact rx_c6_d (rx_c6_all rxw6_0 i g0.1 g0.2)
  by_cases g4 : 4 ≤ i ∧ i < 10
  · exact rx_c6_d (rx_c6_all rxw6_4 i g4.1 g4.2)
  by_cases g10 : 10 ≤ i ∧ i < 18
  · exact rx_c6_d (rx_c6_all rxw6_10 i g10.1 g10.2)
  by_cases g18 : 18 ≤ i ∧ i < 26
  · exact rx_c6_d (rx_c6_all rxw6_18 i g18.1 g18.2)
  by_cases g26 : 26 ≤ i ∧ i < 34
  · exact rx_c6_d (rx_c6_all rxw6_26 i g26.1 g26.2)
  by_cases g34 : 34 ≤ i ∧ i < 38
  · exact rx_c6_d (rx_c6_all rxw6_34 i g34.1 g34.2)
  by_cases g38 : 38 ≤ i ∧ i < 39
  · exact rx_c6_d (rx_c6_all rxw6_38 i g38.1 g38.2)
  by_cases g40 : 40 ≤ i ∧ i < 43
  · exact rx_c6_d (rx_c6_all rxw6_40 i g40.1 g40.2)
  by_cases g43 : 43 ≤ i ∧ i < 64
  · exact rx_c6_d (rx_c6_all rxw6_43 i g43.1 g43.2)
  have h39 : i = 39 := by omega
  subst h39
  exact rx_d39)
theorem rxw_all : ∀ L, L ≤ 6 → rx_Main L := by
  intro L h
  match L, h with
  | 0, _ => exact rxw_0
  | 1, _ => exact rxw_1
  | 2, _ => exact rxw_2
  | 3, _ => exact rxw_3
  | 4, _ => exact rxw_4
  | 5, _ => exact rxw_5
  | 6, _ => exact rxw_6
  | n + 7, h => exact absurd h (by omega)
