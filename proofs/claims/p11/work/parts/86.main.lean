noncomputable def lw_tgs : List Nat := [220, 283, 306, 319, 342, 365, 388, 411, 434, 467, 500, 523, 536, 549, 582, 615, 648, 681, 714, 757, 800, 843, 866, 889, 912, 945, 958, 981, 1014, 1047, 1080, 1103, 1136, 1149, 1182, 1225, 1238, 1281, 1314, 1327, 1340, 1363, 1386]
noncomputable def lw_tg (u : Nat) : Nat := lw_tgs.getD u 1409
section LWL
variable {l : Launch} {cy : Nat → ClassId} {D : va_G} {L : Nat} {sx : Nat → Nat} {G : rx_S → Prop} {hp : rx_H} {i : Nat}
set_option maxHeartbeats 2000000 in
set_option maxRecDepth 20000 in
theorem lw_sw (R : lw_Rules l cy D (rxl L sx) G) {u : Nat} (hu : u < 64) (hG : ∀ t, lw_tg u = t → G (t, lw_LV i, [], hp, [], 205, 8956)) : G (33, lw_LV i, [rx_int u], hp, [], 205, 8956) := by
  have A : lw_at 33 (rx_h_tsw 0 42 #[187, 250, 273, 286, 309, 332, 355, 378, 401, 434, 467, 490, 503, 516, 549, 582, 615, 648, 681, 724, 767, 810, 833, 856, 879, 912, 925, 948, 981, 1014, 1047, 1070, 1103, 1116, 1149, 1192, 1205, 1248, 1281, 1294, 1307, 1330, 1353]) 1409 := ⟨_, rfl, rfl, rfl, rfl⟩
  match u, hu with
  | 0, _ => exact lw_step R A (σ' := (220, lw_LV i, [], hp, [], 205, 8956)) (fun _ => rfl) (hG _ rfl)
  | 1, _ => exact lw_step R A (σ' := (283, lw_LV i, [], hp, [], 205, 8956)) (fun _ => rfl) (hG _ rfl)
  | 2, _ => exact lw_step R A (σ' := (306, lw_LV i, [], hp, [], 205, 8956)) (fun _ => rfl) (hG _ rfl)
  | 3, _ => exact lw_step R A (σ' := (319, lw_LV i, [], hp, [], 205, 8956)) (fun _ => rfl) (hG _ rfl)
  | 4, _ => exact lw_step R A (σ' := (342, lw_LV i, [], hp, [], 205, 8956)) (fun _ => rfl) (hG _ rfl)
  | 5, _ => exact lw_step R A (σ' := (365, lw_LV i, [], hp, [], 205, 8956)) (fun _ => rfl) (hG _ rfl)
  | 6, _ => exact lw_step R A (σ' := (388, lw_LV i, [], hp, [], 205, 8956)) (fun _ => rfl) (hG _ rfl)
  | 7, _ => exact lw_step R A (σ' := (411, lw_LV i, [], hp, [], 205, 8956)) (fun _ => rfl) (hG _ rfl)
  | 8, _ => exact lw_step R A (σ' := (434, lw_LV i, [], hp, [], 205, 8956)) (fun _ => rfl) (hG _ rfl)
  | 9, _ => exact lw_step R A (σ' := (467, lw_LV i, [], hp, [], 205, 8956)) (fun _ => rfl) (hG _ rfl)
  | 10, _ => exact lw_step R A (σ' := (500, lw_LV i, [], hp, [], 205, 8956)) (fun _ => rfl) (hG _ rfl)
  | 11, _ => exact lw_step R A (σ' := (523, lw_LV i, [], hp, [], 205, 8956)) (fun _ => rfl) (hG _ rfl)
  | 12, _ => exact lw_step R A (σ' := (536, lw_LV i, [], hp, [], 205, 8956)) (fun _ => rfl) (hG _ rfl)
  | 13, _ => exact lw_step R A (σ' := (549, lw_LV i, [], hp, [], 205, 8956)) (fun _ => rfl) (hG _ rfl)
  | 14, _ => exact lw_step R A (σ' := (582, lw_LV i, [], hp, [], 205, 8956)) (fun _ => rfl) (hG _ rfl)
  | 15, _ => exact lw_step R A (σ' := (615, lw_LV i, [], hp, [], 205, 8956)) (fun _ => rfl) (hG _ rfl)
  | 16, _ => exact lw_step R A (σ' := (648, lw_LV i, [], hp, [], 205, 8956)) (fun _ => rfl) (hG _ rfl)
  | 17, _ => exact lw_step R A (σ' := (681, lw_LV i, [], hp, [], 205, 8956)) (fun _ => rfl) (hG _ rfl)
  | 18, _ => exact lw_step R A (σ' := (714, lw_LV i, [], hp, [], 205, 8956)) (fun _ => rfl) (hG _ rfl)
  | 19, _ => exact lw_step R A (σ' := (757, lw_LV i, [], hp, [], 205, 8956)) (fun _ => rfl) (hG _ rfl)
  | 20, _ => exact lw_step R A (σ' := (800, lw_LV i, [], hp, [], 205, 8956)) (fun _ => rfl) (hG _ rfl)
  | 21, _ => exact lw_step R A (σ' := (843, lw_LV i, [], hp, [], 205, 8956)) (fun _ => rfl) (hG _ rfl)
  | 22, _ => exact lw_step R A (σ' := (866, lw_LV i, [], hp, [], 205, 8956)) (fun _ => rfl) (hG _ rfl)
  | 23, _ => exact lw_step R A (σ' := (889, lw_LV i, [], hp, [], 205, 8956)) (fun _ => rfl) (hG _ rfl)
  | 24, _ => exact lw_step R A (σ' := (912, lw_LV i, [], hp, [], 205, 8956)) (fun _ => rfl) (hG _ rfl)
  | 25, _ => exact lw_step R A (σ' := (945, lw_LV i, [], hp, [], 205, 8956)) (fun _ => rfl) (hG _ rfl)
  | 26, _ => exact lw_step R A (σ' := (958, lw_LV i, [], hp, [], 205, 8956)) (fun _ => rfl) (hG _ rfl)
  | 27, _ => exact lw_step R A (σ' := (981, lw_LV i, [], hp, [], 205, 8956)) (fun _ => rfl) (hG _ rfl)
  | 28, _ => exact lw_step R A (σ' := (1014, lw_LV i, [], hp, [], 205, 8956)) (fun _ => rfl) (hG _ rfl)
  | 29, _ => exact lw_step R A (σ' := (1047, lw_LV i, [], hp, [], 205, 8956)) (fun _ => rfl) (hG _ rfl)
  | 30, _ => exact lw_step R A (σ' := (1080, lw_LV i, [], hp, [], 205, 8956)) (fun _ => rfl) (hG _ rfl)
  | 31, _ => exact lw_step R A (σ' := (1103, lw_LV i, [], hp, [], 205, 8956)) (fun _ => rfl) (hG _ rfl)
  | 32, _ => exact lw_step R A (σ' := (1136, lw_LV i, [], hp, [], 205, 8956)) (fun _ => rfl) (hG _ rfl)
  | 33, _ => exact lw_step R A (σ' := (1149, lw_LV i, [], hp, [], 205, 8956)) (fun _ => rfl) (hG _ rfl)
  | 34, _ => exact lw_step R A (σ' := (1182, lw_LV i, [], hp, [], 205, 8956)) (fun _ => rfl) (hG _ rfl)
  | 35, _ => exact lw_step R A (σ' := (1225, lw_LV i, [], hp, [], 205, 8956)) (fun _ => rfl) (hG _ rfl)
  | 36, _ => exact lw_step R A (σ' := (1238, lw_LV i, [], hp, [], 205, 8956)) (fun _ => rfl) (hG _ rfl)
  | 37, _ => exact lw_step R A (σ' := (1281, lw_LV i, [], hp, [], 205, 8956)) (fun _ => rfl) (hG _ rfl)
  | 38, _ => exact lw_step R A (σ' := (1314, lw_LV i, [], hp, [], 205, 8956)) (fun _ => rfl) (hG _ rfl)
  | 39, _ => exact lw_step R A (σ' := (1327, lw_LV i, [], hp, [], 205, 8956)) (fun _ => rfl) (hG _ rfl)
  | 40, _ => exact lw_step R A (σ' := (1340, lw_LV i, [], hp, [], 205, 8956)) (fun _ => rfl) (hG _ rfl)
  | 41, _ => exact lw_step R A (σ' := (1363, lw_LV i, [], hp, [], 205, 8956)) (fun _ => rfl) (hG _ rfl)
  | 42, _ => exact lw_step R A (σ' := (1386, lw_LV i, [], hp, [], 205, 8956)) (fun _ => rfl) (hG _ rfl)
  | 43, _ => exact lw_step R A (σ' := (1409, lw_LV i, [], hp, [], 205, 8956)) (fun _ => rfl) (hG _ rfl)
  | 44, _ => exact lw_step R A (σ' := (1409, lw_LV i, [], hp, [], 205, 8956)) (fun _ => rfl) (hG _ rfl)
  | 45, _ => exact lw_step R A (σ' := (1409, lw_LV i, [], hp, [], 205, 8956)) (fun _ => rfl) (hG _ rfl)
  | 46, _ => exact lw_step R A (σ' := (1409, lw_LV i, [], hp, [], 205, 8956)) (fun _ => rfl) (hG _ rfl)
  | 47, _ => exact lw_step R A (σ' := (1409, lw_LV i, [], hp, [], 205, 8956)) (fun _ => rfl) (hG _ rfl)
  | 48, _ => exact lw_step R A (σ' := (1409, lw_LV i, [], hp, [], 205, 8956)) (fun _ => rfl) (hG _ rfl)
  | 49, _ => exact lw_step R A (σ' := (1409, lw_LV i, [], hp, [], 205, 8956)) (fun _ => rfl) (hG _ rfl)
  | 50, _ => exact lw_step R A (σ' := (1409, lw_LV i, [], hp, [], 205, 8956)) (fun _ => rfl) (hG _ rfl)
  | 51, _ => exact lw_step R A (σ' := (1409, lw_LV i, [], hp, [], 205, 8956)) (fun _ => rfl) (hG _ rfl)
  | 52, _ => exact lw_step R A (σ' := (1409, lw_LV i, [], hp, [], 205, 8956)) (fun _ => rfl) (hG _ rfl)
  | 53, _ => exact lw_step R A (σ' := (1409, lw_LV i, [], hp, [], 205, 8956)) (fun _ => rfl) (hG _ rfl)
  | 54, _ => exact lw_step R A (σ' := (1409, lw_LV i, [], hp, [], 205, 8956)) (fun _ => rfl) (hG _ rfl)
  | 55, _ => exact lw_step R A (σ' := (1409, lw_LV i, [], hp, [], 205, 8956)) (fun _ => rfl) (hG _ rfl)
  | 56, _ => exact lw_step R A (σ' := (1409, lw_LV i, [], hp, [], 205, 8956)) (fun _ => rfl) (hG _ rfl)
  | 57, _ => exact lw_step R A (σ' := (1409, lw_LV i, [], hp, [], 205, 8956)) (fun _ => rfl) (hG _ rfl)
  | 58, _ => exact lw_step R A (σ' := (1409, lw_LV i, [], hp, [], 205, 8956)) (fun _ => rfl) (hG _ rfl)
  | 59, _ => exact lw_step R A (σ' := (1409, lw_LV i, [], hp, [], 205, 8956)) (fun _ => rfl) (hG _ rfl)
  | 60, _ => exact lw_step R A (σ' := (1409, lw_LV i, [], hp, [], 205, 8956)) (fun _ => rfl) (hG _ rfl)
  | 61, _ => exact lw_step R A (σ' := (1409, lw_LV i, [], hp, [], 205, 8956)) (fun _ => rfl) (hG _ rfl)
  | 62, _ => exact lw_step R A (σ' := (1409, lw_LV i, [], hp, [], 205, 8956)) (fun _ => rfl) (hG _ rfl)
  | 63, _ => exact lw_step R A (σ' := (1409, lw_LV i, [], hp, [], 205, 8956)) (fun _ => rfl) (hG _ rfl)
  | _ + 64, h => exact absurd h (by omega)
theorem lw_head (R : lw_Rules l cy D (rxl L sx) G) (hL : L ≤ 3072) (hi : i ≤ 3072) (hG : i + 6 ≤ L → G (27, lw_LV i, [], hp, [], 205, 8956)) : G (18, lw_LV i, [], hp, [], 205, 8956) := by
  refine lw_iload R ⟨_, rfl, rfl, rfl, rfl⟩ ?_
  refine lw_step R (pc := 19) (h := rx_h_ld rx_isR 0 1) (a := 0) (σ' := (20, lw_LV i, [6, rx_int i], hp, [], 205, 8956)) ⟨_, rfl, rfl, rfl, rfl⟩ (fun _ => rfl) ?_
  refine lw_step R (h := rx_h_alen) (a := 0) (σ' := (21, lw_LV i, [rx_int L, rx_int i], hp, [], 205, 8956)) ⟨_, rfl, rfl, rfl, rfl⟩ (fun _ => ?_) ?_
  · show (bif Nat.blt 0 (L + 1) then some [(21, lw_LV i, [rx_int (Nat.pred (L + 1)), rx_int i], hp, [], 205, 8956)] else none) = _
    rw [show Nat.blt 0 (L + 1) = true from rx_blt.mpr (Nat.succ_pos L)]
    rfl
  refine lw_step R (h := rx_h_psh 2) (a := 6) (σ' := (23, lw_LV i, [rx_int 6, rx_int L, rx_int i], hp, [], 205, 8956)) ⟨_, rfl, rfl, rfl, rfl⟩ (fun _ => rfl) ?_
  refine lw_step R (h := rx_h_ar rx_f_sub rx_g32) (a := 0) (σ' := (24, lw_LV i, [rx_int ((L + 4294967290) % 4294967296), rx_int i], hp, [], 205, 8956)) ⟨_, rfl, rfl, rfl, rfl⟩ (fun _ => lw_ar rfl) ?_
  have hb : rx_bi ((L + 4294967290) % 4294967296) = L + 2147483642 := by
    show ((L + 4294967290) % 4294967296 + 2147483648) % 4294967296 = _
    omega
  refine lw_cmp R (k := .gt) (lw_int4 _) (lw_int4 _) ⟨_, rfl, rfl, rfl, rfl⟩ (fun _ => ?_) (fun z => hG ?_)
  · refine lw_step R (pc := 1415) (h := rx_h_psh 1) (a := 1) (σ' := (1416, lw_LV i, [4], hp, [], 205, 8956)) ⟨_, rfl, rfl, rfl, rfl⟩ (fun _ => rfl) ?_
    refine R.1 1 _ [(4, hp, [])] ?_ (fun o ho => by rw [List.mem_singleton.mp ho])
    obtain ⟨x, x1, x2⟩ : ∃ x : rx_E, rx_look (rx_cd rxm_332) 1416 = some x ∧ x.2.1 = 1 := ⟨_, rfl, rfl⟩
    show rx_go rx_P (rx_DF, rx_FK) (rx_run rx_P (rx_DF, rx_FK) 0) (rx_run rx_P (rx_DF, rx_FK) 0) (fun o => some [o]) (rxl L sx) (1416, lw_LV i, [4], hp, [], 205, 8956) = _
    unfold rx_go
    dsimp only
    rw [show rx_look (rx_cd (rxl L sx)) 1416 = some x from x1]
    dsimp only
    unfold rx_do
    rw [x2]
    show rx_out (fun o => some [o]) (rx_iret (rx_n (rxl L sx)) [4] hp [] 205 8956) = _
    rfl
  · have z : ¬ (rx_bi (rx_pl (rx_int ((L + 4294967290) % 4294967296))) < rx_bi (rx_pl (rx_int i))) := z
    rw [lw_pl, lw_pl, hb, lw_bi (by omega)] at z
    omega
theorem lw_case (R : lw_Rules l cy D (rxl L sx) G) (H : lw_H) (hL : L ≤ 3072) (hsx : ∀ j, sx j < 4294967296) (hi : i + 6 ≤ L) (hJ : lw_JR hp) (hN : ∀ hp', lw_JR hp' → G (1409, lw_LV i, [], hp', [], 205, 8956)) : ∀ u, u < 64 → G (lw_tg u, lw_LV i, [], hp, [], 205, 8956) := by
  intro u hu
  match u, hu with
  | 0, _ => exact lw_k0 R H hL hsx hi hJ hN
  | 1, _ => exact lw_k1 R H hL hsx hi hJ hN
  | 2, _ => exact lw_k2 R H hL hsx hi hJ hN
  | 3, _ => exact lw_k3 R H hL hsx hi hJ hN
  | 4, _ => exact lw_k4 R H hL hsx hi hJ hN
  | 5, _ => exact lw_k5 R H hL hsx hi hJ hN
  | 6, _ => exact lw_k6 R H hL hsx hi hJ hN
  | 7, _ => exact lw_k7 R H hL hsx hi hJ hN
  | 8, _ => exact lw_k8 R H hL hsx hi hJ hN
  | 9, _ => exact lw_k9 R H hL hsx hi hJ hN
  | 10, _ => exact lw_k10 R H hL hsx hi hJ hN
  | 11, _ => exact lw_k11 R H hL hsx hi hJ hN
  | 12, _ => exact lw_k12 R H hL hsx hi hJ hN
  | 13, _ => exact lw_k13 R H hL hsx hi hJ hN
  | 14, _ => exact lw_k14 R H hL hsx hi hJ hN
  | 15, _ => exact lw_k15 R H hL hsx hi hJ hN
  | 16, _ => exact lw_k16 R H hL hsx hi hJ hN
  | 17, _ => exact lw_k17 R H hL hsx hi hJ hN
  | 18, _ => exact lw_k18 R H hL hsx hi hJ hN
  | 19, _ => exact lw_k19 R H hL hsx hi hJ hN
  | 20, _ => exact lw_k20 R H hL hsx hi hJ hN
  | 21, _ => exact lw_k21 R H hL hsx hi hJ hN
  | 22, _ => exact lw_k22 R H hL hsx hi hJ hN
  | 23, _ => exact lw_k23 R H hL hsx hi hJ hN
  | 24, _ => exact lw_k24 R H hL hsx hi hJ hN
  | 25, _ => exact lw_k25 R H hL hsx hi hJ hN
  | 26, _ => exact lw_k26 R H hL hsx hi hJ hN
  | 27, _ => exact lw_k27 R H hL hsx hi hJ hN
  | 28, _ => exact lw_k28 R H hL hsx hi hJ hN
  | 29, _ => exact lw_k29 R H hL hsx hi hJ hN
  | 30, _ => exact lw_k30 R H hL hsx hi hJ hN
  | 31, _ => exact lw_k31 R H hL hsx hi hJ hN
  | 32, _ => exact lw_k32 R H hL hsx hi hJ hN
  | 33, _ => exact lw_k33 R H hL hsx hi hJ hN
  | 34, _ => exact lw_k34 R H hL hsx hi hJ hN
  | 35, _ => exact lw_k35 R H hL hsx hi hJ hN
  | 36, _ => exact lw_k36 R H hL hsx hi hJ hN
  | 37, _ => exact lw_k37 R H hL hsx hi hJ hN
  | 38, _ => exact lw_k38 R H hL hsx hi hJ hN
  | 39, _ => exact lw_k39 R H hL hsx hi hJ hN
  | 40, _ => exact lw_k40 R H hL hsx hi hJ hN
  | 41, _ => exact lw_k41 R H hL hsx hi hJ hN
  | 42, _ => exact lw_k42 R H hL hsx hi hJ hN
  | 43, _ => exact hN hp hJ
  | 44, _ => exact hN hp hJ
  | 45, _ => exact hN hp hJ
  | 46, _ => exact hN hp hJ
  | 47, _ => exact hN hp hJ
  | 48, _ => exact hN hp hJ
  | 49, _ => exact hN hp hJ
  | 50, _ => exact hN hp hJ
  | 51, _ => exact hN hp hJ
  | 52, _ => exact hN hp hJ
  | 53, _ => exact hN hp hJ
  | 54, _ => exact hN hp hJ
  | 55, _ => exact hN hp hJ
  | 56, _ => exact hN hp hJ
  | 57, _ => exact hN hp hJ
  | 58, _ => exact hN hp hJ
  | 59, _ => exact hN hp hJ
  | 60, _ => exact hN hp hJ
  | 61, _ => exact hN hp hJ
  | 62, _ => exact hN hp hJ
  | 63, _ => exact hN hp hJ
  | _ + 64, h => exact absurd h (by omega)
/-- one call of the script -/
theorem lw_iter (R : lw_Rules l cy D (rxl L sx) G) (H : lw_H) (hL : L ≤ 3072) (hsx : ∀ j, sx j < 4294967296) (hi : i + 6 ≤ L) (hJ : lw_JR hp) (hN : ∀ hp', lw_JR hp' → G (18, lw_LV (i + 6), [], hp', [], 205, 8956)) : G (27, lw_LV i, [], hp, [], 205, 8956) := by
  refine lw_step R (h := rx_h_ld rx_isR 0 1) (a := 0) (σ' := (28, lw_LV i, [6], hp, [], 205, 8956)) ⟨_, rfl, rfl, rfl, rfl⟩ (fun _ => rfl) ?_
  refine lw_iload R ⟨_, rfl, rfl, rfl, rfl⟩ ?_
  refine lw_scr R (pc := 29) (j := i) (by omega) ⟨_, rfl, rfl, rfl, rfl⟩ ?_
  refine lw_step R (pc := 30) (h := rx_h_psh 2) (a := 63) (σ' := (32, lw_LV i, [rx_int 63, rx_int (sx i)], hp, [], 205, 8956)) ⟨_, rfl, rfl, rfl, rfl⟩ (fun _ => rfl) ?_
  refine lw_step R (h := rx_h_ar rx_f_and rx_gand) (a := 0) (σ' := (33, lw_LV i, [rx_int (Nat.mod (Nat.land (sx i) 63) 4294967296)], hp, [], 205, 8956)) ⟨_, rfl, rfl, rfl, rfl⟩ (fun _ => lw_ar rfl) ?_
  have hu : Nat.mod (Nat.land (sx i) 63) 4294967296 < 64 := by
    have h1 : sx i &&& 63 ≤ 63 := Nat.and_le_right
    show (sx i &&& 63) % 4294967296 < 64
    omega
  refine lw_sw R hu (fun t ht => ?_)
  rw [← ht]
  refine lw_case R H hL hsx hi hJ (fun h1 hJ1 => ?_) _ hu
  refine lw_step R (h := rx_h_inc 3) (a := 6) (σ' := (1412, lw_LV (i + 6), [], h1, [], 205, 8956)) ⟨_, rfl, rfl, rfl, rfl⟩ (fun _ => ?_) ?_
  · show (bif Nat.beq (rx_tk (rx_int i)) 0 && true then some [(1412, rx_put (lw_LV i) 3 (rx_int (Nat.mod (Nat.add (rx_pl (rx_int i)) 6) 4294967296)), [], h1, [], 205, 8956)] else none) = _
    rw [lw_tk, lw_pl, show Nat.mod (Nat.add i 6) 4294967296 = i + 6 from Nat.mod_eq_of_lt (by show i + 6 < _; omega)]
    rfl
  exact lw_goto R ⟨_, rfl, rfl, rfl, rfl⟩ (hN h1 hJ1)
theorem lw_loop (R : lw_Rules l cy D (rxl L sx) G) (H : lw_H) (hL : L ≤ 3072) (hsx : ∀ j, sx j < 4294967296) : ∀ (N i : Nat) (hp : rx_H), i ≤ 3072 → L < i + N → lw_JR hp → G (18, lw_LV i, [], hp, [], 205, 8956) := by
  intro N
  induction N with
  | zero =>
    intro i hp hi hN hJ
    exact lw_head R hL hi (fun h => absurd h (by omega))
  | succ N ih =>
    intro i hp hi hN hJ
    exact lw_head R hL hi (fun h => lw_iter R H hL hsx h hJ (fun h1 hJ1 => ih (i + 6) h1 (by omega) (by omega) hJ1))
end LWL
/-- THE LAW ENDS WITH TRUE -/
theorem lw_main {l : Launch} {L : Nat} {xs : Nat → Int32} (hL : L ≤ 3072) (cy : Nat → ClassId) (D : va_G) (G : rx_S → Prop) (R : lw_Rules l cy D (rxl L (fun j => rx_i32 (xs j))) G) : G rx_s0 :=
  lw_begin R (fun hp hJ => lw_loop R ⟨axL_C rxP_ok, axL_M0 rxP_ok, axL_M1 rxP_ok⟩ hL (fun j => (xs j).toBitVec.isLt) (L + 1) 0 hp (Nat.zero_le _) (by omega) hJ)
