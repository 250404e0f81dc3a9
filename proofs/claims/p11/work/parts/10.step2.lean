section RXS2
variable {p : Program} {l : Launch} {e : Env} {R : Room} {s : State} {m : MethodId} {args : Array Value} {below : List Frame} {meth : Method} {c : Code} {Q : State → Prop} {cc : ByteArray}
variable {cy : Nat → ClassId} {D : va_G} {b : Nat → Nat} {A : Nat → Prop} {H0 : Heap} {ad0 : List Nat} {en0 : List Int32} {nL : Nat}
variable {K : rx_K} {N : rx_N} {pc na nb cn sn : Nat} {lv : rx_L} {st : List Nat} {hp : rx_H} {iv : rx_I} {out : List rx_S}
theorem rx_pre1 {α : Type} {a b : List α} (h : a <+: b) (x : α) : a <+: b ++ [x] := h.trans (List.prefix_append _ _)
/-- a number comes that isn't known -/
theorem rx_fresh {st' : List Nat} {r : List Value} {y : Int32} {n lo hi : Nat} (hG : rx_G p l e R s m args below meth c Q cy D b A H0 ad0 en0 nL (n, lv, rx_sym (rx_len iv) :: st', hp, iv ++ [(lo, hi)], cn, sn)) {ad : List Nat} {en : List Int32} {ls : Array Slot} {H : Heap} {locs : List Loc} {ws : va_W}
    (h1 : ad0 <+: ad) (h2 : en0 <+: en) (h3 : rx_RW cy b ad en hp ws) (h4 : va_P D vwCl ws H) (h5 : va_D A ws) (h6 : va_S A H0 H locs) (h7 : rx_RL b ad en nL lv ls) (h8 : st'.map (rx_cv b ad en) = r.map some) (h9 : rx_RI iv en) (hlo : lo ≤ rx_bias y) (hhi : rx_bias y ≤ hi) :
    W p l e R s m args below meth c H locs cn sn Q (F0 m n ls (.int y :: r)) := by
  have hm : en <+: en ++ [y] := List.prefix_append _ _
  have hy : (en ++ [y])[rx_len iv]? = some y := by rw [rx_len_eq, h9.1]; simp
  exact hG ad (en ++ [y]) ls (.int y :: r) H locs ws ⟨h1, rx_pre1 h2 y, h3.mono hm, h4, h5, h6, h7.mono (List.prefix_refl _) hm, rx_st_push (rx_sym_cv hy) (rx_map_mono (List.prefix_refl _) hm h8), h9.push hlo hhi⟩
/-- arithmetic -/
theorem rx_s_ar {f : Nat → Nat → Option Nat} {g : Nat → Nat × Nat} {F : Int32 → Int32 → Int32}
    (row : ∀ {H : Heap} {locs : List Loc} {cells slots : Nat} {ls : Array Slot} {rest : List Value} {x y : Int32}, W p l e R s m args below meth c H locs cells slots Q (F0 m (pc + 1) ls (.int (F x y) :: rest)) → W p l e R s m args below meth c H locs cells slots Q (F0 m pc ls (.int y :: .int x :: rest)))
    (hf : ∀ i j n, f i j = some n → F (Int32.ofNat i) (Int32.ofNat j) = Int32.ofNat n) (hg : ∀ (ad : List Nat) (en : List Int32) (v : Nat) (x y : Int32), rx_cv b ad en v = some (.int y) → (g v).1 ≤ rx_bias (F x y) ∧ rx_bias (F x y) ≤ (g v).2)
    (h : rx_h_ar f g K N pc na nb lv st hp iv cn sn = some out) (hG : ∀ σ ∈ out, rx_G p l e R s m args below meth c Q cy D b A H0 ad0 en0 nL σ) : rx_G p l e R s m args below meth c Q cy D b A H0 ad0 en0 nL (pc, lv, st, hp, iv, cn, sn) := by
  match st, h with
  | [], h => cases h
  | [_], h => cases h
  | y0 :: x0 :: st', h =>
    unfold rx_h_ar at h
    replace h : (bif Nat.beq (rx_tk (rx_kn iv x0)) 0 && Nat.beq (rx_tk (rx_kn iv y0)) 0 then (match f (rx_pl (rx_kn iv x0)) (rx_pl (rx_kn iv y0)) with
      | some n => some [(Nat.add pc 1, lv, rx_int n :: st', hp, iv, cn, sn)]
      | none => none)
      else bif rx_sml iv (rx_kn iv y0) then rx_half pc lv (y0 :: x0 :: st') hp iv cn sn (rx_kn iv y0)
      else bif rx_sml iv (rx_kn iv x0) then rx_half pc lv (y0 :: x0 :: st') hp iv cn sn (rx_kn iv x0)
      else bif rx_isI x0 && rx_isI y0 then some [(Nat.add pc 1, lv, rx_sym (rx_len iv) :: st', hp, iv ++ [g (rx_kn iv y0)], cn, sn)] else none) = some out := h
    cases hc : (Nat.beq (rx_tk (rx_kn iv x0)) 0 && Nat.beq (rx_tk (rx_kn iv y0)) 0) with
    | true =>
      rw [hc, cond_true] at h
      obtain ⟨hcx, hcy⟩ := rx_and2.mp hc
      cases hn : f (rx_pl (rx_kn iv x0)) (rx_pl (rx_kn iv y0)) with
      | none => rw [hn] at h; cases h
      | some n =>
        rw [hn] at h
        cases h
        intro ad en ls stA H locs ws hR
        obtain ⟨h1, h2, h3, h4, h5, h6, h7, h8, h9⟩ := hR
        obtain ⟨y, r1, rfl, hy, h8a⟩ := rx_st_cons h8
        obtain ⟨x, r, rfl, hx, h8b⟩ := rx_st_cons h8a
        have ex := (rx_cv0 (b := b) (ad := ad) (en := en) (rx_beq.mp hcx)).symm.trans (rx_kn_cv h9 hx)
        have ey := (rx_cv0 (b := b) (ad := ad) (en := en) (rx_beq.mp hcy)).symm.trans (rx_kn_cv h9 hy)
        cases ex
        cases ey
        refine row ?_
        have hfn : F (Int32.ofNat (rx_kn iv x0 / 4)) (Int32.ofNat (rx_kn iv y0 / 4)) = Int32.ofNat n := hf _ _ _ hn
        rw [hfn]
        exact hG _ List.mem_cons_self ad en ls _ H locs ws ⟨h1, h2, h3, h4, h5, h6, h7, rx_st_push (rx_int_cv b ad en n) h8b, h9⟩
    | false =>
      rw [hc, cond_false] at h
      cases hs1 : rx_sml iv (rx_kn iv y0) with
      | true => rw [hs1, cond_true] at h; exact rx_s_half h hG
      | false =>
        rw [hs1, cond_false] at h
        cases hs2 : rx_sml iv (rx_kn iv x0) with
        | true => rw [hs2, cond_true] at h; exact rx_s_half h hG
        | false =>
          rw [hs2, cond_false] at h
          obtain ⟨hi, h⟩ := rx_cond h
          cases h
          obtain ⟨hix, hiy⟩ := rx_and2.mp hi
          intro ad en ls stA H locs ws hR
          obtain ⟨h1, h2, h3, h4, h5, h6, h7, h8, h9⟩ := hR
          obtain ⟨y, r1, rfl, hy, h8a⟩ := rx_st_cons h8
          obtain ⟨x, r, rfl, hx, h8b⟩ := rx_st_cons h8a
          obtain ⟨x', rfl⟩ := rx_isI_cv hix hx
          obtain ⟨y', rfl⟩ := rx_isI_cv hiy hy
          have hgg := hg ad en (rx_kn iv y0) x' y' (rx_kn_cv h9 hy)
          refine row ?_
          exact rx_fresh (hG _ List.mem_cons_self) h1 h2 h3 h4 h5 h6 h7 h8b h9 hgg.1 hgg.2
theorem rx_g32_ok (v : Nat) (x : Int32) : (rx_g32 v).1 ≤ rx_bias x ∧ rx_bias x ≤ (rx_g32 v).2 := ⟨Nat.zero_le _, rx_bias_max x⟩
theorem rx_ofN_mod (n : Nat) : Int32.ofNat (n % 4294967296) = Int32.ofNat n := by
  apply rx_bias_inj
  rw [rx_bias_ofNat, rx_bias_ofNat]
  unfold rx_bi
  show (n % 4294967296 + 2147483648) % 4294967296 = (n + 2147483648) % 4294967296
  omega
theorem rx_add_ok : ∀ i j n, rx_f_add i j = some n → Int32.ofNat i + Int32.ofNat j = Int32.ofNat n := by
  intro i j n h
  cases h
  show _ = Int32.ofNat ((i + j) % 4294967296)
  rw [rx_ofN_mod]
  exact (Int32.ofNat_add i j).symm
theorem rx_mul_ok : ∀ i j n, rx_f_mul i j = some n → Int32.ofNat i * Int32.ofNat j = Int32.ofNat n := by
  intro i j n h
  cases h
  show _ = Int32.ofNat ((i * j) % 4294967296)
  rw [rx_ofN_mod]
  exact (Int32.ofNat_mul i j).symm
theorem rx_sub_ok : ∀ i j n, rx_f_sub i j = some n → Int32.ofNat i - Int32.ofNat j = Int32.ofNat n := by
  intro i j n h
  cases h
  show _ = Int32.ofNat ((i + (4294967296 - j % 4294967296)) % 4294967296)
  rw [rx_ofN_mod]
  have h1 : Int32.ofNat i = Int32.ofNat (i + (4294967296 - j % 4294967296)) + Int32.ofNat (j % 4294967296) := by
    rw [← Int32.ofNat_add]
    have h2 : j % 4294967296 < 4294967296 := Nat.mod_lt _ (by decide)
    rw [show i + (4294967296 - j % 4294967296) + j % 4294967296 = i + 4294967296 by omega, ← rx_ofN_mod (i + 4294967296), ← rx_ofN_mod i, show (i + 4294967296) % 4294967296 = i % 4294967296 by omega]
  rw [h1, rx_ofN_mod, Int32.add_sub_cancel]
theorem rx_and_ok : ∀ i j n, rx_f_and i j = some n → Int32.ofNat i &&& Int32.ofNat j = Int32.ofNat n := by
  intro i j n h
  cases h
  show _ = Int32.ofNat ((i &&& j) % 4294967296)
  rw [rx_ofN_mod]
  apply Int32.toBitVec_inj.mp
  simp [Int32.toBitVec_and]
theorem rx_m31 (j : Nat) : nI j &&& 31 = nI (j % 32) := by
  have h := pk_and (nI j) (m := 31) 5 (by decide)
  rw [h]
  have e : (nI j).toBitVec.toNat = j % 4294967296 := by show (BitVec.ofNat 32 j).toNat = _; rw [BitVec.toNat_ofNat]
  rw [e, show (2 : Nat) ^ 5 = 32 from rfl]
  congr 1
  omega
theorem rx_s_l0 : ∀ n, n < 32 → ((nI n).toBitVec.smod 32).toNat = n := by decide +kernel
theorem rx_s_u0 : ∀ n, n < 32 → (((nI n).toUInt32).toBitVec % 32).toNat = n := by decide +kernel
theorem rx_shl_ok : ∀ i j n, rx_f_shl i j = some n → Int32.ofNat i <<< (Int32.ofNat j &&& 31) = Int32.ofNat n := by
  intro i j n h
  cases h
  have hj : j % 32 < 32 := Nat.mod_lt _ (by decide)
  rw [show Int32.ofNat j &&& 31 = nI (j % 32) from rx_m31 j]
  apply Int32.toBitVec_inj.mp
  apply BitVec.eq_of_toNat_eq
  rw [pk_shl _ _ (j % 32) (rx_s_l0 _ hj)]
  show (BitVec.ofNat 32 i).toNat * 2 ^ (j % 32) % 2 ^ 32 = (BitVec.ofNat 32 (i * 2 ^ (j % 32) % 4294967296)).toNat
  rw [BitVec.toNat_ofNat, BitVec.toNat_ofNat, Nat.mod_mul_mod]
  omega
theorem rx_ushr_ok : ∀ i j n, rx_f_ushr i j = some n → ((Int32.ofNat i).toUInt32 >>> ((Int32.ofNat j).toUInt32 &&& Int32.toUInt32 31)).toInt32 = Int32.ofNat n := by
  intro i j n h
  cases h
  have hj : j % 32 < 32 := Nat.mod_lt _ (by decide)
  have e0 : (Int32.ofNat j).toUInt32 &&& Int32.toUInt32 31 = (Int32.ofNat j &&& 31).toUInt32 := by
    apply UInt32.toBitVec_inj.mp
    simp
  have hk : (((Int32.ofNat j).toUInt32 &&& Int32.toUInt32 31).toBitVec % 32).toNat = j % 32 := by
    rw [e0, show Int32.ofNat j &&& 31 = nI (j % 32) from rx_m31 j]
    exact rx_s_u0 _ hj
  apply Int32.toBitVec_inj.mp
  apply BitVec.eq_of_toNat_eq
  rw [pk_ushr _ (Int32.ofNat j) (j % 32) hk]
  show (BitVec.ofNat 32 i).toNat / 2 ^ (j % 32) = (BitVec.ofNat 32 (i % 4294967296 / 2 ^ (j % 32))).toNat
  rw [BitVec.toNat_ofNat, BitVec.toNat_ofNat]
  have h1 : i % 4294967296 / 2 ^ (j % 32) ≤ i % 4294967296 := Nat.div_le_self _ _
  rw [Nat.mod_eq_of_lt (show i % 4294967296 / 2 ^ (j % 32) < 2 ^ 32 by omega)]
theorem rx_ofN_bv (z : Int32) : z = Int32.ofNat z.toBitVec.toNat := by
  apply Int32.toBitVec_inj.mp
  simp
theorem rx_no_ok {F : Int32 → Int32 → Int32} : ∀ i j n, rx_f_no i j = some n → F (Int32.ofNat i) (Int32.ofNat j) = Int32.ofNat n := fun _ _ _ h => by cases h
theorem rx_gand_ok (ad : List Nat) (en : List Int32) (v : Nat) (x y : Int32) (h : rx_cv b ad en v = some (.int y)) : (rx_gand v).1 ≤ rx_bias (x &&& y) ∧ rx_bias (x &&& y) ≤ (rx_gand v).2 := by
  unfold rx_gand
  cases hc : (Nat.beq (rx_tk v) 0 && Nat.blt (rx_pl v) 2147483648) with
  | false => exact ⟨Nat.zero_le _, rx_bias_max _⟩
  | true =>
    obtain ⟨h0, h1⟩ := rx_and2.mp hc
    have h1 : v / 4 < 2147483648 := rx_blt.mp h1
    rw [rx_cv0 (rx_beq.mp h0)] at h
    cases h
    have hk : (x &&& Int32.ofNat (v / 4)).toBitVec.toNat ≤ v / 4 := by
      rw [Int32.toBitVec_and, BitVec.toNat_and]
      refine Nat.le_trans Nat.and_le_right ?_
      rw [show (Int32.ofNat (v / 4)).toBitVec = BitVec.ofNat 32 (v / 4) by simp, BitVec.toNat_ofNat]
      exact Nat.mod_le _ _
    rw [rx_ofN_bv (x &&& Int32.ofNat (v / 4)), rx_bias_ofNat]
    generalize (x &&& Int32.ofNat (v / 4)).toBitVec.toNat = k at hk
    have hb : rx_bi k = k + 2147483648 := by unfold rx_bi; show (k + 2147483648) % 4294967296 = _; omega
    rw [hb]
    show 2147483648 ≤ k + 2147483648 ∧ k + 2147483648 ≤ v / 4 + 2147483648
    omega
end RXS2
