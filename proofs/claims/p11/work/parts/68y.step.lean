/-! Steps, on both sides -/
section STEP
variable {nn L q j R : Nat} {E : Nat → Nat} {v : fx_V} {F F' G G' : fx_F}
theorem i_add_lt {x y : Nat} : i_add x y < 4294967296 := i_lt32.1 x y
theorem sc_mgi (hN : nt_ok nn L E) (h : sc F q (G 176) nn L E) (hm : mn G nn L E) : mgi G nn L E (bts (F q 2)) (bts (F q 1)) := ⟨hm, fun l hl => mst_sc (h.2.2.1.2 l hl), fun l hl => h.2.1.2 l hl⟩
theorem sc_lt (hN : nt_ok nn L E) {X : Nat → Nat} (h : sc F q X nn L E) : F q 1 < 1048576 ∧ F q 2 < 1048576 := ⟨p20 hN.2.1 h.2.1.1, p20 hN.2.1 h.2.2.1.1⟩
/-- one packet, on both sides -/
theorem s_packet (hN : nt_ok nn L E) (hq : sok q) (hj : j < 12) (hcn : cn F nn L E) {w : Nat} {G1 : fx_F} (hs : sc F q (G 176) nn L E) (hne : F (q + 1) j ≠ 4294967295) (y : Nat) (hyl : y = 4294967295 ∨ y < 2 * L) (hc : cgo F F' q j R y) (hm : mgo2 G G1 w j R E y) (hG : G' = if w = 0 then fu G1 176 (89 + j) (i_add (G1 176 (89 + j)) 1) else G1) : sc F' q (G' 176) nn L E ∧ w ≤ 1 ∧ (F' 50 1 = if w = 0 then F 50 1 else i_add (F 50 1) 1) ∧ fxo [q, q + 1, q + 3, q + 4, 50] F F' ∧ fxo [176] G G' ∧ (∀ i, i < 41 → G' 176 i = G 176 i) ∧ F' q 1 = F q 1 ∧ F' q 2 = F q 2 := by
  have hn := hN.1
  have hL := hN.2.1
  obtain ⟨q1, q2, q3⟩ := hq
  obtain ⟨⟨s1, s1a, s1b⟩, s2, s3, s4, s5⟩ := hs
  have hp := s5 j hj
  obtain ⟨p1, p2, p3, p4, p5, p6, p7, p8⟩ := hp.resolve_left (fun z => hne z.1)
  have hby := by_eq (c := y) s5 hn
  rcases hc with ⟨c1, c2⟩ | ⟨c1, c2, c3⟩ | ⟨c1, c2, c3, c4⟩
  · -- it arrives
    rcases hm with ⟨m1, m2, m3⟩ | ⟨m1, _⟩ | ⟨m1, _⟩
    · subst m2
      rw [if_neg (by decide)] at hG
      subst hG
      subst m3
      subst c2
      refine ⟨⟨⟨?_, ?_, ?_⟩, ⟨?_, fun l hl => ?_⟩, ⟨?_, fun l hl => ?_⟩, ?_, fun i hi => ?_⟩, Nat.le_refl 1, ?_, ?_, (fxo.rf.wr (by simp)).wr (by simp), fun i hi => ?_, ?_, ?_⟩
      · rw [fu_p (show q ≠ 50 by omega), fu_i (by decide), fu_p (show q ≠ q + 1 by omega), fu_i (by decide), fu_i (by omega)]; exact s1
      · rw [fu_i (by decide), fu_i (by omega)]; exact s1a
      · rw [fu_i (by decide), fu_i (by omega)]; exact s1b
      · rw [fu_p (show q ≠ 50 by omega), fu_i (by decide), fu_p (show q ≠ q + 1 by omega)]; exact s2.1
      · rw [fu_p (show q ≠ 50 by omega), fu_i (show 1 ≠ 3 by decide), fu_p (show q ≠ q + 1 by omega), fu_i (show 20 + l ≠ 101 by omega), fu_i (show 20 + l ≠ 41 + j by omega)]; exact s2.2 l hl
      · rw [fu_p (show q ≠ 50 by omega), fu_i (by decide), fu_p (show q ≠ q + 1 by omega)]; exact s3.1
      · rw [fu_p (show q ≠ 50 by omega), fu_i (show 2 ≠ 3 by decide), fu_p (show q ≠ q + 1 by omega), fu_i (show l ≠ 101 by omega), fu_i (show l ≠ 41 + j by omega)]; exact s3.2 l hl
      · rw [fu_p (show q ≠ 50 by omega), fu_same, fu_same, s4]
      · unfold pk
        rw [fu_p (show q + 1 ≠ 50 by omega), fu_p (show q + 1 ≠ q by omega), fu_p (show q + 2 ≠ 50 by omega), fu_p (show q + 2 ≠ q by omega), fu_p (show q + 2 ≠ q + 1 by omega), fu_p (show q + 3 ≠ 50 by omega), fu_p (show q + 3 ≠ q by omega), fu_p (show q + 3 ≠ q + 1 by omega), fu_p (show q + 4 ≠ 50 by omega), fu_p (show q + 4 ≠ q by omega), fu_p (show q + 4 ≠ q + 1 by omega)]
        rw [fu_i (show 41 + i ≠ 101 by omega), fu_i (show 65 + i ≠ 101 by omega), fu_i (show 53 + i ≠ 101 by omega), fu_i (show 77 + i ≠ 101 by omega), fu_i (show 89 + i ≠ 101 by omega), fu_i (show 65 + i ≠ 41 + j by omega), fu_i (show 53 + i ≠ 41 + j by omega), fu_i (show 77 + i ≠ 41 + j by omega), fu_i (show 89 + i ≠ 41 + j by omega)]
        by_cases e : i = j
        · subst e; rw [fu_same, fu_same]; exact Or.inl ⟨rfl, rfl⟩
        · rw [fu_i e, fu_i (show 41 + i ≠ 41 + j by omega)]; exact s5 i hi
      · rw [fu_same]; rfl
      · exact ((fxo.rf.wr (by simp)).wr (by simp)).wr (by simp)
      · rw [fu_i (by omega), fu_i (by omega)]
      · rw [fu_p (show q ≠ 50 by omega), fu_i (by decide), fu_p (show q ≠ q + 1 by omega)]
      · rw [fu_p (show q ≠ 50 by omega), fu_i (by decide), fu_p (show q ≠ q + 1 by omega)]
    · exact absurd (by rw [p2, p4]; exact c1) m1
    · exact absurd (by rw [p2, p4]; exact c1) m1
  · -- it waits
    rcases hm with ⟨m1, _⟩ | ⟨m1, m2, m3, m4⟩ | ⟨m1, m2, m3, _⟩
    · exact absurd (by rw [← p2, ← p4]; exact m1) c1
    · subst m3
      rw [if_pos rfl] at hG
      subst m4
      subst hG
      subst c3
      refine ⟨⟨⟨?_, ?_, ?_⟩, ⟨?_, fun l hl => ?_⟩, ⟨?_, fun l hl => ?_⟩, ?_, fun i hi => ?_⟩, Nat.zero_le 1, ?_, ?_, fxo.rf.wr (by simp), fun i hi => ?_, ?_, ?_⟩
      · rw [fu_p (show q ≠ 50 by omega), fu_p (show q ≠ q + 4 by omega), fu_i (by omega)]; exact s1
      · rw [fu_i (by omega)]; exact s1a
      · rw [fu_i (by omega)]; exact s1b
      · rw [fu_p (show q ≠ 50 by omega), fu_p (show q ≠ q + 4 by omega)]; exact s2.1
      · rw [fu_p (show q ≠ 50 by omega), fu_p (show q ≠ q + 4 by omega), fu_i (by omega)]; exact s2.2 l hl
      · rw [fu_p (show q ≠ 50 by omega), fu_p (show q ≠ q + 4 by omega)]; exact s3.1
      · rw [fu_p (show q ≠ 50 by omega), fu_p (show q ≠ q + 4 by omega), fu_i (by omega)]; exact s3.2 l hl
      · rw [fu_p (show q ≠ 50 by omega), fu_p (show q ≠ q + 4 by omega), fu_i (by omega)]; exact s4
      · unfold pk
        rw [fu_p (show q + 1 ≠ 50 by omega), fu_p (show q + 1 ≠ q + 4 by omega), fu_p (show q + 2 ≠ 50 by omega), fu_p (show q + 2 ≠ q + 4 by omega), fu_p (show q + 3 ≠ 50 by omega), fu_p (show q + 3 ≠ q + 4 by omega), fu_p (show q + 4 ≠ 50 by omega)]
        rw [fu_i (show 41 + i ≠ 89 + j by omega), fu_i (show 65 + i ≠ 89 + j by omega), fu_i (show 53 + i ≠ 89 + j by omega), fu_i (show 77 + i ≠ 89 + j by omega)]
        by_cases e : i = j
        · subst e
          rw [fu_same, fu_same, p8]
          exact Or.inr ⟨p1, p2, p3, p4, p5, p6, p7, rfl⟩
        · rw [fu_i e, fu_i (show 89 + i ≠ 89 + j by omega)]; exact s5 i hi
      · rw [fu_i (by decide), fu_p (show 50 ≠ q + 4 by omega)]; rfl
      · exact (fxo.rf.wr (by simp)).wr (by simp)
      · rw [fu_i (by omega)]
      · rw [fu_p (show q ≠ 50 by omega), fu_p (show q ≠ q + 4 by omega)]
      · rw [fu_p (show q ≠ 50 by omega), fu_p (show q ≠ q + 4 by omega)]
    · rcases c2 with z | z
      · exact absurd z m2
      · rw [hby] at z; omega
  · -- it goes on
    rcases hm with ⟨m1, _⟩ | ⟨m1, m2, _⟩ | ⟨m1, m2, m3, m4, m5⟩
    · exact absurd (by rw [← p2, ← p4]; exact m1) c1
    · rcases m2 with z | z
      · exact absurd z c2
      · rw [← hby] at z; omega
    · subst m4
      rw [if_neg (by decide)] at hG
      subst hG
      subst m5
      subst c4
      have hy2 := hyl.resolve_left c2
      have e5 : F 5 y = E (nf y) := (hcn.2.2 y hy2).2
      have eN : E (nf y) < nn := (hN.2.2 _ (nf_lt hy2)).1
      rw [e5]
      refine ⟨⟨⟨?_, ?_, ?_⟩, ⟨?_, fun l hl => ?_⟩, ⟨?_, fun l hl => ?_⟩, ?_, fun i hi => ?_⟩, Nat.le_refl 1, ?_, ?_, (fxo.rf.wr (by simp)).wr (by simp), fun i hi => ?_, ?_, ?_⟩
      · rw [fu_p (show q ≠ 50 by omega), fu_p (show q ≠ q + 3 by omega), fu_p (show q ≠ q + 1 by omega), fu_i (by omega), fu_i (by omega)]; exact s1
      · rw [fu_i (by omega), fu_i (by omega)]; exact s1a
      · rw [fu_i (by omega), fu_i (by omega)]; exact s1b
      · rw [fu_p (show q ≠ 50 by omega), fu_p (show q ≠ q + 3 by omega), fu_p (show q ≠ q + 1 by omega)]; exact s2.1
      · rw [fu_p (show q ≠ 50 by omega), fu_p (show q ≠ q + 3 by omega), fu_p (show q ≠ q + 1 by omega), fu_i (by omega), fu_i (by omega)]; exact s2.2 l hl
      · rw [fu_p (show q ≠ 50 by omega), fu_p (show q ≠ q + 3 by omega), fu_p (show q ≠ q + 1 by omega)]; exact s3.1
      · rw [fu_p (show q ≠ 50 by omega), fu_p (show q ≠ q + 3 by omega), fu_p (show q ≠ q + 1 by omega), fu_i (by omega), fu_i (by omega)]; exact s3.2 l hl
      · rw [fu_p (show q ≠ 50 by omega), fu_p (show q ≠ q + 3 by omega), fu_p (show q ≠ q + 1 by omega), fu_i (by omega), fu_i (by omega)]; exact s4
      · unfold pk
        rw [fu_p (show q + 1 ≠ 50 by omega), fu_p (show q + 1 ≠ q + 3 by omega), fu_p (show q + 2 ≠ 50 by omega), fu_p (show q + 2 ≠ q + 3 by omega), fu_p (show q + 2 ≠ q + 1 by omega), fu_p (show q + 3 ≠ 50 by omega), fu_p (show q + 4 ≠ 50 by omega), fu_p (show q + 4 ≠ q + 3 by omega), fu_p (show q + 4 ≠ q + 1 by omega)]
        rw [fu_i (show 41 + i ≠ 77 + j by omega), fu_i (show 41 + i ≠ 65 + j by omega), fu_i (show 65 + i ≠ 77 + j by omega), fu_i (show 53 + i ≠ 77 + j by omega), fu_i (show 53 + i ≠ 65 + j by omega), fu_i (show 89 + i ≠ 77 + j by omega), fu_i (show 89 + i ≠ 65 + j by omega)]
        by_cases e : i = j
        · subst e
          rw [fu_same, fu_same, fu_same, fu_same]
          exact Or.inr ⟨p1, rfl, eN, p4, p5, rfl, Or.inr hy2, p8⟩
        · rw [fu_i e, fu_i (show 65 + i ≠ 65 + j by omega), fu_i (show 77 + i ≠ 77 + j by omega), fu_i (show 77 + i ≠ 65 + j by omega), fu_i e, fu_p (show q + 3 ≠ q + 1 by omega)]
          exact s5 i hi
      · rw [fu_same]; rfl
      · exact ((fxo.rf.wr (by simp)).wr (by simp)).wr (by simp)
      · rw [fu_i (by omega), fu_i (by omega)]
      · rw [fu_p (show q ≠ 50 by omega), fu_p (show q ≠ q + 3 by omega), fu_p (show q ≠ q + 1 by omega)]
      · rw [fu_p (show q ≠ 50 by omega), fu_p (show q ≠ q + 3 by omega), fu_p (show q ≠ q + 1 by omega)]
end STEP
