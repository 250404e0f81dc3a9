/-! Frames: places S and fields T of 175 may change, nothing else -/
def gxo (S T : List Nat) (F F' : fx_F) : Prop := ∀ p i, p ∉ S → (p = 175 → i ∉ T) → F' p i = F p i
theorem gxo.rf {S T : List Nat} {F : fx_F} : gxo S T F F := fun _ _ _ _ => rfl
theorem gxo.tr {S T : List Nat} {F F1 F2 : fx_F} (h : gxo S T F F1) (h2 : gxo S T F1 F2) : gxo S T F F2 := fun p i hp hi => (h2 p i hp hi).trans (h p i hp hi)
theorem gxo.mono {S T S' T' : List Nat} {F F1 : fx_F} (h : gxo S T F F1) (hS : ∀ q ∈ S, q ∈ S') (hT : ∀ q ∈ T, q ∈ T') : gxo S' T' F F1 := fun p i hp hi => h p i (fun z => hp (hS p z)) (fun e z => hi e (hT i z))
theorem gxo.wr {S T : List Nat} {F F1 : fx_F} {p i v : Nat} (h : gxo S T F F1) (hp : p ∈ S) : gxo S T F (fu F1 p i v) := fun q j hq hj => by
  rw [fu_p (show q ≠ p from fun z => hq (by rw [z]; exact hp))]; exact h q j hq hj
theorem gxo.wrf {S T : List Nat} {F F1 : fx_F} {i v : Nat} (h : gxo S T F F1) (hi : i ∈ T) : gxo S T F (fu F1 175 i v) := fun q j hq hj => by
  by_cases e : q = 175
  · subst e
    rw [fu_i (show j ≠ i from fun z => hj rfl (by rw [z]; exact hi))]; exact h 175 j hq hj
  · rw [fu_p e]; exact h q j hq hj
theorem gxo.cp {S T : List Nat} {F F1 : fx_F} {s d : Nat} (h : gxo S T F F1) (hd : d ∈ S) : gxo S T F (fcp F1 s d) := fun q j hq hj => by
  rw [fcp_o (show q ≠ d from fun z => hq (by rw [z]; exact hd))]; exact h q j hq hj
theorem gxo.fx {S : List Nat} {F F1 : fx_F} (h : gxo S [] F F1) : fxo S F F1 := fun p i hp => h p i hp (fun _ z => by cases z)
theorem fo_if {c d A B P : Prop} (hcd : c ∨ d) (Q : (c → A) ∧ (d → B)) (hA : A → P) (hB : B → P) : P := hcd.elim (fun z => hA (Q.1 z)) (fun z => hB (Q.2 z))
theorem fo_eq {α : Type} {x y : α} : x = y ∨ x ≠ y := Classical.em _
theorem fo_ne {α : Type} {x y : α} : x ≠ y ∨ x = y := (Classical.em _).symm
theorem fo_lt {x y : Nat} : s_lt x y ∨ s_le y x := by
  rcases s_tri x y with ⟨h, _⟩ | ⟨h, _⟩
  · exact Or.inl h
  · exact Or.inr h
theorem fo_le {x y : Nat} : s_le x y ∨ s_lt y x := fo_lt.symm
