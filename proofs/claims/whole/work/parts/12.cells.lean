theorem cell_X4_passOnce {σ : St} {x2 x3 : Int32} {r : Nat} {σ' : St} (h : f4_passOnce σ x2 x3 = some (r, σ')) : r = 24 := by
  unfold f4_passOnce at h
  obtain ⟨s, _, h⟩ := b1_some h
  cases h
  rfl
theorem cell_passAll_L {x3 : Int32} {r : Nat} {σ' : St} : ∀ (n : Nat) (a b : Int32) (σ : St), L4_passAll_14 x3 (fun σ => some (24, σ)) n a b σ = some (r, σ') → r = 24 := by
  intro n
  induction n with
  | zero => intro a b σ h; unfold L4_passAll_14 at h; cases h
  | succ n ih =>
    intro a b σ h
    unfold L4_passAll_14 at h
    obtain ⟨r1, _, h⟩ := b1_some h
    by_cases c : r1 ≤ b
    · rw [if_pos c] at h
      cases h
      rfl
    · rw [if_neg c] at h
      obtain ⟨r2, _, h⟩ := b1_some h
      obtain ⟨r3, _, h⟩ := b1_some h
      obtain ⟨r4, _, h⟩ := b1_some h
      exact ih _ _ _ h
theorem cell_X4_passAll {σ : St} {x3 : Int32} {r : Nat} {σ' : St} (h : f4_passAll σ x3 = some (r, σ')) : r = 24 := by
  unfold f4_passAll at h
  obtain ⟨s, _, h⟩ := b1_some h
  exact cell_passAll_L _ _ _ _ h
