/-! the law's start -/
theorem aoa_spec {U : State} (h : va_AOA .int U) : ∃ (cA : ClassId) (kA : Class) (comp : ClassId), U.vm.findClass ("[" ++ (FieldType.array .int).toString) = some cA ∧ U.vm.classes[cA]? = some kA ∧ kA.kind = .array comp (.array .int) := by
  unfold va_AOA Cond.before Cond.holds at h
  simp only [Cond.value, beq_iff_eq, Option.bind_eq_some_iff, Option.map_eq_some_iff] at h
  obtain ⟨comp, h1, c, h2, k, h3, h4⟩ := h
  cases hk : k.kind with
  | array cc ty =>
    rw [hk] at h4
    simp only [Bool.and_eq_true, decide_eq_true_eq] at h4
    exact ⟨c, k, cc, h4.2, h3, by rw [hk, h4.1]⟩
  | _ => rw [hk] at h4; simp at h4
