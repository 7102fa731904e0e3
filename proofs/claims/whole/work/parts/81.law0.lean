/-! the law's start -/
theorem aoa_spec {U : State} (h : va_AOA .int U) : ∃ (cA : ClassId) (kA : Class) (comp : ClassId), U.vm.findClass ("[" ++ (FieldType.array .int).toString) = some cA ∧ U.vm.classes[cA]? = some kA ∧ kA.kind = .array comp (.array .int) := by
  unfold va_AOA Cond.before Cond.holds at h
  simp only [Cond.value, beq_iff_eq, Option.bind_eq_some_iff, Option.map_eq_some_iff] at h
  obtain ⟨comp, h1, c, h2, k, h3, h4⟩ := h
  cases hk : k.kind with
  | array cc ty =>
    rw [hk] at h4
    simp only [Bool.and_eq_true, decide_eq_true_eq] at h4
    exact ⟨c, k, cc, h4.2, h3, by rw [hk, h4.1]⟩
  | _ => rw [hk] at h4; simp at h4
theorem kt_X5 : Cond.instantiable RX5 12 ∈ lw_tbl := List.mem_of_getElem? (i := 94) (by decide +kernel)
theorem kt_X6 : Cond.instantiable RX6 22 ∈ lw_tbl := List.mem_of_getElem? (i := 749) (by decide +kernel)
theorem law_K {s : State} {b : Nat} (hts : ∀ w ∈ lw_tbl, w.before #[Value.ref b] s = true) : ∃ (D : va_G) (cI cZ cA : ClassId), va_K D vwCl [(cI, .int), (cZ, .boolean), (cA, .array .int)] s ∧ va_AOA .int s ∧ tbOK s := by
  obtain ⟨c0, i0, k0⟩ := u_known (C := RX0) (T := TX0) (N := 2) (n := 2) hts (fun w hw => (cl_X0.2.1 w hw).1) (hts _ kt_X0)
  obtain ⟨c1, i1, k1⟩ := u_known (C := RX1) (T := TX1) (N := 10) (n := 10) hts (fun w hw => (cl_X1.2.1 w hw).1) (hts _ kt_X1)
  obtain ⟨c2, i2, k2⟩ := u_known (C := RX2) (T := TX2) (N := 3) (n := 3) hts (fun w hw => (cl_X2.2.1 w hw).1) (hts _ kt_X2)
  obtain ⟨c3, i3, k3⟩ := u_known (C := RX3) (T := TX3) (N := 3) (n := 3) hts (fun w hw => (cl_X3.2.1 w hw).1) (hts _ kt_X3)
  obtain ⟨c4, i4, k4⟩ := u_known (C := RX4) (T := TX4) (N := 8) (n := 8) hts (fun w hw => (cl_X4.2.1 w hw).1) (hts _ kt_X4)
  obtain ⟨c5, i5, k5⟩ := u_known (C := RX5) (T := TX5) (N := 12) (n := 12) hts (fun w hw => (cl_X5.2.1 w hw).1) (hts _ kt_X5)
  obtain ⟨c6, i6, k6⟩ := u_known (C := RX6) (T := TX6) (N := 22) (n := 22) hts (fun w hw => (cl_X6.2.1 w hw).1) (hts _ kt_X6)
  have hao : va_AOA .int s := hts _ kaO
  obtain ⟨cI, kI, pI, f1, f2, f3⟩ := Cond.arrayClass_spec (hts _ kaI)
  obtain ⟨cZ, kZ, pZ, z1, z2, z3⟩ := Cond.arrayClass_spec (hts _ kaZ)
  obtain ⟨cA, kA, pA, a1, a2, a3⟩ := aoa_spec hao
  refine ⟨(fun k => match k with | 0 => c0 | 1 => c1 | 2 => c2 | 3 => c3 | 4 => c4 | 5 => c5 | _ => c6, fun k => match k with | 0 => i0 | 1 => i1 | 2 => i2 | 3 => i3 | 4 => i4 | 5 => i5 | _ => i6), cI, cZ, cA, ⟨?_, ?_⟩, hao, tbOK.of hts⟩
  · intro k q hq
    match k, hq with
    | 0, hq => cases hq; exact k0
    | 1, hq => cases hq; exact k1
    | 2, hq => cases hq; exact k2
    | 3, hq => cases hq; exact k3
    | 4, hq => cases hq; exact k4
    | 5, hq => cases hq; exact k5
    | 6, hq => cases hq; exact k6
  · intro k q hq
    match k, hq with
    | 0, hq => cases hq; exact ⟨fun N z => ⟨(fun k h => by cases h), kI, f2, pI, f3⟩, f1⟩
    | 1, hq => cases hq; exact ⟨fun N z => ⟨(fun k h => by cases h), kZ, z2, pZ, z3⟩, z1⟩
    | 2, hq => cases hq; exact ⟨fun N z => ⟨(fun k h => by cases h), kA, a2, pA, a3⟩, a1⟩
