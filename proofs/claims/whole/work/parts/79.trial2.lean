/-! the constructor of Trial (by ctor.py) -/
theorem ko_X4 : Cond.methodLink RX4 3 Lib.objectInit ∈ lw_tbl := List.mem_of_getElem? (i := 190) (by decide +kernel)
theorem kcl_X4 : Cond.classLink RX4 9 ("[" ++ (FieldType.array .int).toString) ∈ lw_tbl := List.mem_of_getElem? (i := 191) (by decide +kernel)
theorem kg_X4_11 : Cond.fieldLink RX4 11 (TX4 0).1 (TX4 0).2.1 (TX4 0).2.2.1 ∈ lw_tbl := List.mem_of_getElem? (i := 193) (by decide +kernel)
theorem kg_X4_16 : Cond.fieldLink RX4 16 (TX4 1).1 (TX4 1).2.1 (TX4 1).2.2.1 ∈ lw_tbl := List.mem_of_getElem? (i := 194) (by decide +kernel)
theorem kg_X4_20 : Cond.fieldLink RX4 20 (TX4 2).1 (TX4 2).2.1 (TX4 2).2.2.1 ∈ lw_tbl := List.mem_of_getElem? (i := 196) (by decide +kernel)
theorem kg_X4_24 : Cond.fieldLink RX4 24 (TX4 3).1 (TX4 3).2.1 (TX4 3).2.2.1 ∈ lw_tbl := List.mem_of_getElem? (i := 197) (by decide +kernel)
theorem kg_X4_28 : Cond.fieldLink RX4 28 (TX4 4).1 (TX4 4).2.1 (TX4 4).2.2.1 ∈ lw_tbl := List.mem_of_getElem? (i := 198) (by decide +kernel)
theorem kg_X4_31 : Cond.fieldLink RX4 31 (TX4 5).1 (TX4 5).2.1 (TX4 5).2.2.1 ∈ lw_tbl := List.mem_of_getElem? (i := 199) (by decide +kernel)
theorem kg_X4_34 : Cond.fieldLink RX4 34 (TX4 6).1 (TX4 6).2.1 (TX4 6).2.2.1 ∈ lw_tbl := List.mem_of_getElem? (i := 200) (by decide +kernel)
theorem kg_X4_37 : Cond.fieldLink RX4 37 (TX4 7).1 (TX4 7).2.1 (TX4 7).2.2.1 ∈ lw_tbl := List.mem_of_getElem? (i := 201) (by decide +kernel)
theorem mX4_init (D : va_G) (cI cZ cA : ClassId) (l : Launch) (q : Nat) : iC D cI cZ cA l yX4_init cX4_init 1 { frames := 1, cells := 9, slots := 54, locals := 12 } [.ref q] [(q, .inr (4, [.null, .null, .int 0, .int 0, .int 0, .int 0, .int 0, .int 0]))] (fun r => [(q, .inr (4, [.ref (r 0), .ref (r 1), .int 0, .int 0, .int 0, .int 0, .int 0, .int 0])), ((r 0), .inl (cA, 7, .inr (.inr (.inr (.inr (fun i => if i < 7 then some (r (i + 2)) else none)))))), ((r 1), .inl (cI, 5, .inl (fun _ => 0))), ((r 2), .inl (cI, 6, .inl (fun _ => 0))), ((r 3), .inl (cI, 6, .inl (fun _ => 0))), ((r 4), .inl (cI, 6, .inl (fun _ => 0))), ((r 5), .inl (cI, 6, .inl (fun _ => 0))), ((r 6), .inl (cI, 6, .inl (fun _ => 0))), ((r 7), .inl (cI, 6, .inl (fun _ => 0))), ((r 8), .inl (cI, 6, .inl (fun _ => 0)))]) 9 54 := by
  refine i_entry (own := RX4) rfl rfl (by decide) (Nat.le_of_ble_eq_true rfl) ?_
  intro X hXl hin C Kf hk0 hn0 hQ
  refine g_aload_n C 0 dX4_init_0 rfl ?_
  refine w_obj C dX4_init_1 ko_X4 koL ⟨(Nat.le_of_ble_eq_true rfl), (Nat.le_of_ble_eq_true rfl)⟩ ?_
  refine g_aload_n C 0 dX4_init_4 rfl ?_
  refine g_bipush C dX4_init_5 (v := 7) (by decide) ?_
  refine g_bipush C dX4_init_7 (v := 6) (by decide) ?_
  refine w_mna C Kf (N' := 7) (K' := 6) (by decide) (by decide) (by decide) (by decide) (by omega) (by rw [cb_int]; omega) (by omega) (by rw [hk0]; show 0 + (1 + 7) ≤ 9; omega) (by rw [hn0]; show 0 + (7 + 7 * 6) ≤ 54; omega) kcl_X4 dX4_init_9 (fun q1 rr => ?_)
  rw [hk0, hn0]
  have C1 := C.at (k := 8) (n := 49) (show 8 ≤ 9 by omega) (show 49 ≤ 54 by omega)
  have Kf1 := Kf.at 8 49
  refine w_putF C1 Kf1 0 [(q, .inr (4, [.ref q1, .null, .int 0, .int 0, .int 0, .int 0, .int 0, .int 0])), (q1, .inl (cA, 7, .inr (.inr (.inr (.inr (fun i => if i < 7 then some (rr i) else none)))))), ((rr 0), .inl (cI, 6, .inl (fun _ => 0))), ((rr 1), .inl (cI, 6, .inl (fun _ => 0))), ((rr 2), .inl (cI, 6, .inl (fun _ => 0))), ((rr 3), .inl (cI, 6, .inl (fun _ => 0))), ((rr 4), .inl (cI, 6, .inl (fun _ => 0))), ((rr 5), .inl (cI, 6, .inl (fun _ => 0))), ((rr 6), .inl (cI, 6, .inl (fun _ => 0)))] cl_X4 hin rfl rfl (k := 0) (by decide) (by decide) (by decide) rfl rfl (Nat.le_of_ble_eq_true rfl) dX4_init_13 kg_X4_11 ?_
  refine g_aload_n C1 0 dX4_init_16 rfl ?_
  refine g_iconst C1 dX4_init_17 (v := 5) (by decide) ?_
  refine w_newi C1 Kf1 (N := 5) kaI (by decide) (by decide) (by rw [cb_int]; omega) (show 8 + 1 ≤ 9 by omega) (show 49 + 5 ≤ 54 by omega) dX4_init_18 (fun q2 => ?_)
  have C2 := C.at (k := 9) (n := 54) (show 9 ≤ 9 by omega) (show 54 ≤ 54 by omega)
  have Kf2 := Kf.at 9 54
  refine w_putF C2 Kf2 0 [(q, .inr (4, [.ref q1, .ref q2, .int 0, .int 0, .int 0, .int 0, .int 0, .int 0])), (q1, .inl (cA, 7, .inr (.inr (.inr (.inr (fun i => if i < 7 then some (rr i) else none)))))), ((rr 0), .inl (cI, 6, .inl (fun _ => 0))), ((rr 1), .inl (cI, 6, .inl (fun _ => 0))), ((rr 2), .inl (cI, 6, .inl (fun _ => 0))), ((rr 3), .inl (cI, 6, .inl (fun _ => 0))), ((rr 4), .inl (cI, 6, .inl (fun _ => 0))), ((rr 5), .inl (cI, 6, .inl (fun _ => 0))), ((rr 6), .inl (cI, 6, .inl (fun _ => 0))), (q2, .inl (cI, 5, .inl (fun _ => 0)))] cl_X4 hin rfl rfl (k := 1) (by decide) (by decide) (by decide) rfl rfl (Nat.le_of_ble_eq_true rfl) dX4_init_20 kg_X4_16 ?_
  refine g_aload_n C2 0 dX4_init_23 rfl ?_
  refine g_iconst C2 dX4_init_24 (v := 0) (by decide) ?_
  refine w_put C2 Kf2 0 [(q, .inr (4, [.ref q1, .ref q2, .int 0, .int 0, .int 0, .int 0, .int 0, .int 0])), (q1, .inl (cA, 7, .inr (.inr (.inr (.inr (fun i => if i < 7 then some (rr i) else none)))))), ((rr 0), .inl (cI, 6, .inl (fun _ => 0))), ((rr 1), .inl (cI, 6, .inl (fun _ => 0))), ((rr 2), .inl (cI, 6, .inl (fun _ => 0))), ((rr 3), .inl (cI, 6, .inl (fun _ => 0))), ((rr 4), .inl (cI, 6, .inl (fun _ => 0))), ((rr 5), .inl (cI, 6, .inl (fun _ => 0))), ((rr 6), .inl (cI, 6, .inl (fun _ => 0))), (q2, .inl (cI, 5, .inl (fun _ => 0)))] cl_X4 rfl rfl (k := 2) (by decide) (by decide) rfl rfl (Nat.le_of_ble_eq_true rfl) dX4_init_25 kg_X4_20 ?_
  refine g_aload_n C2 0 dX4_init_28 rfl ?_
  refine g_iconst C2 dX4_init_29 (v := 0) (by decide) ?_
  refine w_put C2 Kf2 0 [(q, .inr (4, [.ref q1, .ref q2, .int 0, .int 0, .int 0, .int 0, .int 0, .int 0])), (q1, .inl (cA, 7, .inr (.inr (.inr (.inr (fun i => if i < 7 then some (rr i) else none)))))), ((rr 0), .inl (cI, 6, .inl (fun _ => 0))), ((rr 1), .inl (cI, 6, .inl (fun _ => 0))), ((rr 2), .inl (cI, 6, .inl (fun _ => 0))), ((rr 3), .inl (cI, 6, .inl (fun _ => 0))), ((rr 4), .inl (cI, 6, .inl (fun _ => 0))), ((rr 5), .inl (cI, 6, .inl (fun _ => 0))), ((rr 6), .inl (cI, 6, .inl (fun _ => 0))), (q2, .inl (cI, 5, .inl (fun _ => 0)))] cl_X4 rfl rfl (k := 3) (by decide) (by decide) rfl rfl (Nat.le_of_ble_eq_true rfl) dX4_init_30 kg_X4_24 ?_
  refine g_aload_n C2 0 dX4_init_33 rfl ?_
  refine g_iconst C2 dX4_init_34 (v := 0) (by decide) ?_
  refine w_put C2 Kf2 0 [(q, .inr (4, [.ref q1, .ref q2, .int 0, .int 0, .int 0, .int 0, .int 0, .int 0])), (q1, .inl (cA, 7, .inr (.inr (.inr (.inr (fun i => if i < 7 then some (rr i) else none)))))), ((rr 0), .inl (cI, 6, .inl (fun _ => 0))), ((rr 1), .inl (cI, 6, .inl (fun _ => 0))), ((rr 2), .inl (cI, 6, .inl (fun _ => 0))), ((rr 3), .inl (cI, 6, .inl (fun _ => 0))), ((rr 4), .inl (cI, 6, .inl (fun _ => 0))), ((rr 5), .inl (cI, 6, .inl (fun _ => 0))), ((rr 6), .inl (cI, 6, .inl (fun _ => 0))), (q2, .inl (cI, 5, .inl (fun _ => 0)))] cl_X4 rfl rfl (k := 4) (by decide) (by decide) rfl rfl (Nat.le_of_ble_eq_true rfl) dX4_init_35 kg_X4_28 ?_
  refine g_aload_n C2 0 dX4_init_38 rfl ?_
  refine g_iconst C2 dX4_init_39 (v := 0) (by decide) ?_
  refine w_put C2 Kf2 0 [(q, .inr (4, [.ref q1, .ref q2, .int 0, .int 0, .int 0, .int 0, .int 0, .int 0])), (q1, .inl (cA, 7, .inr (.inr (.inr (.inr (fun i => if i < 7 then some (rr i) else none)))))), ((rr 0), .inl (cI, 6, .inl (fun _ => 0))), ((rr 1), .inl (cI, 6, .inl (fun _ => 0))), ((rr 2), .inl (cI, 6, .inl (fun _ => 0))), ((rr 3), .inl (cI, 6, .inl (fun _ => 0))), ((rr 4), .inl (cI, 6, .inl (fun _ => 0))), ((rr 5), .inl (cI, 6, .inl (fun _ => 0))), ((rr 6), .inl (cI, 6, .inl (fun _ => 0))), (q2, .inl (cI, 5, .inl (fun _ => 0)))] cl_X4 rfl rfl (k := 5) (by decide) (by decide) rfl rfl (Nat.le_of_ble_eq_true rfl) dX4_init_40 kg_X4_31 ?_
  refine g_aload_n C2 0 dX4_init_43 rfl ?_
  refine g_iconst C2 dX4_init_44 (v := 0) (by decide) ?_
  refine w_put C2 Kf2 0 [(q, .inr (4, [.ref q1, .ref q2, .int 0, .int 0, .int 0, .int 0, .int 0, .int 0])), (q1, .inl (cA, 7, .inr (.inr (.inr (.inr (fun i => if i < 7 then some (rr i) else none)))))), ((rr 0), .inl (cI, 6, .inl (fun _ => 0))), ((rr 1), .inl (cI, 6, .inl (fun _ => 0))), ((rr 2), .inl (cI, 6, .inl (fun _ => 0))), ((rr 3), .inl (cI, 6, .inl (fun _ => 0))), ((rr 4), .inl (cI, 6, .inl (fun _ => 0))), ((rr 5), .inl (cI, 6, .inl (fun _ => 0))), ((rr 6), .inl (cI, 6, .inl (fun _ => 0))), (q2, .inl (cI, 5, .inl (fun _ => 0)))] cl_X4 rfl rfl (k := 6) (by decide) (by decide) rfl rfl (Nat.le_of_ble_eq_true rfl) dX4_init_45 kg_X4_34 ?_
  refine g_aload_n C2 0 dX4_init_48 rfl ?_
  refine g_iconst C2 dX4_init_49 (v := 0) (by decide) ?_
  refine w_put C2 Kf2 0 [(q, .inr (4, [.ref q1, .ref q2, .int 0, .int 0, .int 0, .int 0, .int 0, .int 0])), (q1, .inl (cA, 7, .inr (.inr (.inr (.inr (fun i => if i < 7 then some (rr i) else none)))))), ((rr 0), .inl (cI, 6, .inl (fun _ => 0))), ((rr 1), .inl (cI, 6, .inl (fun _ => 0))), ((rr 2), .inl (cI, 6, .inl (fun _ => 0))), ((rr 3), .inl (cI, 6, .inl (fun _ => 0))), ((rr 4), .inl (cI, 6, .inl (fun _ => 0))), ((rr 5), .inl (cI, 6, .inl (fun _ => 0))), ((rr 6), .inl (cI, 6, .inl (fun _ => 0))), (q2, .inl (cI, 5, .inl (fun _ => 0)))] cl_X4 rfl rfl (k := 7) (by decide) (by decide) rfl rfl (Nat.le_of_ble_eq_true rfl) dX4_init_50 kg_X4_37 ?_
  refine w_perm Kf2 [0, 1, 9, 2, 3, 4, 5, 6, 7, 8] [(q, .inr (4, [.ref q1, .ref q2, .int 0, .int 0, .int 0, .int 0, .int 0, .int 0])), (q1, .inl (cA, 7, .inr (.inr (.inr (.inr (fun i => if i < 7 then some (rr i) else none)))))), (q2, .inl (cI, 5, .inl (fun _ => 0))), ((rr 0), .inl (cI, 6, .inl (fun _ => 0))), ((rr 1), .inl (cI, 6, .inl (fun _ => 0))), ((rr 2), .inl (cI, 6, .inl (fun _ => 0))), ((rr 3), .inl (cI, 6, .inl (fun _ => 0))), ((rr 4), .inl (cI, 6, .inl (fun _ => 0))), ((rr 5), .inl (cI, 6, .inl (fun _ => 0))), ((rr 6), .inl (cI, 6, .inl (fun _ => 0)))] rfl (by decide) rfl ?_
  exact i_ret C2 Kf2 (fun i => match i with | 0 => q1 | 1 => q2 | i + 2 => rr i) rfl rfl rfl hQ dX4_init_53
