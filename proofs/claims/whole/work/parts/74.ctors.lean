/-! constructors (by ctor.py) -/
theorem ko_X0 : Cond.methodLink RX0 3 Lib.objectInit ∈ lw_tbl := List.mem_of_getElem? (i := 224) (by decide +kernel)
theorem kg_X0_9 : Cond.fieldLink RX0 9 (TX0 0).1 (TX0 0).2.1 (TX0 0).2.2.1 ∈ lw_tbl := List.mem_of_getElem? (i := 225) (by decide +kernel)
theorem kg_X0_15 : Cond.fieldLink RX0 15 (TX0 1).1 (TX0 1).2.1 (TX0 1).2.2.1 ∈ lw_tbl := List.mem_of_getElem? (i := 226) (by decide +kernel)
theorem mX0_init (D : va_G) (cI cZ cA : ClassId) (l : Launch) (q : Nat) : iC D cI cZ cA l yX0_init cX0_init 1 { frames := 1, cells := 2, slots := 14, locals := 12 } [.ref q] [(q, .inr (0, [.null, .null]))] (fun r => [(q, .inr (0, [.ref (r 0), .ref (r 1)])), ((r 0), .inl (cI, 3, .inl (fun _ => 0))), ((r 1), .inl (cI, 11, .inl (fun _ => 0)))]) 2 14 := by
  refine i_entry (own := RX0) rfl rfl (by decide) (Nat.le_of_ble_eq_true rfl) ?_
  intro X hXl hin C Kf hk0 hn0 hQ
  refine g_aload_n C 0 dX0_init_0 rfl ?_
  refine w_obj C dX0_init_1 ko_X0 koL ⟨(Nat.le_of_ble_eq_true rfl), (Nat.le_of_ble_eq_true rfl)⟩ ?_
  refine g_aload_n C 0 dX0_init_4 rfl ?_
  refine g_iconst C dX0_init_5 (v := 3) (by decide) ?_
  refine w_newi C Kf (N := 3) kaI (by decide) (by decide) (by rw [cb_int]; omega) (by rw [hk0]; show 0 + 1 ≤ 2; omega) (by rw [hn0]; show 0 + 3 ≤ 14; omega) dX0_init_6 (fun q1 => ?_)
  rw [hk0, hn0]
  have C1 := C.at (k := 1) (n := 3) (show 1 ≤ 2 by omega) (show 3 ≤ 14 by omega)
  have Kf1 := Kf.at 1 3
  refine w_putF C1 Kf1 0 [(q, .inr (0, [.ref q1, .null])), (q1, .inl (cI, 3, .inl (fun _ => 0)))] cl_X0 hin rfl rfl (k := 0) (by decide) (by decide) (by decide) rfl rfl (Nat.le_of_ble_eq_true rfl) dX0_init_8 kg_X0_9 ?_
  refine g_aload_n C1 0 dX0_init_11 rfl ?_
  refine g_bipush C1 dX0_init_12 (v := 11) (by decide) ?_
  refine w_newi C1 Kf1 (N := 11) kaI (by decide) (by decide) (by rw [cb_int]; omega) (show 1 + 1 ≤ 2 by omega) (show 3 + 11 ≤ 14 by omega) dX0_init_14 (fun q2 => ?_)
  have C2 := C.at (k := 2) (n := 14) (show 2 ≤ 2 by omega) (show 14 ≤ 14 by omega)
  have Kf2 := Kf.at 2 14
  refine w_putF C2 Kf2 0 [(q, .inr (0, [.ref q1, .ref q2])), (q1, .inl (cI, 3, .inl (fun _ => 0))), (q2, .inl (cI, 11, .inl (fun _ => 0)))] cl_X0 hin rfl rfl (k := 1) (by decide) (by decide) (by decide) rfl rfl (Nat.le_of_ble_eq_true rfl) dX0_init_16 kg_X0_15 ?_
  exact i_ret C2 Kf2 (fun i => if i = 0 then q1 else q2) rfl rfl rfl hQ dX0_init_19
theorem ko_X1 : Cond.methodLink RX1 3 Lib.objectInit ∈ lw_tbl := List.mem_of_getElem? (i := 142) (by decide +kernel)
theorem kg_X1_9 : Cond.fieldLink RX1 9 (TX1 0).1 (TX1 0).2.1 (TX1 0).2.2.1 ∈ lw_tbl := List.mem_of_getElem? (i := 143) (by decide +kernel)
theorem kg_X1_15 : Cond.fieldLink RX1 15 (TX1 1).1 (TX1 1).2.1 (TX1 1).2.2.1 ∈ lw_tbl := List.mem_of_getElem? (i := 146) (by decide +kernel)
theorem kg_X1_18 : Cond.fieldLink RX1 18 (TX1 2).1 (TX1 2).2.1 (TX1 2).2.2.1 ∈ lw_tbl := List.mem_of_getElem? (i := 147) (by decide +kernel)
theorem kg_X1_21 : Cond.fieldLink RX1 21 (TX1 3).1 (TX1 3).2.1 (TX1 3).2.2.1 ∈ lw_tbl := List.mem_of_getElem? (i := 148) (by decide +kernel)
theorem kg_X1_24 : Cond.fieldLink RX1 24 (TX1 4).1 (TX1 4).2.1 (TX1 4).2.2.1 ∈ lw_tbl := List.mem_of_getElem? (i := 151) (by decide +kernel)
theorem kg_X1_27 : Cond.fieldLink RX1 27 (TX1 5).1 (TX1 5).2.1 (TX1 5).2.2.1 ∈ lw_tbl := List.mem_of_getElem? (i := 152) (by decide +kernel)
theorem kg_X1_30 : Cond.fieldLink RX1 30 (TX1 6).1 (TX1 6).2.1 (TX1 6).2.2.1 ∈ lw_tbl := List.mem_of_getElem? (i := 153) (by decide +kernel)
theorem kg_X1_33 : Cond.fieldLink RX1 33 (TX1 7).1 (TX1 7).2.1 (TX1 7).2.2.1 ∈ lw_tbl := List.mem_of_getElem? (i := 155) (by decide +kernel)
theorem kg_X1_37 : Cond.fieldLink RX1 37 (TX1 8).1 (TX1 8).2.1 (TX1 8).2.2.1 ∈ lw_tbl := List.mem_of_getElem? (i := 158) (by decide +kernel)
theorem kg_X1_40 : Cond.fieldLink RX1 40 (TX1 9).1 (TX1 9).2.1 (TX1 9).2.2.1 ∈ lw_tbl := List.mem_of_getElem? (i := 162) (by decide +kernel)
theorem mX1_init (D : va_G) (cI cZ cA : ClassId) (l : Launch) (q : Nat) : iC D cI cZ cA l yX1_init cX1_init 1 { frames := 1, cells := 7, slots := 100, locals := 12 } [.ref q] [(q, .inr (1, [.null, .null, .null, .null, .null, .null, .null, .int 0, .int 0, .int 0]))] (fun r => [(q, .inr (1, [.ref (r 0), .ref (r 1), .ref (r 2), .ref (r 3), .ref (r 4), .ref (r 5), .ref (r 6), .int 0, .int 0, .int 0])), ((r 0), .inl (cI, 6, .inl (fun _ => 0))), ((r 1), .inl (cI, 18, .inl (fun _ => 0))), ((r 2), .inl (cI, 18, .inl (fun _ => 0))), ((r 3), .inl (cI, 6, .inl (fun _ => 0))), ((r 4), .inl (cI, 6, .inl (fun _ => 0))), ((r 5), .inl (cI, 6, .inl (fun _ => 0))), ((r 6), .inl (cI, 40, .inl (fun _ => 0)))]) 7 100 := by
  refine i_entry (own := RX1) rfl rfl (by decide) (Nat.le_of_ble_eq_true rfl) ?_
  intro X hXl hin C Kf hk0 hn0 hQ
  refine g_aload_n C 0 dX1_init_0 rfl ?_
  refine w_obj C dX1_init_1 ko_X1 koL ⟨(Nat.le_of_ble_eq_true rfl), (Nat.le_of_ble_eq_true rfl)⟩ ?_
  refine g_aload_n C 0 dX1_init_4 rfl ?_
  refine g_bipush C dX1_init_5 (v := 6) (by decide) ?_
  refine w_newi C Kf (N := 6) kaI (by decide) (by decide) (by rw [cb_int]; omega) (by rw [hk0]; show 0 + 1 ≤ 7; omega) (by rw [hn0]; show 0 + 6 ≤ 100; omega) dX1_init_7 (fun q1 => ?_)
  rw [hk0, hn0]
  have C1 := C.at (k := 1) (n := 6) (show 1 ≤ 7 by omega) (show 6 ≤ 100 by omega)
  have Kf1 := Kf.at 1 6
  refine w_putF C1 Kf1 0 [(q, .inr (1, [.ref q1, .null, .null, .null, .null, .null, .null, .int 0, .int 0, .int 0])), (q1, .inl (cI, 6, .inl (fun _ => 0)))] cl_X1 hin rfl rfl (k := 0) (by decide) (by decide) (by decide) rfl rfl (Nat.le_of_ble_eq_true rfl) dX1_init_9 kg_X1_9 ?_
  refine g_aload_n C1 0 dX1_init_12 rfl ?_
  refine g_bipush C1 dX1_init_13 (v := 18) (by decide) ?_
  refine w_newi C1 Kf1 (N := 18) kaI (by decide) (by decide) (by rw [cb_int]; omega) (show 1 + 1 ≤ 7 by omega) (show 6 + 18 ≤ 100 by omega) dX1_init_15 (fun q2 => ?_)
  have C2 := C.at (k := 2) (n := 24) (show 2 ≤ 7 by omega) (show 24 ≤ 100 by omega)
  have Kf2 := Kf.at 2 24
  refine w_putF C2 Kf2 0 [(q, .inr (1, [.ref q1, .ref q2, .null, .null, .null, .null, .null, .int 0, .int 0, .int 0])), (q1, .inl (cI, 6, .inl (fun _ => 0))), (q2, .inl (cI, 18, .inl (fun _ => 0)))] cl_X1 hin rfl rfl (k := 1) (by decide) (by decide) (by decide) rfl rfl (Nat.le_of_ble_eq_true rfl) dX1_init_17 kg_X1_15 ?_
  refine g_aload_n C2 0 dX1_init_20 rfl ?_
  refine g_bipush C2 dX1_init_21 (v := 18) (by decide) ?_
  refine w_newi C2 Kf2 (N := 18) kaI (by decide) (by decide) (by rw [cb_int]; omega) (show 2 + 1 ≤ 7 by omega) (show 24 + 18 ≤ 100 by omega) dX1_init_23 (fun q3 => ?_)
  have C3 := C.at (k := 3) (n := 42) (show 3 ≤ 7 by omega) (show 42 ≤ 100 by omega)
  have Kf3 := Kf.at 3 42
  refine w_putF C3 Kf3 0 [(q, .inr (1, [.ref q1, .ref q2, .ref q3, .null, .null, .null, .null, .int 0, .int 0, .int 0])), (q1, .inl (cI, 6, .inl (fun _ => 0))), (q2, .inl (cI, 18, .inl (fun _ => 0))), (q3, .inl (cI, 18, .inl (fun _ => 0)))] cl_X1 hin rfl rfl (k := 2) (by decide) (by decide) (by decide) rfl rfl (Nat.le_of_ble_eq_true rfl) dX1_init_25 kg_X1_18 ?_
  refine g_aload_n C3 0 dX1_init_28 rfl ?_
  refine g_bipush C3 dX1_init_29 (v := 6) (by decide) ?_
  refine w_newi C3 Kf3 (N := 6) kaI (by decide) (by decide) (by rw [cb_int]; omega) (show 3 + 1 ≤ 7 by omega) (show 42 + 6 ≤ 100 by omega) dX1_init_31 (fun q4 => ?_)
  have C4 := C.at (k := 4) (n := 48) (show 4 ≤ 7 by omega) (show 48 ≤ 100 by omega)
  have Kf4 := Kf.at 4 48
  refine w_putF C4 Kf4 0 [(q, .inr (1, [.ref q1, .ref q2, .ref q3, .ref q4, .null, .null, .null, .int 0, .int 0, .int 0])), (q1, .inl (cI, 6, .inl (fun _ => 0))), (q2, .inl (cI, 18, .inl (fun _ => 0))), (q3, .inl (cI, 18, .inl (fun _ => 0))), (q4, .inl (cI, 6, .inl (fun _ => 0)))] cl_X1 hin rfl rfl (k := 3) (by decide) (by decide) (by decide) rfl rfl (Nat.le_of_ble_eq_true rfl) dX1_init_33 kg_X1_21 ?_
  refine g_aload_n C4 0 dX1_init_36 rfl ?_
  refine g_bipush C4 dX1_init_37 (v := 6) (by decide) ?_
  refine w_newi C4 Kf4 (N := 6) kaI (by decide) (by decide) (by rw [cb_int]; omega) (show 4 + 1 ≤ 7 by omega) (show 48 + 6 ≤ 100 by omega) dX1_init_39 (fun q5 => ?_)
  have C5 := C.at (k := 5) (n := 54) (show 5 ≤ 7 by omega) (show 54 ≤ 100 by omega)
  have Kf5 := Kf.at 5 54
  refine w_putF C5 Kf5 0 [(q, .inr (1, [.ref q1, .ref q2, .ref q3, .ref q4, .ref q5, .null, .null, .int 0, .int 0, .int 0])), (q1, .inl (cI, 6, .inl (fun _ => 0))), (q2, .inl (cI, 18, .inl (fun _ => 0))), (q3, .inl (cI, 18, .inl (fun _ => 0))), (q4, .inl (cI, 6, .inl (fun _ => 0))), (q5, .inl (cI, 6, .inl (fun _ => 0)))] cl_X1 hin rfl rfl (k := 4) (by decide) (by decide) (by decide) rfl rfl (Nat.le_of_ble_eq_true rfl) dX1_init_41 kg_X1_24 ?_
  refine g_aload_n C5 0 dX1_init_44 rfl ?_
  refine g_bipush C5 dX1_init_45 (v := 6) (by decide) ?_
  refine w_newi C5 Kf5 (N := 6) kaI (by decide) (by decide) (by rw [cb_int]; omega) (show 5 + 1 ≤ 7 by omega) (show 54 + 6 ≤ 100 by omega) dX1_init_47 (fun q6 => ?_)
  have C6 := C.at (k := 6) (n := 60) (show 6 ≤ 7 by omega) (show 60 ≤ 100 by omega)
  have Kf6 := Kf.at 6 60
  refine w_putF C6 Kf6 0 [(q, .inr (1, [.ref q1, .ref q2, .ref q3, .ref q4, .ref q5, .ref q6, .null, .int 0, .int 0, .int 0])), (q1, .inl (cI, 6, .inl (fun _ => 0))), (q2, .inl (cI, 18, .inl (fun _ => 0))), (q3, .inl (cI, 18, .inl (fun _ => 0))), (q4, .inl (cI, 6, .inl (fun _ => 0))), (q5, .inl (cI, 6, .inl (fun _ => 0))), (q6, .inl (cI, 6, .inl (fun _ => 0)))] cl_X1 hin rfl rfl (k := 5) (by decide) (by decide) (by decide) rfl rfl (Nat.le_of_ble_eq_true rfl) dX1_init_49 kg_X1_27 ?_
  refine g_aload_n C6 0 dX1_init_52 rfl ?_
  refine g_bipush C6 dX1_init_53 (v := 40) (by decide) ?_
  refine w_newi C6 Kf6 (N := 40) kaI (by decide) (by decide) (by rw [cb_int]; omega) (show 6 + 1 ≤ 7 by omega) (show 60 + 40 ≤ 100 by omega) dX1_init_55 (fun q7 => ?_)
  have C7 := C.at (k := 7) (n := 100) (show 7 ≤ 7 by omega) (show 100 ≤ 100 by omega)
  have Kf7 := Kf.at 7 100
  refine w_putF C7 Kf7 0 [(q, .inr (1, [.ref q1, .ref q2, .ref q3, .ref q4, .ref q5, .ref q6, .ref q7, .int 0, .int 0, .int 0])), (q1, .inl (cI, 6, .inl (fun _ => 0))), (q2, .inl (cI, 18, .inl (fun _ => 0))), (q3, .inl (cI, 18, .inl (fun _ => 0))), (q4, .inl (cI, 6, .inl (fun _ => 0))), (q5, .inl (cI, 6, .inl (fun _ => 0))), (q6, .inl (cI, 6, .inl (fun _ => 0))), (q7, .inl (cI, 40, .inl (fun _ => 0)))] cl_X1 hin rfl rfl (k := 6) (by decide) (by decide) (by decide) rfl rfl (Nat.le_of_ble_eq_true rfl) dX1_init_57 kg_X1_30 ?_
  refine g_aload_n C7 0 dX1_init_60 rfl ?_
  refine g_iconst C7 dX1_init_61 (v := 0) (by decide) ?_
  refine w_put C7 Kf7 0 [(q, .inr (1, [.ref q1, .ref q2, .ref q3, .ref q4, .ref q5, .ref q6, .ref q7, .int 0, .int 0, .int 0])), (q1, .inl (cI, 6, .inl (fun _ => 0))), (q2, .inl (cI, 18, .inl (fun _ => 0))), (q3, .inl (cI, 18, .inl (fun _ => 0))), (q4, .inl (cI, 6, .inl (fun _ => 0))), (q5, .inl (cI, 6, .inl (fun _ => 0))), (q6, .inl (cI, 6, .inl (fun _ => 0))), (q7, .inl (cI, 40, .inl (fun _ => 0)))] cl_X1 rfl rfl (k := 7) (by decide) (by decide) rfl rfl (Nat.le_of_ble_eq_true rfl) dX1_init_62 kg_X1_33 ?_
  refine g_aload_n C7 0 dX1_init_65 rfl ?_
  refine g_iconst C7 dX1_init_66 (v := 0) (by decide) ?_
  refine w_put C7 Kf7 0 [(q, .inr (1, [.ref q1, .ref q2, .ref q3, .ref q4, .ref q5, .ref q6, .ref q7, .int 0, .int 0, .int 0])), (q1, .inl (cI, 6, .inl (fun _ => 0))), (q2, .inl (cI, 18, .inl (fun _ => 0))), (q3, .inl (cI, 18, .inl (fun _ => 0))), (q4, .inl (cI, 6, .inl (fun _ => 0))), (q5, .inl (cI, 6, .inl (fun _ => 0))), (q6, .inl (cI, 6, .inl (fun _ => 0))), (q7, .inl (cI, 40, .inl (fun _ => 0)))] cl_X1 rfl rfl (k := 8) (by decide) (by decide) rfl rfl (Nat.le_of_ble_eq_true rfl) dX1_init_67 kg_X1_37 ?_
  refine g_aload_n C7 0 dX1_init_70 rfl ?_
  refine g_iconst C7 dX1_init_71 (v := 0) (by decide) ?_
  refine w_put C7 Kf7 0 [(q, .inr (1, [.ref q1, .ref q2, .ref q3, .ref q4, .ref q5, .ref q6, .ref q7, .int 0, .int 0, .int 0])), (q1, .inl (cI, 6, .inl (fun _ => 0))), (q2, .inl (cI, 18, .inl (fun _ => 0))), (q3, .inl (cI, 18, .inl (fun _ => 0))), (q4, .inl (cI, 6, .inl (fun _ => 0))), (q5, .inl (cI, 6, .inl (fun _ => 0))), (q6, .inl (cI, 6, .inl (fun _ => 0))), (q7, .inl (cI, 40, .inl (fun _ => 0)))] cl_X1 rfl rfl (k := 9) (by decide) (by decide) rfl rfl (Nat.le_of_ble_eq_true rfl) dX1_init_72 kg_X1_40 ?_
  exact i_ret C7 Kf7 (fun i => if i = 0 then q1 else if i = 1 then q2 else if i = 2 then q3 else if i = 3 then q4 else if i = 4 then q5 else if i = 5 then q6 else q7) rfl rfl rfl hQ dX1_init_75
theorem ko_X2 : Cond.methodLink RX2 3 Lib.objectInit ∈ lw_tbl := List.mem_of_getElem? (i := 123) (by decide +kernel)
theorem kg_X2_9 : Cond.fieldLink RX2 9 (TX2 0).1 (TX2 0).2.1 (TX2 0).2.2.1 ∈ lw_tbl := List.mem_of_getElem? (i := 124) (by decide +kernel)
theorem kg_X2_15 : Cond.fieldLink RX2 15 (TX2 1).1 (TX2 1).2.1 (TX2 1).2.2.1 ∈ lw_tbl := List.mem_of_getElem? (i := 126) (by decide +kernel)
theorem kg_X2_18 : Cond.fieldLink RX2 18 (TX2 2).1 (TX2 2).2.1 (TX2 2).2.2.1 ∈ lw_tbl := List.mem_of_getElem? (i := 128) (by decide +kernel)
theorem mX2_init (D : va_G) (cI cZ cA : ClassId) (l : Launch) (q : Nat) : iC D cI cZ cA l yX2_init cX2_init 1 { frames := 1, cells := 2, slots := 24, locals := 12 } [.ref q] [(q, .inr (2, [.null, .null, .int 0]))] (fun r => [(q, .inr (2, [.ref (r 0), .ref (r 1), .int 0])), ((r 0), .inl (cI, 6, .inl (fun _ => 0))), ((r 1), .inl (cI, 18, .inl (fun _ => 0)))]) 2 24 := by
  refine i_entry (own := RX2) rfl rfl (by decide) (Nat.le_of_ble_eq_true rfl) ?_
  intro X hXl hin C Kf hk0 hn0 hQ
  refine g_aload_n C 0 dX2_init_0 rfl ?_
  refine w_obj C dX2_init_1 ko_X2 koL ⟨(Nat.le_of_ble_eq_true rfl), (Nat.le_of_ble_eq_true rfl)⟩ ?_
  refine g_aload_n C 0 dX2_init_4 rfl ?_
  refine g_bipush C dX2_init_5 (v := 6) (by decide) ?_
  refine w_newi C Kf (N := 6) kaI (by decide) (by decide) (by rw [cb_int]; omega) (by rw [hk0]; show 0 + 1 ≤ 2; omega) (by rw [hn0]; show 0 + 6 ≤ 24; omega) dX2_init_7 (fun q1 => ?_)
  rw [hk0, hn0]
  have C1 := C.at (k := 1) (n := 6) (show 1 ≤ 2 by omega) (show 6 ≤ 24 by omega)
  have Kf1 := Kf.at 1 6
  refine w_putF C1 Kf1 0 [(q, .inr (2, [.ref q1, .null, .int 0])), (q1, .inl (cI, 6, .inl (fun _ => 0)))] cl_X2 hin rfl rfl (k := 0) (by decide) (by decide) (by decide) rfl rfl (Nat.le_of_ble_eq_true rfl) dX2_init_9 kg_X2_9 ?_
  refine g_aload_n C1 0 dX2_init_12 rfl ?_
  refine g_bipush C1 dX2_init_13 (v := 18) (by decide) ?_
  refine w_newi C1 Kf1 (N := 18) kaI (by decide) (by decide) (by rw [cb_int]; omega) (show 1 + 1 ≤ 2 by omega) (show 6 + 18 ≤ 24 by omega) dX2_init_15 (fun q2 => ?_)
  have C2 := C.at (k := 2) (n := 24) (show 2 ≤ 2 by omega) (show 24 ≤ 24 by omega)
  have Kf2 := Kf.at 2 24
  refine w_putF C2 Kf2 0 [(q, .inr (2, [.ref q1, .ref q2, .int 0])), (q1, .inl (cI, 6, .inl (fun _ => 0))), (q2, .inl (cI, 18, .inl (fun _ => 0)))] cl_X2 hin rfl rfl (k := 1) (by decide) (by decide) (by decide) rfl rfl (Nat.le_of_ble_eq_true rfl) dX2_init_17 kg_X2_15 ?_
  refine g_aload_n C2 0 dX2_init_20 rfl ?_
  refine g_iconst C2 dX2_init_21 (v := 0) (by decide) ?_
  refine w_put C2 Kf2 0 [(q, .inr (2, [.ref q1, .ref q2, .int 0])), (q1, .inl (cI, 6, .inl (fun _ => 0))), (q2, .inl (cI, 18, .inl (fun _ => 0)))] cl_X2 rfl rfl (k := 2) (by decide) (by decide) rfl rfl (Nat.le_of_ble_eq_true rfl) dX2_init_22 kg_X2_18 ?_
  exact i_ret C2 Kf2 (fun i => if i = 0 then q1 else q2) rfl rfl rfl hQ dX2_init_25
