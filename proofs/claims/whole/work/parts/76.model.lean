/-! the constructor of the reference (by ctor.py) -/
theorem ko_X6 : Cond.methodLink RX6 1 Lib.objectInit ∈ lw_tbl := List.mem_of_getElem? (i := 753) (by decide +kernel)
theorem kg_X6_7 : Cond.fieldLink RX6 7 (TX6 0).1 (TX6 0).2.1 (TX6 0).2.2.1 ∈ lw_tbl := List.mem_of_getElem? (i := 754) (by decide +kernel)
theorem kg_X6_13 : Cond.fieldLink RX6 13 (TX6 1).1 (TX6 1).2.1 (TX6 1).2.2.1 ∈ lw_tbl := List.mem_of_getElem? (i := 755) (by decide +kernel)
theorem kg_X6_16 : Cond.fieldLink RX6 16 (TX6 2).1 (TX6 2).2.1 (TX6 2).2.2.1 ∈ lw_tbl := List.mem_of_getElem? (i := 756) (by decide +kernel)
theorem kg_X6_19 : Cond.fieldLink RX6 19 (TX6 3).1 (TX6 3).2.1 (TX6 3).2.2.1 ∈ lw_tbl := List.mem_of_getElem? (i := 757) (by decide +kernel)
theorem kg_X6_22 : Cond.fieldLink RX6 22 (TX6 5).1 (TX6 5).2.1 (TX6 5).2.2.1 ∈ lw_tbl := List.mem_of_getElem? (i := 759) (by decide +kernel)
theorem kg_X6_25 : Cond.fieldLink RX6 25 (TX6 6).1 (TX6 6).2.1 (TX6 6).2.2.1 ∈ lw_tbl := List.mem_of_getElem? (i := 760) (by decide +kernel)
theorem kg_X6_28 : Cond.fieldLink RX6 28 (TX6 7).1 (TX6 7).2.1 (TX6 7).2.2.1 ∈ lw_tbl := List.mem_of_getElem? (i := 761) (by decide +kernel)
theorem kg_X6_31 : Cond.fieldLink RX6 31 (TX6 8).1 (TX6 8).2.1 (TX6 8).2.2.1 ∈ lw_tbl := List.mem_of_getElem? (i := 762) (by decide +kernel)
theorem kg_X6_34 : Cond.fieldLink RX6 34 (TX6 10).1 (TX6 10).2.1 (TX6 10).2.2.1 ∈ lw_tbl := List.mem_of_getElem? (i := 764) (by decide +kernel)
theorem kg_X6_37 : Cond.fieldLink RX6 37 (TX6 11).1 (TX6 11).2.1 (TX6 11).2.2.1 ∈ lw_tbl := List.mem_of_getElem? (i := 765) (by decide +kernel)
theorem kg_X6_41 : Cond.fieldLink RX6 41 (TX6 14).1 (TX6 14).2.1 (TX6 14).2.2.1 ∈ lw_tbl := List.mem_of_getElem? (i := 768) (by decide +kernel)
theorem kg_X6_45 : Cond.fieldLink RX6 45 (TX6 16).1 (TX6 16).2.1 (TX6 16).2.2.1 ∈ lw_tbl := List.mem_of_getElem? (i := 770) (by decide +kernel)
theorem kg_X6_48 : Cond.fieldLink RX6 48 (TX6 18).1 (TX6 18).2.1 (TX6 18).2.2.1 ∈ lw_tbl := List.mem_of_getElem? (i := 772) (by decide +kernel)
theorem kg_X6_51 : Cond.fieldLink RX6 51 (TX6 19).1 (TX6 19).2.1 (TX6 19).2.2.1 ∈ lw_tbl := List.mem_of_getElem? (i := 773) (by decide +kernel)
theorem kg_X6_54 : Cond.fieldLink RX6 54 (TX6 20).1 (TX6 20).2.1 (TX6 20).2.2.1 ∈ lw_tbl := List.mem_of_getElem? (i := 774) (by decide +kernel)
theorem kg_X6_57 : Cond.fieldLink RX6 57 (TX6 21).1 (TX6 21).2.1 (TX6 21).2.2.1 ∈ lw_tbl := List.mem_of_getElem? (i := 775) (by decide +kernel)
theorem mX6_init (D : va_G) (cI cZ cA : ClassId) (l : Launch) (q : Nat) : iC D cI cZ cA l yX6_init cX6_init 2 { frames := 1, cells := 15, slots := 8759, locals := 12 } [.ref q] [(q, .inr (6, [.null, .null, .null, .null, .int 0, .null, .null, .null, .null, .int 0, .null, .null, .int 0, .long 0, .long 0, .int 0, .null, .int 0, .null, .null, .null, .null]))] (fun r => [(q, .inr (6, [.ref (r 0), .ref (r 1), .ref (r 2), .ref (r 3), .int 0, .ref (r 4), .ref (r 5), .ref (r 6), .ref (r 7), .int 0, .ref (r 8), .ref (r 9), .int 0, .long 0, .long 1, .int 0, .ref (r 10), .int 0, .ref (r 11), .ref (r 12), .ref (r 13), .ref (r 14)])), ((r 0), .inl (cI, 6, .inl (fun j => if j < 6 then -1 else 0))), ((r 1), .inl (cI, 240, .inl (fun _ => 0))), ((r 2), .inl (cI, 4, .inl (fun j => if j < 4 then -1 else 0))), ((r 3), .inl (cI, 240, .inl (fun _ => 0))), ((r 4), .inl (cI, 6, .inl (fun _ => 0))), ((r 5), .inl (cI, 25, .inl (fun _ => 0))), ((r 6), .inl (cI, 25, .inl (fun _ => 0))), ((r 7), .inl (cI, 1000, .inl (fun _ => 0))), ((r 8), .inl (cI, 3078, .inl (fun _ => 0))), ((r 9), .inl (cZ, 3, .inl (fun _ => 0))), ((r 10), .inl (cI, 6, .inl (fun _ => 0))), ((r 11), .inl (cI, 6, .inl (fun _ => 0))), ((r 12), .inl (cI, 18, .inl (fun _ => 0))), ((r 13), .inl (cI, 6, .inl (fun _ => 0))), ((r 14), .inl (cI, 4096, .inl (fun _ => 0)))]) 15 8759 := by
  refine i_entry (own := RX6) rfl rfl (by decide) (Nat.le_of_ble_eq_true rfl) ?_
  intro X hXl hin C Kf hk0 hn0 hQ
  refine g_aload_n C 0 dX6_init_0 rfl ?_
  refine w_obj C dX6_init_1 ko_X6 koL ⟨(Nat.le_of_ble_eq_true rfl), (Nat.le_of_ble_eq_true rfl)⟩ ?_
  refine g_aload_n C 0 dX6_init_4 rfl ?_
  refine g_bipush C dX6_init_5 (v := 6) (by decide) ?_
  refine w_newi C Kf (N := 6) kaI (by decide) (by decide) (by rw [cb_int]; omega) (by rw [hk0]; show 0 + 1 ≤ 15; omega) (by rw [hn0]; show 0 + 6 ≤ 8759; omega) dX6_init_7 (fun q1 => ?_)
  rw [hk0, hn0]
  have C1 := C.at (k := 1) (n := 6) (show 1 ≤ 15 by omega) (show 6 ≤ 8759 by omega)
  have Kf1 := Kf.at 1 6
  refine w_putF C1 Kf1 0 [(q, .inr (6, [.ref q1, .null, .null, .null, .int 0, .null, .null, .null, .null, .int 0, .null, .null, .int 0, .long 0, .long 0, .int 0, .null, .int 0, .null, .null, .null, .null])), (q1, .inl (cI, 6, .inl (fun _ => 0)))] cl_X6 hin rfl rfl (k := 0) (by decide) (by decide) (by decide) rfl rfl (Nat.le_of_ble_eq_true rfl) dX6_init_9 kg_X6_7 ?_
  refine g_aload_n C1 0 dX6_init_12 rfl ?_
  refine g_sipush C1 dX6_init_13 (v := 240) (by decide) ?_
  refine w_newi C1 Kf1 (N := 240) kaI (by decide) (by decide) (by rw [cb_int]; omega) (show 1 + 1 ≤ 15 by omega) (show 6 + 240 ≤ 8759 by omega) dX6_init_16 (fun q2 => ?_)
  have C2 := C.at (k := 2) (n := 246) (show 2 ≤ 15 by omega) (show 246 ≤ 8759 by omega)
  have Kf2 := Kf.at 2 246
  refine w_putF C2 Kf2 0 [(q, .inr (6, [.ref q1, .ref q2, .null, .null, .int 0, .null, .null, .null, .null, .int 0, .null, .null, .int 0, .long 0, .long 0, .int 0, .null, .int 0, .null, .null, .null, .null])), (q1, .inl (cI, 6, .inl (fun _ => 0))), (q2, .inl (cI, 240, .inl (fun _ => 0)))] cl_X6 hin rfl rfl (k := 1) (by decide) (by decide) (by decide) rfl rfl (Nat.le_of_ble_eq_true rfl) dX6_init_18 kg_X6_13 ?_
  refine g_aload_n C2 0 dX6_init_21 rfl ?_
  refine g_iconst C2 dX6_init_22 (v := 4) (by decide) ?_
  refine w_newi C2 Kf2 (N := 4) kaI (by decide) (by decide) (by rw [cb_int]; omega) (show 2 + 1 ≤ 15 by omega) (show 246 + 4 ≤ 8759 by omega) dX6_init_23 (fun q3 => ?_)
  have C3 := C.at (k := 3) (n := 250) (show 3 ≤ 15 by omega) (show 250 ≤ 8759 by omega)
  have Kf3 := Kf.at 3 250
  refine w_putF C3 Kf3 0 [(q, .inr (6, [.ref q1, .ref q2, .ref q3, .null, .int 0, .null, .null, .null, .null, .int 0, .null, .null, .int 0, .long 0, .long 0, .int 0, .null, .int 0, .null, .null, .null, .null])), (q1, .inl (cI, 6, .inl (fun _ => 0))), (q2, .inl (cI, 240, .inl (fun _ => 0))), (q3, .inl (cI, 4, .inl (fun _ => 0)))] cl_X6 hin rfl rfl (k := 2) (by decide) (by decide) (by decide) rfl rfl (Nat.le_of_ble_eq_true rfl) dX6_init_25 kg_X6_16 ?_
  refine g_aload_n C3 0 dX6_init_28 rfl ?_
  refine g_sipush C3 dX6_init_29 (v := 240) (by decide) ?_
  refine w_newi C3 Kf3 (N := 240) kaI (by decide) (by decide) (by rw [cb_int]; omega) (show 3 + 1 ≤ 15 by omega) (show 250 + 240 ≤ 8759 by omega) dX6_init_32 (fun q4 => ?_)
  have C4 := C.at (k := 4) (n := 490) (show 4 ≤ 15 by omega) (show 490 ≤ 8759 by omega)
  have Kf4 := Kf.at 4 490
  refine w_putF C4 Kf4 0 [(q, .inr (6, [.ref q1, .ref q2, .ref q3, .ref q4, .int 0, .null, .null, .null, .null, .int 0, .null, .null, .int 0, .long 0, .long 0, .int 0, .null, .int 0, .null, .null, .null, .null])), (q1, .inl (cI, 6, .inl (fun _ => 0))), (q2, .inl (cI, 240, .inl (fun _ => 0))), (q3, .inl (cI, 4, .inl (fun _ => 0))), (q4, .inl (cI, 240, .inl (fun _ => 0)))] cl_X6 hin rfl rfl (k := 3) (by decide) (by decide) (by decide) rfl rfl (Nat.le_of_ble_eq_true rfl) dX6_init_34 kg_X6_19 ?_
  refine g_aload_n C4 0 dX6_init_37 rfl ?_
  refine g_bipush C4 dX6_init_38 (v := 6) (by decide) ?_
  refine w_newi C4 Kf4 (N := 6) kaI (by decide) (by decide) (by rw [cb_int]; omega) (show 4 + 1 ≤ 15 by omega) (show 490 + 6 ≤ 8759 by omega) dX6_init_40 (fun q5 => ?_)
  have C5 := C.at (k := 5) (n := 496) (show 5 ≤ 15 by omega) (show 496 ≤ 8759 by omega)
  have Kf5 := Kf.at 5 496
  refine w_putF C5 Kf5 0 [(q, .inr (6, [.ref q1, .ref q2, .ref q3, .ref q4, .int 0, .ref q5, .null, .null, .null, .int 0, .null, .null, .int 0, .long 0, .long 0, .int 0, .null, .int 0, .null, .null, .null, .null])), (q1, .inl (cI, 6, .inl (fun _ => 0))), (q2, .inl (cI, 240, .inl (fun _ => 0))), (q3, .inl (cI, 4, .inl (fun _ => 0))), (q4, .inl (cI, 240, .inl (fun _ => 0))), (q5, .inl (cI, 6, .inl (fun _ => 0)))] cl_X6 hin rfl rfl (k := 5) (by decide) (by decide) (by decide) rfl rfl (Nat.le_of_ble_eq_true rfl) dX6_init_42 kg_X6_22 ?_
  refine g_aload_n C5 0 dX6_init_45 rfl ?_
  refine g_bipush C5 dX6_init_46 (v := 25) (by decide) ?_
  refine w_newi C5 Kf5 (N := 25) kaI (by decide) (by decide) (by rw [cb_int]; omega) (show 5 + 1 ≤ 15 by omega) (show 496 + 25 ≤ 8759 by omega) dX6_init_48 (fun q6 => ?_)
  have C6 := C.at (k := 6) (n := 521) (show 6 ≤ 15 by omega) (show 521 ≤ 8759 by omega)
  have Kf6 := Kf.at 6 521
  refine w_putF C6 Kf6 0 [(q, .inr (6, [.ref q1, .ref q2, .ref q3, .ref q4, .int 0, .ref q5, .ref q6, .null, .null, .int 0, .null, .null, .int 0, .long 0, .long 0, .int 0, .null, .int 0, .null, .null, .null, .null])), (q1, .inl (cI, 6, .inl (fun _ => 0))), (q2, .inl (cI, 240, .inl (fun _ => 0))), (q3, .inl (cI, 4, .inl (fun _ => 0))), (q4, .inl (cI, 240, .inl (fun _ => 0))), (q5, .inl (cI, 6, .inl (fun _ => 0))), (q6, .inl (cI, 25, .inl (fun _ => 0)))] cl_X6 hin rfl rfl (k := 6) (by decide) (by decide) (by decide) rfl rfl (Nat.le_of_ble_eq_true rfl) dX6_init_50 kg_X6_25 ?_
  refine g_aload_n C6 0 dX6_init_53 rfl ?_
  refine g_bipush C6 dX6_init_54 (v := 25) (by decide) ?_
  refine w_newi C6 Kf6 (N := 25) kaI (by decide) (by decide) (by rw [cb_int]; omega) (show 6 + 1 ≤ 15 by omega) (show 521 + 25 ≤ 8759 by omega) dX6_init_56 (fun q7 => ?_)
  have C7 := C.at (k := 7) (n := 546) (show 7 ≤ 15 by omega) (show 546 ≤ 8759 by omega)
  have Kf7 := Kf.at 7 546
  refine w_putF C7 Kf7 0 [(q, .inr (6, [.ref q1, .ref q2, .ref q3, .ref q4, .int 0, .ref q5, .ref q6, .ref q7, .null, .int 0, .null, .null, .int 0, .long 0, .long 0, .int 0, .null, .int 0, .null, .null, .null, .null])), (q1, .inl (cI, 6, .inl (fun _ => 0))), (q2, .inl (cI, 240, .inl (fun _ => 0))), (q3, .inl (cI, 4, .inl (fun _ => 0))), (q4, .inl (cI, 240, .inl (fun _ => 0))), (q5, .inl (cI, 6, .inl (fun _ => 0))), (q6, .inl (cI, 25, .inl (fun _ => 0))), (q7, .inl (cI, 25, .inl (fun _ => 0)))] cl_X6 hin rfl rfl (k := 7) (by decide) (by decide) (by decide) rfl rfl (Nat.le_of_ble_eq_true rfl) dX6_init_58 kg_X6_28 ?_
  refine g_aload_n C7 0 dX6_init_61 rfl ?_
  refine g_sipush C7 dX6_init_62 (v := 1000) (by decide) ?_
  refine w_newi C7 Kf7 (N := 1000) kaI (by decide) (by decide) (by rw [cb_int]; omega) (show 7 + 1 ≤ 15 by omega) (show 546 + 1000 ≤ 8759 by omega) dX6_init_65 (fun q8 => ?_)
  have C8 := C.at (k := 8) (n := 1546) (show 8 ≤ 15 by omega) (show 1546 ≤ 8759 by omega)
  have Kf8 := Kf.at 8 1546
  refine w_putF C8 Kf8 0 [(q, .inr (6, [.ref q1, .ref q2, .ref q3, .ref q4, .int 0, .ref q5, .ref q6, .ref q7, .ref q8, .int 0, .null, .null, .int 0, .long 0, .long 0, .int 0, .null, .int 0, .null, .null, .null, .null])), (q1, .inl (cI, 6, .inl (fun _ => 0))), (q2, .inl (cI, 240, .inl (fun _ => 0))), (q3, .inl (cI, 4, .inl (fun _ => 0))), (q4, .inl (cI, 240, .inl (fun _ => 0))), (q5, .inl (cI, 6, .inl (fun _ => 0))), (q6, .inl (cI, 25, .inl (fun _ => 0))), (q7, .inl (cI, 25, .inl (fun _ => 0))), (q8, .inl (cI, 1000, .inl (fun _ => 0)))] cl_X6 hin rfl rfl (k := 8) (by decide) (by decide) (by decide) rfl rfl (Nat.le_of_ble_eq_true rfl) dX6_init_67 kg_X6_31 ?_
  refine g_aload_n C8 0 dX6_init_70 rfl ?_
  refine g_sipush C8 dX6_init_71 (v := 3078) (by decide) ?_
  refine w_newi C8 Kf8 (N := 3078) kaI (by decide) (by decide) (by rw [cb_int]; omega) (show 8 + 1 ≤ 15 by omega) (show 1546 + 3078 ≤ 8759 by omega) dX6_init_74 (fun q9 => ?_)
  have C9 := C.at (k := 9) (n := 4624) (show 9 ≤ 15 by omega) (show 4624 ≤ 8759 by omega)
  have Kf9 := Kf.at 9 4624
  refine w_putF C9 Kf9 0 [(q, .inr (6, [.ref q1, .ref q2, .ref q3, .ref q4, .int 0, .ref q5, .ref q6, .ref q7, .ref q8, .int 0, .ref q9, .null, .int 0, .long 0, .long 0, .int 0, .null, .int 0, .null, .null, .null, .null])), (q1, .inl (cI, 6, .inl (fun _ => 0))), (q2, .inl (cI, 240, .inl (fun _ => 0))), (q3, .inl (cI, 4, .inl (fun _ => 0))), (q4, .inl (cI, 240, .inl (fun _ => 0))), (q5, .inl (cI, 6, .inl (fun _ => 0))), (q6, .inl (cI, 25, .inl (fun _ => 0))), (q7, .inl (cI, 25, .inl (fun _ => 0))), (q8, .inl (cI, 1000, .inl (fun _ => 0))), (q9, .inl (cI, 3078, .inl (fun _ => 0)))] cl_X6 hin rfl rfl (k := 10) (by decide) (by decide) (by decide) rfl rfl (Nat.le_of_ble_eq_true rfl) dX6_init_76 kg_X6_34 ?_
  refine g_aload_n C9 0 dX6_init_79 rfl ?_
  refine g_iconst C9 dX6_init_80 (v := 3) (by decide) ?_
  refine w_newz C9 Kf9 (N := 3) kaZ (by decide) (by decide) (by rw [cb_bool]; omega) (show 9 + 1 ≤ 15 by omega) (show 4624 + 3 ≤ 8759 by omega) dX6_init_81 (fun q10 => ?_)
  have C10 := C.at (k := 10) (n := 4627) (show 10 ≤ 15 by omega) (show 4627 ≤ 8759 by omega)
  have Kf10 := Kf.at 10 4627
  refine w_putF C10 Kf10 0 [(q, .inr (6, [.ref q1, .ref q2, .ref q3, .ref q4, .int 0, .ref q5, .ref q6, .ref q7, .ref q8, .int 0, .ref q9, .ref q10, .int 0, .long 0, .long 0, .int 0, .null, .int 0, .null, .null, .null, .null])), (q1, .inl (cI, 6, .inl (fun _ => 0))), (q2, .inl (cI, 240, .inl (fun _ => 0))), (q3, .inl (cI, 4, .inl (fun _ => 0))), (q4, .inl (cI, 240, .inl (fun _ => 0))), (q5, .inl (cI, 6, .inl (fun _ => 0))), (q6, .inl (cI, 25, .inl (fun _ => 0))), (q7, .inl (cI, 25, .inl (fun _ => 0))), (q8, .inl (cI, 1000, .inl (fun _ => 0))), (q9, .inl (cI, 3078, .inl (fun _ => 0))), (q10, .inl (cZ, 3, .inl (fun _ => 0)))] cl_X6 hin rfl rfl (k := 11) (by decide) (by decide) (by decide) rfl rfl (Nat.le_of_ble_eq_true rfl) dX6_init_83 kg_X6_37 ?_
  refine g_aload_n C10 0 dX6_init_86 rfl ?_
  refine g_lconst C10 dX6_init_87 (v := 1) (by decide) ?_
  refine w_put C10 Kf10 0 [(q, .inr (6, [.ref q1, .ref q2, .ref q3, .ref q4, .int 0, .ref q5, .ref q6, .ref q7, .ref q8, .int 0, .ref q9, .ref q10, .int 0, .long 0, .long 1, .int 0, .null, .int 0, .null, .null, .null, .null])), (q1, .inl (cI, 6, .inl (fun _ => 0))), (q2, .inl (cI, 240, .inl (fun _ => 0))), (q3, .inl (cI, 4, .inl (fun _ => 0))), (q4, .inl (cI, 240, .inl (fun _ => 0))), (q5, .inl (cI, 6, .inl (fun _ => 0))), (q6, .inl (cI, 25, .inl (fun _ => 0))), (q7, .inl (cI, 25, .inl (fun _ => 0))), (q8, .inl (cI, 1000, .inl (fun _ => 0))), (q9, .inl (cI, 3078, .inl (fun _ => 0))), (q10, .inl (cZ, 3, .inl (fun _ => 0)))] cl_X6 rfl rfl (k := 14) (by decide) (by decide) rfl rfl (Nat.le_of_ble_eq_true rfl) dX6_init_88 kg_X6_41 ?_
  refine g_aload_n C10 0 dX6_init_91 rfl ?_
  refine g_bipush C10 dX6_init_92 (v := 6) (by decide) ?_
  refine w_newi C10 Kf10 (N := 6) kaI (by decide) (by decide) (by rw [cb_int]; omega) (show 10 + 1 ≤ 15 by omega) (show 4627 + 6 ≤ 8759 by omega) dX6_init_94 (fun q11 => ?_)
  have C11 := C.at (k := 11) (n := 4633) (show 11 ≤ 15 by omega) (show 4633 ≤ 8759 by omega)
  have Kf11 := Kf.at 11 4633
  refine w_putF C11 Kf11 0 [(q, .inr (6, [.ref q1, .ref q2, .ref q3, .ref q4, .int 0, .ref q5, .ref q6, .ref q7, .ref q8, .int 0, .ref q9, .ref q10, .int 0, .long 0, .long 1, .int 0, .ref q11, .int 0, .null, .null, .null, .null])), (q1, .inl (cI, 6, .inl (fun _ => 0))), (q2, .inl (cI, 240, .inl (fun _ => 0))), (q3, .inl (cI, 4, .inl (fun _ => 0))), (q4, .inl (cI, 240, .inl (fun _ => 0))), (q5, .inl (cI, 6, .inl (fun _ => 0))), (q6, .inl (cI, 25, .inl (fun _ => 0))), (q7, .inl (cI, 25, .inl (fun _ => 0))), (q8, .inl (cI, 1000, .inl (fun _ => 0))), (q9, .inl (cI, 3078, .inl (fun _ => 0))), (q10, .inl (cZ, 3, .inl (fun _ => 0))), (q11, .inl (cI, 6, .inl (fun _ => 0)))] cl_X6 hin rfl rfl (k := 16) (by decide) (by decide) (by decide) rfl rfl (Nat.le_of_ble_eq_true rfl) dX6_init_96 kg_X6_45 ?_
  refine g_aload_n C11 0 dX6_init_99 rfl ?_
  refine g_bipush C11 dX6_init_100 (v := 6) (by decide) ?_
  refine w_newi C11 Kf11 (N := 6) kaI (by decide) (by decide) (by rw [cb_int]; omega) (show 11 + 1 ≤ 15 by omega) (show 4633 + 6 ≤ 8759 by omega) dX6_init_102 (fun q12 => ?_)
  have C12 := C.at (k := 12) (n := 4639) (show 12 ≤ 15 by omega) (show 4639 ≤ 8759 by omega)
  have Kf12 := Kf.at 12 4639
  refine w_putF C12 Kf12 0 [(q, .inr (6, [.ref q1, .ref q2, .ref q3, .ref q4, .int 0, .ref q5, .ref q6, .ref q7, .ref q8, .int 0, .ref q9, .ref q10, .int 0, .long 0, .long 1, .int 0, .ref q11, .int 0, .ref q12, .null, .null, .null])), (q1, .inl (cI, 6, .inl (fun _ => 0))), (q2, .inl (cI, 240, .inl (fun _ => 0))), (q3, .inl (cI, 4, .inl (fun _ => 0))), (q4, .inl (cI, 240, .inl (fun _ => 0))), (q5, .inl (cI, 6, .inl (fun _ => 0))), (q6, .inl (cI, 25, .inl (fun _ => 0))), (q7, .inl (cI, 25, .inl (fun _ => 0))), (q8, .inl (cI, 1000, .inl (fun _ => 0))), (q9, .inl (cI, 3078, .inl (fun _ => 0))), (q10, .inl (cZ, 3, .inl (fun _ => 0))), (q11, .inl (cI, 6, .inl (fun _ => 0))), (q12, .inl (cI, 6, .inl (fun _ => 0)))] cl_X6 hin rfl rfl (k := 18) (by decide) (by decide) (by decide) rfl rfl (Nat.le_of_ble_eq_true rfl) dX6_init_104 kg_X6_48 ?_
  refine g_aload_n C12 0 dX6_init_107 rfl ?_
  refine g_bipush C12 dX6_init_108 (v := 18) (by decide) ?_
  refine w_newi C12 Kf12 (N := 18) kaI (by decide) (by decide) (by rw [cb_int]; omega) (show 12 + 1 ≤ 15 by omega) (show 4639 + 18 ≤ 8759 by omega) dX6_init_110 (fun q13 => ?_)
  have C13 := C.at (k := 13) (n := 4657) (show 13 ≤ 15 by omega) (show 4657 ≤ 8759 by omega)
  have Kf13 := Kf.at 13 4657
  refine w_putF C13 Kf13 0 [(q, .inr (6, [.ref q1, .ref q2, .ref q3, .ref q4, .int 0, .ref q5, .ref q6, .ref q7, .ref q8, .int 0, .ref q9, .ref q10, .int 0, .long 0, .long 1, .int 0, .ref q11, .int 0, .ref q12, .ref q13, .null, .null])), (q1, .inl (cI, 6, .inl (fun _ => 0))), (q2, .inl (cI, 240, .inl (fun _ => 0))), (q3, .inl (cI, 4, .inl (fun _ => 0))), (q4, .inl (cI, 240, .inl (fun _ => 0))), (q5, .inl (cI, 6, .inl (fun _ => 0))), (q6, .inl (cI, 25, .inl (fun _ => 0))), (q7, .inl (cI, 25, .inl (fun _ => 0))), (q8, .inl (cI, 1000, .inl (fun _ => 0))), (q9, .inl (cI, 3078, .inl (fun _ => 0))), (q10, .inl (cZ, 3, .inl (fun _ => 0))), (q11, .inl (cI, 6, .inl (fun _ => 0))), (q12, .inl (cI, 6, .inl (fun _ => 0))), (q13, .inl (cI, 18, .inl (fun _ => 0)))] cl_X6 hin rfl rfl (k := 19) (by decide) (by decide) (by decide) rfl rfl (Nat.le_of_ble_eq_true rfl) dX6_init_112 kg_X6_51 ?_
  refine g_aload_n C13 0 dX6_init_115 rfl ?_
  refine g_bipush C13 dX6_init_116 (v := 6) (by decide) ?_
  refine w_newi C13 Kf13 (N := 6) kaI (by decide) (by decide) (by rw [cb_int]; omega) (show 13 + 1 ≤ 15 by omega) (show 4657 + 6 ≤ 8759 by omega) dX6_init_118 (fun q14 => ?_)
  have C14 := C.at (k := 14) (n := 4663) (show 14 ≤ 15 by omega) (show 4663 ≤ 8759 by omega)
  have Kf14 := Kf.at 14 4663
  refine w_putF C14 Kf14 0 [(q, .inr (6, [.ref q1, .ref q2, .ref q3, .ref q4, .int 0, .ref q5, .ref q6, .ref q7, .ref q8, .int 0, .ref q9, .ref q10, .int 0, .long 0, .long 1, .int 0, .ref q11, .int 0, .ref q12, .ref q13, .ref q14, .null])), (q1, .inl (cI, 6, .inl (fun _ => 0))), (q2, .inl (cI, 240, .inl (fun _ => 0))), (q3, .inl (cI, 4, .inl (fun _ => 0))), (q4, .inl (cI, 240, .inl (fun _ => 0))), (q5, .inl (cI, 6, .inl (fun _ => 0))), (q6, .inl (cI, 25, .inl (fun _ => 0))), (q7, .inl (cI, 25, .inl (fun _ => 0))), (q8, .inl (cI, 1000, .inl (fun _ => 0))), (q9, .inl (cI, 3078, .inl (fun _ => 0))), (q10, .inl (cZ, 3, .inl (fun _ => 0))), (q11, .inl (cI, 6, .inl (fun _ => 0))), (q12, .inl (cI, 6, .inl (fun _ => 0))), (q13, .inl (cI, 18, .inl (fun _ => 0))), (q14, .inl (cI, 6, .inl (fun _ => 0)))] cl_X6 hin rfl rfl (k := 20) (by decide) (by decide) (by decide) rfl rfl (Nat.le_of_ble_eq_true rfl) dX6_init_120 kg_X6_54 ?_
  refine g_aload_n C14 0 dX6_init_123 rfl ?_
  refine g_sipush C14 dX6_init_124 (v := 4096) (by decide) ?_
  refine w_newi C14 Kf14 (N := 4096) kaI (by decide) (by decide) (by rw [cb_int]; omega) (show 14 + 1 ≤ 15 by omega) (show 4663 + 4096 ≤ 8759 by omega) dX6_init_127 (fun q15 => ?_)
  have C15 := C.at (k := 15) (n := 8759) (show 15 ≤ 15 by omega) (show 8759 ≤ 8759 by omega)
  have Kf15 := Kf.at 15 8759
  refine w_putF C15 Kf15 0 [(q, .inr (6, [.ref q1, .ref q2, .ref q3, .ref q4, .int 0, .ref q5, .ref q6, .ref q7, .ref q8, .int 0, .ref q9, .ref q10, .int 0, .long 0, .long 1, .int 0, .ref q11, .int 0, .ref q12, .ref q13, .ref q14, .ref q15])), (q1, .inl (cI, 6, .inl (fun _ => 0))), (q2, .inl (cI, 240, .inl (fun _ => 0))), (q3, .inl (cI, 4, .inl (fun _ => 0))), (q4, .inl (cI, 240, .inl (fun _ => 0))), (q5, .inl (cI, 6, .inl (fun _ => 0))), (q6, .inl (cI, 25, .inl (fun _ => 0))), (q7, .inl (cI, 25, .inl (fun _ => 0))), (q8, .inl (cI, 1000, .inl (fun _ => 0))), (q9, .inl (cI, 3078, .inl (fun _ => 0))), (q10, .inl (cZ, 3, .inl (fun _ => 0))), (q11, .inl (cI, 6, .inl (fun _ => 0))), (q12, .inl (cI, 6, .inl (fun _ => 0))), (q13, .inl (cI, 18, .inl (fun _ => 0))), (q14, .inl (cI, 6, .inl (fun _ => 0))), (q15, .inl (cI, 4096, .inl (fun _ => 0)))] cl_X6 hin rfl rfl (k := 21) (by decide) (by decide) (by decide) rfl rfl (Nat.le_of_ble_eq_true rfl) dX6_init_129 kg_X6_57 ?_
  -- second loop
  have lp2 : ∀ (m i : Nat), i + m = 4 → gG (Xc X 15 8759) [(q, .inr (6, [.ref q1, .ref q2, .ref q3, .ref q4, .int 0, .ref q5, .ref q6, .ref q7, .ref q8, .int 0, .ref q9, .ref q10, .int 0, .long 0, .long 1, .int 0, .ref q11, .int 0, .ref q12, .ref q13, .ref q14, .ref q15])), (q1, .inl (cI, 6, .inl (fun j => if j < 6 then -1 else 0))), (q2, .inl (cI, 240, .inl (fun _ => 0))), (q3, .inl (cI, 4, .inl (fun j => if j < i then -1 else 0))), (q4, .inl (cI, 240, .inl (fun _ => 0))), (q5, .inl (cI, 6, .inl (fun _ => 0))), (q6, .inl (cI, 25, .inl (fun _ => 0))), (q7, .inl (cI, 25, .inl (fun _ => 0))), (q8, .inl (cI, 1000, .inl (fun _ => 0))), (q9, .inl (cI, 3078, .inl (fun _ => 0))), (q10, .inl (cZ, 3, .inl (fun _ => 0))), (q11, .inl (cI, 6, .inl (fun _ => 0))), (q12, .inl (cI, 6, .inl (fun _ => 0))), (q13, .inl (cI, 18, .inl (fun _ => 0))), (q14, .inl (cI, 6, .inl (fun _ => 0))), (q15, .inl (cI, 4096, .inl (fun _ => 0)))] 155 [(1, .int (nI i)), (0, .ref q)] [] := by
    intro m
    induction m with
    | zero =>
      intro i hi
      rw [Nat.add_zero] at hi
      subst hi
      refine g_iload_n C15 0 dX6_init_155 rfl ?_
      refine g_iconst C15 dX6_init_156 (v := 4) (by decide) ?_
      refine g_icmp_ge C15 (α := Unit) (o := ()) (Y := some ()) (N := none) 173 dX6_init_157 (by decide) (if_pos (show (4 : Int32) ≤ nI 4 by decide)) (fun _ => ?_) (fun h => by cases h)
      exact i_ret C15 Kf15 (fun i => if i = 0 then q1 else if i = 1 then q2 else if i = 2 then q3 else if i = 3 then q4 else if i = 4 then q5 else if i = 5 then q6 else if i = 6 then q7 else if i = 7 then q8 else if i = 8 then q9 else if i = 9 then q10 else if i = 10 then q11 else if i = 11 then q12 else if i = 12 then q13 else if i = 13 then q14 else q15) rfl rfl rfl hQ dX6_init_173
    | succ m ih =>
      intro i hi
      refine g_iload_n C15 0 dX6_init_155 rfl ?_
      refine g_iconst C15 dX6_init_156 (v := 4) (by decide) ?_
      refine g_icmp_ge C15 (α := Unit) (o := ()) (Y := none) (N := some ()) 173 dX6_init_157 (by decide) (if_neg (show ¬ (4 : Int32) ≤ nI i from nI_ge (b := 4) (by omega) (by omega))) (fun h => by cases h) (fun _ => ?_)
      refine g_aload_n C15 1 dX6_init_160 rfl ?_
      refine w_get C15 Kf15 0 cl_X6 rfl (k := 2) (by decide) rfl dX6_init_161 kg_X6_16 ?_
      refine g_iload_n C15 0 dX6_init_164 rfl ?_
      refine g_iconst C15 dX6_init_165 (v := -1) (by decide) ?_
      refine w_iast C15 Kf15 3 [(q, .inr (6, [.ref q1, .ref q2, .ref q3, .ref q4, .int 0, .ref q5, .ref q6, .ref q7, .ref q8, .int 0, .ref q9, .ref q10, .int 0, .long 0, .long 1, .int 0, .ref q11, .int 0, .ref q12, .ref q13, .ref q14, .ref q15])), (q1, .inl (cI, 6, .inl (fun j => if j < 6 then -1 else 0))), (q2, .inl (cI, 240, .inl (fun _ => 0))), (q3, .inl (cI, 4, .inl (fun j => if j < i + 1 then -1 else 0))), (q4, .inl (cI, 240, .inl (fun _ => 0))), (q5, .inl (cI, 6, .inl (fun _ => 0))), (q6, .inl (cI, 25, .inl (fun _ => 0))), (q7, .inl (cI, 25, .inl (fun _ => 0))), (q8, .inl (cI, 1000, .inl (fun _ => 0))), (q9, .inl (cI, 3078, .inl (fun _ => 0))), (q10, .inl (cZ, 3, .inl (fun _ => 0))), (q11, .inl (cI, 6, .inl (fun _ => 0))), (q12, .inl (cI, 6, .inl (fun _ => 0))), (q13, .inl (cI, 18, .inl (fun _ => 0))), (q14, .inl (cI, 6, .inl (fun _ => 0))), (q15, .inl (cI, 4096, .inl (fun _ => 0)))] rfl (by rw [nI_clamp (by omega), upd_m1]; rfl) (vp_in_nI (by omega) (by omega)) dX6_init_166 ?_
      refine g_iinc C15 (α := Unit) (o := ()) (F := fun z => if z = nI i + 1 then some () else none) (d := 1) 0 (fun z => [(1, .int z), (0, .ref q)]) dX6_init_167 rfl (by decide) (Nat.le_of_ble_eq_true rfl) (fun _ => rfl) (if_pos rfl) (fun z hz => ?_)
      by_cases e : z = nI i + 1
      · subst e
        refine g_goto C15 155 dX6_init_170 (by decide) ?_
        rw [nI_1]
        exact ih (i + 1) (by omega)
      · rw [if_neg e] at hz
        cases hz
  have lp1 : ∀ (m i : Nat), i + m = 6 → gG (Xc X 15 8759) [(q, .inr (6, [.ref q1, .ref q2, .ref q3, .ref q4, .int 0, .ref q5, .ref q6, .ref q7, .ref q8, .int 0, .ref q9, .ref q10, .int 0, .long 0, .long 1, .int 0, .ref q11, .int 0, .ref q12, .ref q13, .ref q14, .ref q15])), (q1, .inl (cI, 6, .inl (fun j => if j < i then -1 else 0))), (q2, .inl (cI, 240, .inl (fun _ => 0))), (q3, .inl (cI, 4, .inl (fun _ => 0))), (q4, .inl (cI, 240, .inl (fun _ => 0))), (q5, .inl (cI, 6, .inl (fun _ => 0))), (q6, .inl (cI, 25, .inl (fun _ => 0))), (q7, .inl (cI, 25, .inl (fun _ => 0))), (q8, .inl (cI, 1000, .inl (fun _ => 0))), (q9, .inl (cI, 3078, .inl (fun _ => 0))), (q10, .inl (cZ, 3, .inl (fun _ => 0))), (q11, .inl (cI, 6, .inl (fun _ => 0))), (q12, .inl (cI, 6, .inl (fun _ => 0))), (q13, .inl (cI, 18, .inl (fun _ => 0))), (q14, .inl (cI, 6, .inl (fun _ => 0))), (q15, .inl (cI, 4096, .inl (fun _ => 0)))] 134 [(1, .int (nI i)), (0, .ref q)] [] := by
    intro m
    induction m with
    | zero =>
      intro i hi
      rw [Nat.add_zero] at hi
      subst hi
      refine g_iload_n C15 0 dX6_init_134 rfl ?_
      refine g_bipush C15 dX6_init_135 (v := 6) (by decide) ?_
      refine g_icmp_ge C15 (α := Unit) (o := ()) (Y := some ()) (N := none) 153 dX6_init_137 (by decide) (if_pos (show (6 : Int32) ≤ nI 6 by decide)) (fun _ => ?_) (fun h => by cases h)
      refine g_iconst C15 dX6_init_153 (v := 0) (by decide) ?_
      refine g_istore_n C15 [(1, .int 0), (0, .ref q)] dX6_init_154 rfl (Nat.le_of_ble_eq_true rfl) rfl ?_
      exact lp2 4 0 (by omega)
    | succ m ih =>
      intro i hi
      refine g_iload_n C15 0 dX6_init_134 rfl ?_
      refine g_bipush C15 dX6_init_135 (v := 6) (by decide) ?_
      refine g_icmp_ge C15 (α := Unit) (o := ()) (Y := none) (N := some ()) 153 dX6_init_137 (by decide) (if_neg (show ¬ (6 : Int32) ≤ nI i from nI_ge (b := 6) (by omega) (by omega))) (fun h => by cases h) (fun _ => ?_)
      refine g_aload_n C15 1 dX6_init_140 rfl ?_
      refine w_get C15 Kf15 0 cl_X6 rfl (k := 0) (by decide) rfl dX6_init_141 kg_X6_7 ?_
      refine g_iload_n C15 0 dX6_init_144 rfl ?_
      refine g_iconst C15 dX6_init_145 (v := -1) (by decide) ?_
      refine w_iast C15 Kf15 1 [(q, .inr (6, [.ref q1, .ref q2, .ref q3, .ref q4, .int 0, .ref q5, .ref q6, .ref q7, .ref q8, .int 0, .ref q9, .ref q10, .int 0, .long 0, .long 1, .int 0, .ref q11, .int 0, .ref q12, .ref q13, .ref q14, .ref q15])), (q1, .inl (cI, 6, .inl (fun j => if j < i + 1 then -1 else 0))), (q2, .inl (cI, 240, .inl (fun _ => 0))), (q3, .inl (cI, 4, .inl (fun _ => 0))), (q4, .inl (cI, 240, .inl (fun _ => 0))), (q5, .inl (cI, 6, .inl (fun _ => 0))), (q6, .inl (cI, 25, .inl (fun _ => 0))), (q7, .inl (cI, 25, .inl (fun _ => 0))), (q8, .inl (cI, 1000, .inl (fun _ => 0))), (q9, .inl (cI, 3078, .inl (fun _ => 0))), (q10, .inl (cZ, 3, .inl (fun _ => 0))), (q11, .inl (cI, 6, .inl (fun _ => 0))), (q12, .inl (cI, 6, .inl (fun _ => 0))), (q13, .inl (cI, 18, .inl (fun _ => 0))), (q14, .inl (cI, 6, .inl (fun _ => 0))), (q15, .inl (cI, 4096, .inl (fun _ => 0)))] rfl (by rw [nI_clamp (by omega), upd_m1]; rfl) (vp_in_nI (by omega) (by omega)) dX6_init_146 ?_
      refine g_iinc C15 (α := Unit) (o := ()) (F := fun z => if z = nI i + 1 then some () else none) (d := 1) 0 (fun z => [(1, .int z), (0, .ref q)]) dX6_init_147 rfl (by decide) (Nat.le_of_ble_eq_true rfl) (fun _ => rfl) (if_pos rfl) (fun z hz => ?_)
      by_cases e : z = nI i + 1
      · subst e
        refine g_goto C15 134 dX6_init_150 (by decide) ?_
        rw [nI_1]
        exact ih (i + 1) (by omega)
      · rw [if_neg e] at hz
        cases hz
  refine g_iconst C15 dX6_init_132 (v := 0) (by decide) ?_
  refine g_istore_n C15 [(1, .int 0), (0, .ref q)] dX6_init_133 rfl (Nat.le_of_ble_eq_true rfl) rfl ?_
  exact lp1 6 0 (by omega)
