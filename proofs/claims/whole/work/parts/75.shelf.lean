/-! Shelf(rows, width) -/
theorem ko_X3 : Cond.methodLink RX3 1 Lib.objectInit ∈ lw_tbl := List.mem_of_getElem? (i := 106) (by decide +kernel)
theorem kg_X3_7 : Cond.fieldLink RX3 7 (TX3 2).1 (TX3 2).2.1 (TX3 2).2.2.1 ∈ lw_tbl := by decide +kernel
theorem kg_X3_13 : Cond.fieldLink RX3 13 (TX3 0).1 (TX3 0).2.1 (TX3 0).2.2.1 ∈ lw_tbl := by decide +kernel
theorem upd_m1 (i : Nat) : upd (fun j => if j < i then (-1 : Int32) else 0) i (-1) = fun j => if j < i + 1 then (-1 : Int32) else 0 := by
  funext j
  rw [upd_a]
  by_cases e : j = i
  · rw [if_pos e, if_pos (by omega)]
  · rw [if_neg e]
    show (if j < i then (-1 : Int32) else 0) = if j < i + 1 then (-1 : Int32) else 0
    by_cases h : j < i
    · rw [if_pos h, if_pos (by omega)]
    · rw [if_neg h, if_neg (by omega)]
theorem mX3_init (D : va_G) (cI cZ cA : ClassId) (l : Launch) (q : Nat) {N w : Nat} (hN : N ≤ 6) (hw : w ≤ 60) : iC D cI cZ cA l yX3_init cX3_init 4 { frames := 1, cells := 2, slots := N * w + N, locals := 12 } [.ref q, .int (nI N), .int (nI w)] [(q, .inr (3, [.null, .null, .int 0]))] (fun r => [(q, .inr (3, [.ref (r 0), .ref (r 1), .int (nI w)])), (r 0, .inl (cI, N * w, .inl (fun _ => 0))), (r 1, .inl (cI, N, .inl (fun j => if j < N then -1 else 0)))]) 2 (N * w + N) := by
  have hNw : N * w ≤ 360 := Nat.le_trans (Nat.mul_le_mul hN hw) (by omega)
  refine i_entry (own := RX3) rfl rfl (by decide) (Nat.le_of_ble_eq_true rfl) ?_
  intro X hXl hin C Kf hk0 hn0 hQ
  refine g_aload_n C 0 dX3_init_0 rfl ?_
  refine w_obj C dX3_init_1 ko_X3 koL ⟨Nat.le_of_ble_eq_true rfl, Nat.le_of_ble_eq_true rfl⟩ ?_
  refine g_aload_n C 0 dX3_init_4 rfl ?_
  refine g_iload_n C 2 dX3_init_5 rfl ?_
  refine w_putF C Kf 0 [(q, .inr (3, [.null, .null, .int (nI w)]))] cl_X3 hin rfl rfl (k := 2) (by decide) (by decide) (by decide) rfl rfl (Nat.le_of_ble_eq_true rfl) dX3_init_6 kg_X3_7 ?_
  refine g_aload_n C 0 dX3_init_9 rfl ?_
  refine g_iload_n C 1 dX3_init_10 rfl ?_
  refine g_iload_n C 2 dX3_init_11 rfl ?_
  refine g_imul C dX3_init_12 ?_
  rw [pk_mul]
  refine w_newi C Kf (N := N * w) kaI (nI_pos (by omega)) (nI_clamp (by omega)) (by rw [cb_int]; omega) (by rw [hk0]; exact Nat.le_of_ble_eq_true rfl) (by rw [hn0]; show 0 + N * w ≤ N * w + N; omega) dX3_init_13 (fun q1 => ?_)
  rw [hk0, hn0]
  have C1 := C.at (k := 0 + 1) (n := 0 + N * w) (Nat.le_of_ble_eq_true rfl) (by show 0 + N * w ≤ N * w + N; omega)
  have Kf1 := Kf.at (0 + 1) (0 + N * w)
  refine w_putF C1 Kf1 0 [(q, .inr (3, [.ref q1, .null, .int (nI w)])), (q1, .inl (cI, N * w, .inl (fun _ => 0)))] cl_X3 hin rfl rfl (k := 0) (by decide) (by decide) (by decide) rfl rfl (Nat.le_of_ble_eq_true rfl) dX3_init_15 kg_X3_13 ?_
  refine g_aload_n C1 0 dX3_init_18 rfl ?_
  refine g_iload_n C1 1 dX3_init_19 rfl ?_
  refine w_newi C1 Kf1 (N := N) kaI (nI_pos (by omega)) (nI_clamp (by omega)) (by rw [cb_int]; omega) (Nat.le_of_ble_eq_true rfl) (by show 0 + N * w + N ≤ N * w + N; omega) dX3_init_20 (fun q2 => ?_)
  have C2 := C.at (k := 0 + 1 + 1) (n := 0 + N * w + N) (Nat.le_of_ble_eq_true rfl) (by show 0 + N * w + N ≤ N * w + N; omega)
  have Kf2 := Kf.at (0 + 1 + 1) (0 + N * w + N)
  refine w_putF C2 Kf2 0 [(q, .inr (3, [.ref q1, .ref q2, .int (nI w)])), (q1, .inl (cI, N * w, .inl (fun _ => 0))), (q2, .inl (cI, N, .inl (fun _ => 0)))] cl_X3 hin rfl rfl (k := 1) (by decide) (by decide) (by decide) rfl rfl (Nat.le_of_ble_eq_true rfl) dX3_init_22 kf_X3_17 ?_
  refine g_iconst C2 dX3_init_25 (v := 0) (by decide) ?_
  refine g_istore_n C2 [(3, .int 0), (0, .ref q), (1, .int (nI N)), (2, .int (nI w))] dX3_init_26 rfl (Nat.le_of_ble_eq_true rfl) rfl ?_
  have main : ∀ (m i : Nat), i + m = N → gG (Xc X (0 + 1 + 1) (0 + N * w + N)) [(q, .inr (3, [.ref q1, .ref q2, .int (nI w)])), (q1, .inl (cI, N * w, .inl (fun _ => 0))), (q2, .inl (cI, N, .inl (fun j => if j < i then -1 else 0)))] 27 [(3, .int (nI i)), (0, .ref q), (1, .int (nI N)), (2, .int (nI w))] [] := by
    intro m
    induction m with
    | zero =>
      intro i hi
      rw [Nat.add_zero] at hi
      subst hi
      refine g_iload_n C2 0 dX3_init_27 rfl ?_
      refine g_iload_n C2 2 dX3_init_28 rfl ?_
      refine g_icmp_ge C2 (α := Unit) (o := ()) (Y := some ()) (N := none) 45 dX3_init_29 (by decide) (if_pos (nI_le (Nat.le_refl _) (by omega))) (fun _ => ?_) (fun h => by cases h)
      exact i_ret C2 Kf2 (fun j => if j = 0 then q1 else q2) rfl rfl (by show 0 + i * w + i = i * w + i; omega) hQ dX3_init_45
    | succ m ih =>
      intro i hi
      refine g_iload_n C2 0 dX3_init_27 rfl ?_
      refine g_iload_n C2 2 dX3_init_28 rfl ?_
      refine g_icmp_ge C2 (α := Unit) (o := ()) (Y := none) (N := some ()) 45 dX3_init_29 (by decide) (if_neg (nI_ge (by omega) (by omega))) (fun h => by cases h) (fun _ => ?_)
      refine g_aload_n C2 1 dX3_init_32 rfl ?_
      refine w_get C2 Kf2 0 cl_X3 rfl (k := 1) (by decide) rfl dX3_init_33 kf_X3_17 ?_
      refine g_iload_n C2 0 dX3_init_36 rfl ?_
      refine g_iconst C2 dX3_init_37 (v := -1) (by decide) ?_
      refine w_iast C2 Kf2 2 [(q, .inr (3, [.ref q1, .ref q2, .int (nI w)])), (q1, .inl (cI, N * w, .inl (fun _ => 0))), (q2, .inl (cI, N, .inl (fun j => if j < i + 1 then -1 else 0)))] rfl (by rw [nI_clamp (by omega), upd_m1]; rfl) (vp_in_nI (by omega) (by omega)) dX3_init_38 ?_
      refine g_iinc C2 (α := Unit) (o := ()) (F := fun z => if z = nI i + 1 then some () else none) (d := 1) 0 (fun z => [(3, .int z), (0, .ref q), (1, .int (nI N)), (2, .int (nI w))]) dX3_init_39 rfl (by decide) (Nat.le_of_ble_eq_true rfl) (fun _ => rfl) (if_pos rfl) (fun z hz => ?_)
      by_cases e : z = nI i + 1
      · subst e
        refine g_goto C2 27 dX3_init_42 (by decide) ?_
        rw [nI_1]
        exact ih (i + 1) (by omega)
      · rw [if_neg e] at hz
        cases hz
  exact main N 0 (by omega)
