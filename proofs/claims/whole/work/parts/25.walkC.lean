abbrev rmX5_turn : Room := { frames := 6, cells := 0, slots := 0, locals := 142 }
set_option maxHeartbeats 4000000 in
set_option maxRecDepth 100000 in
theorem mX5_turn {K : Kx} (hK0 : isKC K) (l : Launch) (σ : St)   (r : Int32) (σ' : St) (hf : f5_turn σ = some (r, σ')) : mC K l yX5_turn cX5_turn 2 (some .int) rmX5_turn [.ref (K.2.1 0)] σ (some (.int r)) σ' := by
  refine g_entry (own := RX5) rfl (by decide +kernel) (Nat.le_of_ble_eq_true rfl) (fun X hX C Kf hR => ?_)
  subst hX
  unfold f5_turn at hf
  show gG X σ 0 [(0, .ref (K.2.1 0))] []
  refine g_aload_n C 0 dX5_turn_0 rfl ?_
  refine g_iconst (v := 1) C dX5_turn_1 (by decide) ?_
  obtain ⟨r_2, h_1, hf⟩ := b1_some hf
  refine g_cV_i C Kf [.int 1] (mX5_refusedDeeds hK0 X.1.2.1 σ 1 r_2 h_1) mi_X5_refusedDeeds (qO_X5 hK0) rfl km_X5_156 ⟨rfl, rfl, by decide, by decide⟩ rfl rfl (Nat.le_of_ble_eq_true rfl) dX5_turn_2 ?_
  refine g_istore_n C [(1, .int r_2), (0, .ref (K.2.1 0))] dX5_turn_5 rfl (by decide) rfl ?_
  refine g_iload_n C 0 dX5_turn_6 rfl ?_
  refine g_if_eq C 12 dX5_turn_7 (by decide) hf (fun hf => ?_) (fun hf => ?_)
  · refine g_aload_n C 1 dX5_turn_12 rfl ?_
    refine g_getR C Kf cl_X5 (qF_X5_4 hK0) (by decide) dX5_turn_13 kf_X5_34 ?_
    refine g_iconst (v := 1) C dX5_turn_16 (by decide) ?_
    refine g_iconst (v := 0) C dX5_turn_17 (by decide) ?_
    refine g_iconst (v := 0) C dX5_turn_18 (by decide) ?_
    refine g_iconst (v := 0) C dX5_turn_19 (by decide) ?_
    obtain ⟨r_4, h_3, hf⟩ := b1_some hf
    refine g_cS_i C Kf [.int 1, .int 0, .int 0, .int 0] (mX5_deedOf hK0 X.1.2.1 σ 1 0 0 0 r_4 h_3) mi_X5_deedOf km_X5_159 ⟨rfl, rfl, by decide, by decide⟩ rfl rfl (Nat.le_of_ble_eq_true rfl) dX5_turn_20 ?_
    obtain ⟨r_6, σ_7, h_5, hf⟩ := b2_some hf
    refine g_cVN_i C Kf [.int r_4] (mX1_add hK0 X.1.2.1 σ r_4 r_6 σ_7 h_5) mi_X1_add (qO_X1 hK0) rfl km_X5_163 ⟨rfl, rfl, by decide, by decide⟩ rfl rfl (Nat.le_of_ble_eq_true rfl) dX5_turn_23 ?_
    exact g_iretP C Kf hR dX5_turn_26 hf
  · refine g_iload_n C 0 dX5_turn_10 rfl ?_
    exact g_iretP C Kf hR dX5_turn_11 hf
abbrev rmX5_undo : Room := { frames := 6, cells := 0, slots := 0, locals := 143 }
set_option maxHeartbeats 4000000 in
set_option maxRecDepth 100000 in
theorem mX5_undo {K : Kx} (hK0 : isKC K) (l : Launch) (σ : St) (x1 : Int32)  (r : Int32) (σ' : St) (hf : f5_undo σ x1 = some (r, σ')) : mC K l yX5_undo cX5_undo 3 (some .int) rmX5_undo [.ref (K.2.1 0), .int x1] σ (some (.int r)) σ' := by
  refine g_entry (own := RX5) rfl (by decide +kernel) (Nat.le_of_ble_eq_true rfl) (fun X hX C Kf hR => ?_)
  subst hX
  unfold f5_undo at hf
  show gG X σ 0 [(0, .ref (K.2.1 0)), (1, .int x1)] []
  refine g_iload_n C 1 dX5_undo_0 rfl ?_
  refine g_if_lt C 15 dX5_undo_1 (by decide) hf (fun hf => ?_) (fun hf => ?_)
  · refine g_iconst (v := (-1)) C dX5_undo_15 (by decide) ?_
    exact g_iretP C Kf hR dX5_undo_16 hf
  · refine g_iload_n C 1 dX5_undo_4 rfl ?_
    refine g_aload_n C 0 dX5_undo_5 rfl ?_
    refine g_getR C Kf cl_X5 (qF_X5_4 hK0) (by decide) dX5_undo_6 kf_X5_34 ?_
    refine g_getIN C Kf cl_X1 (qF_X1_9 hK0) (by decide) dX5_undo_9 kf_X5_169 ?_
    refine g_icmp_le C 17 dX5_undo_12 (by decide) hf (fun hf => ?_) (fun hf => ?_)
    · refine g_aload_n C 0 dX5_undo_17 rfl ?_
      refine g_getR C Kf cl_X5 (qF_X5_4 hK0) (by decide) dX5_undo_18 kf_X5_34 ?_
      refine g_getIN C Kf cl_X1 (qF_X1_9 hK0) (by decide) dX5_undo_21 kf_X5_169 ?_
      refine g_iload_n C 1 dX5_undo_24 rfl ?_
      refine g_isub C dX5_undo_25 ?_
      refine g_istore_nB C (fun x2_1 => [(2, .int x2_1), (0, .ref (K.2.1 0)), (1, .int x1)]) dX5_undo_26 rfl (by decide) (fun _ => rfl) hf (fun x2_1 hf => ?_)
      refine g_aload_n C 1 dX5_undo_27 rfl ?_
      refine g_getR C Kf cl_X5 (qF_X5_4 hK0) (by decide) dX5_undo_28 kf_X5_34 ?_
      refine g_iload_n C 2 dX5_undo_31 rfl ?_
      obtain ⟨σ_3, h_2, hf⟩ := b1_some hf
      refine g_cVN_v C Kf [.int x1] (mX1_redo hK0 X.1.2.1 σ x1 σ_3 h_2) mi_X1_redo (qO_X1 hK0) rfl km_X5_172 ⟨rfl, rfl, by decide, by decide⟩ rfl rfl (Nat.le_of_ble_eq_true rfl) dX5_undo_32 ?_
      refine g_iload_n C 0 dX5_undo_35 rfl ?_
      exact g_iretP C Kf hR dX5_undo_36 hf
    · refine g_iconst (v := (-1)) C dX5_undo_15 (by decide) ?_
      exact g_iretP C Kf hR dX5_undo_16 hf
abbrev rmX5_upper : Room := { frames := 0, cells := 0, slots := 0, locals := 0 }
set_option maxHeartbeats 4000000 in
set_option maxRecDepth 100000 in
theorem mX5_upper {K : Kx} (hK0 : isKC K) (l : Launch) (σ : St)   (r : Int64) (hf : f5_upper σ = some r) : mC K l yX5_upper cX5_upper 1 (some .long) rmX5_upper [.ref (K.2.1 0)] σ (some (.long r)) σ := by
  refine g_entry (own := RX5) rfl (by decide +kernel) (Nat.le_of_ble_eq_true rfl) (fun X hX C Kf hR => ?_)
  subst hX
  unfold f5_upper at hf
  show gG X σ 0 [(0, .ref (K.2.1 0))] []
  refine g_aload_n C 0 dX5_upper_0 rfl ?_
  refine g_getL C Kf cl_X5 (qF_X5_10 hK0) (by decide) dX5_upper_1 kf_X5_63 ?_
  exact g_lretR C Kf hR dX5_upper_4 hf
