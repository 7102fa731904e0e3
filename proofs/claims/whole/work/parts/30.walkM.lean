abbrev rmX6_answer : Room := { frames := 0, cells := 0, slots := 0, locals := 0 }
set_option maxHeartbeats 4000000 in
set_option maxRecDepth 100000 in
theorem mX6_answer {K : Kx} (hK0 : isKM K) (l : Launch) (σ : St) (x1 : Int32) (x2 : Int32)  (r : Int32) (σ' : St) (hf : f6_answer σ x1 x2 = some (r, σ')) : mC K l yX6_answer cX6_answer 3 (some .int) rmX6_answer [.ref (K.2.1 0), .int x1, .int x2] σ (some (.int r)) σ' := by
  refine g_entry (own := RX6) rfl (by decide +kernel) (Nat.le_of_ble_eq_true rfl) (fun X hX C Kf hR => ?_)
  subst hX
  unfold f6_answer at hf
  show gG X σ 0 [(0, .ref (K.2.1 0)), (1, .int x1), (2, .int x2)] []
  refine g_aload_n C 0 dX6_answer_0 rfl ?_
  refine g_iload_n C 2 dX6_answer_1 rfl ?_
  refine g_putI C Kf cl_X6 (qF_X6_12 hK0) (by decide) rfl rfl rfl dX6_answer_2 kf_X6_64 hf (fun σ_1 hf => ?_)
  refine g_iload_n C 1 dX6_answer_5 rfl ?_
  exact g_iretP C Kf hR dX6_answer_6 hf
abbrev rmX6_asked : Room := { frames := 0, cells := 0, slots := 0, locals := 0 }
set_option maxHeartbeats 4000000 in
set_option maxRecDepth 100000 in
theorem mX6_asked {K : Kx} (hK0 : isKM K) (l : Launch) (σ : St)   (r : Int32) (hf : f6_asked σ = some r) : mC K l yX6_asked cX6_asked 1 (some .int) rmX6_asked [.ref (K.2.1 0)] σ (some (.int r)) σ := by
  refine g_entry (own := RX6) rfl (by decide +kernel) (Nat.le_of_ble_eq_true rfl) (fun X hX C Kf hR => ?_)
  subst hX
  unfold f6_asked at hf
  show gG X σ 0 [(0, .ref (K.2.1 0))] []
  refine g_aload_n C 0 dX6_asked_0 rfl ?_
  refine g_getI C Kf cl_X6 (qF_X6_12 hK0) (by decide) dX6_asked_1 kf_X6_64 ?_
  exact g_iretR C Kf hR dX6_asked_4 hf
abbrev rmX6_in : Room := { frames := 0, cells := 0, slots := 0, locals := 0 }
set_option maxHeartbeats 4000000 in
set_option maxRecDepth 100000 in
theorem mX6_in {K : Kx} (hK0 : isKM K) (l : Launch) (σ : St) (x0 : Int64) (x2 : Int64) (x4 : Int64)  (r : Int32) (hf : f6_in x0 x2 x4 = some r) : mC K l yX6_in cX6_in 6 (some .boolean) rmX6_in [.long x0, .long x2, .long x4] σ (some (.int r)) σ := by
  refine g_entry (own := RX6) rfl (by decide +kernel) (Nat.le_of_ble_eq_true rfl) (fun X hX C Kf hR => ?_)
  subst hX
  unfold f6_in at hf
  show gG X σ 0 [(0, .long x0), (2, .long x2), (4, .long x4)] []
  refine g_lload_n C 0 dX6_in_0 rfl ?_
  refine g_lload_n C 1 dX6_in_1 rfl ?_
  refine g_lcmp_lt C 17 dX6_in_2 dX6_in_3 (by decide) hf (fun hf => ?_) (fun hf => ?_)
  · refine g_iconst (v := 0) C dX6_in_17 (by decide) ?_
    exact g_zretR C Kf hR (Or.inl rfl) dX6_in_18 hf
  · refine g_lload_n C 0 dX6_in_6 rfl ?_
    refine g_lload C 2 dX6_in_7 rfl ?_
    refine g_lcmp_gt C 17 dX6_in_9 dX6_in_10 (by decide) hf (fun hf => ?_) (fun hf => ?_)
    · refine g_iconst (v := 0) C dX6_in_17 (by decide) ?_
      exact g_zretR C Kf hR (Or.inl rfl) dX6_in_18 hf
    · refine g_iconst (v := 1) C dX6_in_13 (by decide) ?_
      refine g_goto C 18 dX6_in_14 (by decide) ?_
      exact g_zretR C Kf hR (Or.inr rfl) dX6_in_18 hf
abbrev rmX6_isRow : Room := { frames := 1, cells := 0, slots := 0, locals := 25 }
set_option maxHeartbeats 4000000 in
set_option maxRecDepth 100000 in
theorem mX6_isRow {K : Kx} (hK0 : isKM K) (l : Launch) (σ : St) (x0 : Int32)  (r : Int32) (hf : f6_isRow x0 = some r) : mC K l yX6_isRow cX6_isRow 1 (some .boolean) rmX6_isRow [.int x0] σ (some (.int r)) σ := by
  refine g_entry (own := RX6) rfl (by decide +kernel) (Nat.le_of_ble_eq_true rfl) (fun X hX C Kf hR => ?_)
  subst hX
  unfold f6_isRow at hf
  show gG X σ 0 [(0, .int x0)] []
  refine g_iload_n C 0 dX6_isRow_0 rfl ?_
  refine g_i2l C dX6_isRow_1 ?_
  refine g_lconst (v := 0) C dX6_isRow_2 (by decide) ?_
  refine g_ldc2 (v := 5) C dX6_isRow_3 kl_X6_67 ?_
  obtain ⟨r_2, h_1, hf⟩ := b1_some hf
  refine g_cS_i C Kf [.long (x0.toInt64), .long 0, .long 5] (mX6_in hK0 X.1.2.1 σ (x0.toInt64) 0 5 r_2 h_1) mi_X6_in km_X6_69 ⟨rfl, rfl, by decide, by decide⟩ rfl rfl (Nat.le_of_ble_eq_true rfl) dX6_isRow_6 ?_
  exact g_zretRB C Kf hR dX6_isRow_9 hf
abbrev rmX6_found : Room := { frames := 0, cells := 0, slots := 0, locals := 0 }
set_option maxHeartbeats 4000000 in
set_option maxRecDepth 100000 in
theorem mX6_found {K : Kx} (hK0 : isKM K) (l : Launch) (σ : St) (x1 : Int32)  (r : Int32) (σ' : St) (hf : f6_found σ x1 = some (r, σ')) : mC K l yX6_found cX6_found 2 (some .int) rmX6_found [.ref (K.2.1 0), .int x1] σ (some (.int r)) σ' := by
  refine g_entry (own := RX6) rfl (by decide +kernel) (Nat.le_of_ble_eq_true rfl) (fun X hX C Kf hR => ?_)
  subst hX
  unfold f6_found at hf
  show gG X σ 0 [(0, .ref (K.2.1 0)), (1, .int x1)] []
  refine g_aload_n C 0 dX6_found_0 rfl ?_
  refine g_iload_n C 1 dX6_found_1 rfl ?_
  refine g_putI C Kf cl_X6 (qF_X6_15 hK0) (by decide) rfl rfl rfl dX6_found_2 kf_X6_60 hf (fun σ_1 hf => ?_)
  refine g_aload_n C 0 dX6_found_5 rfl ?_
  refine g_getR C Kf cl_X6 (qF_X6_16 hK0) (by decide) dX6_found_6 kf_X6_45 ?_
  refine g_iload_n C 1 dX6_found_9 rfl ?_
  refine g_dup2 C dX6_found_10 rfl rfl ?_
  refine g_iald C Kf (qAM_11 hK0) dX6_found_11 hf (fun hf => ?_)
  refine g_iconst (v := 1) C dX6_found_12 (by decide) ?_
  refine g_iadd C dX6_found_13 ?_
  refine g_iast C Kf (qAM_11 hK0) dX6_found_14 hf (fun σ_2 hf => ?_)
  refine g_bipush (v := (-3)) C dX6_found_15 (by decide) ?_
  exact g_iretP C Kf hR dX6_found_17 hf
abbrev rmX6_tell : Room := { frames := 0, cells := 0, slots := 0, locals := 0 }
set_option maxHeartbeats 4000000 in
set_option maxRecDepth 100000 in
theorem mX6_tell {K : Kx} (hK0 : isKM K) (l : Launch) (σ : St) (x1 : Int32)  (r : Int32) (σ' : St) (hf : f6_tell σ x1 = some (r, σ')) : mC K l yX6_tell cX6_tell 2 (some .int) rmX6_tell [.ref (K.2.1 0), .int x1] σ (some (.int r)) σ' := by
  refine g_entry (own := RX6) rfl (by decide +kernel) (Nat.le_of_ble_eq_true rfl) (fun X hX C Kf hR => ?_)
  subst hX
  unfold f6_tell at hf
  show gG X σ 0 [(0, .ref (K.2.1 0)), (1, .int x1)] []
  refine g_aload_n C 0 dX6_tell_0 rfl ?_
  refine g_iload_n C 1 dX6_tell_1 rfl ?_
  refine g_putI C Kf cl_X6 (qF_X6_12 hK0) (by decide) rfl rfl rfl dX6_tell_2 kf_X6_64 hf (fun σ_1 hf => ?_)
  refine g_iconst (v := 1) C dX6_tell_5 (by decide) ?_
  exact g_iretP C Kf hR dX6_tell_6 hf
abbrev rmX6_at : Room := { frames := 2, cells := 0, slots := 0, locals := 45 }
set_option maxHeartbeats 4000000 in
set_option maxRecDepth 100000 in
theorem mX6_at {K : Kx} (hK0 : isKM K) (l : Launch) (σ : St) (x1 : Int32) (x2 : Int32)  (r : Int32) (σ' : St) (hf : f6_at σ x1 x2 = some (r, σ')) : mC K l yX6_at cX6_at 3 (some .int) rmX6_at [.ref (K.2.1 0), .int x1, .int x2] σ (some (.int r)) σ' := by
  refine g_entry (own := RX6) rfl (by decide +kernel) (Nat.le_of_ble_eq_true rfl) (fun X hX C Kf hR => ?_)
  subst hX
  unfold f6_at at hf
  show gG X σ 0 [(0, .ref (K.2.1 0)), (1, .int x1), (2, .int x2)] []
  refine g_iload_n C 1 dX6_at_0 rfl ?_
  obtain ⟨r_2, h_1, hf⟩ := b1_some hf
  refine g_cS_i C Kf [.int x1] (mX6_isRow hK0 X.1.2.1 σ x1 r_2 h_1) mi_X6_isRow km_X6_75 ⟨rfl, rfl, by decide, by decide⟩ rfl rfl (Nat.le_of_ble_eq_true rfl) dX6_at_1 ?_
  refine g_if_ne C 9 dX6_at_4 (by decide) hf (fun hf => ?_) (fun hf => ?_)
  · refine g_aload_n C 0 dX6_at_9 rfl ?_
    refine g_getR C Kf cl_X6 (qF_X6_0 hK0) (by decide) dX6_at_10 kf_X6_7 ?_
    refine g_iload_n C 1 dX6_at_13 rfl ?_
    refine g_iald C Kf (qAM_1 hK0) dX6_at_14 hf (fun hf => ?_)
    refine g_if_ge C 24 dX6_at_15 (by decide) hf (fun hf => ?_) (fun hf => ?_)
    · refine g_iload_n C 2 dX6_at_24 rfl ?_
      refine g_i2l C dX6_at_25 ?_
      refine g_lconst (v := 0) C dX6_at_26 (by decide) ?_
      refine g_aload_n C 0 dX6_at_27 rfl ?_
      refine g_getR C Kf cl_X6 (qF_X6_0 hK0) (by decide) dX6_at_28 kf_X6_7 ?_
      refine g_iload_n C 1 dX6_at_31 rfl ?_
      refine g_iald C Kf (qAM_1 hK0) dX6_at_32 hf (fun hf => ?_)
      refine g_iconst (v := 1) C dX6_at_33 (by decide) ?_
      refine g_isub C dX6_at_34 ?_
      refine g_i2l C dX6_at_35 ?_
      obtain ⟨r_4, h_3, hf⟩ := b1_some hf
      refine g_cS_i C Kf [.long (x2.toInt64), .long 0, .long (((σ.1 1 x1.toNatClampNeg) - 1).toInt64)] (mX6_in hK0 X.1.2.1 σ (x2.toInt64) 0 (((σ.1 1 x1.toNatClampNeg) - 1).toInt64) r_4 h_3) mi_X6_in km_X6_69 ⟨rfl, rfl, by decide, by decide⟩ rfl rfl (Nat.le_of_ble_eq_true rfl) dX6_at_36 ?_
      refine g_if_eq C 60 dX6_at_39 (by decide) hf (fun hf => ?_) (fun hf => ?_)
      · refine g_aload_n C 0 dX6_at_60 rfl ?_
        refine g_iconst (v := 2) C dX6_at_61 (by decide) ?_
        obtain ⟨r_6, σ_7, h_5, hf⟩ := b2_some hf
        refine g_cV_i C Kf [.int 2] (mX6_found hK0 X.1.2.1 σ 2 r_6 σ_7 h_5) mi_X6_found (qO_X6 hK0) rfl km_X6_79 ⟨rfl, rfl, by decide, by decide⟩ rfl rfl (Nat.le_of_ble_eq_true rfl) dX6_at_62 ?_
        exact g_iretP C Kf hR dX6_at_65 hf
      · refine g_aload_n C 0 dX6_at_42 rfl ?_
        refine g_aload_n C 0 dX6_at_43 rfl ?_
        refine g_getR C Kf cl_X6 (qF_X6_1 hK0) (by decide) dX6_at_44 kf_X6_13 ?_
        refine g_bipush (v := 40) C dX6_at_47 (by decide) ?_
        refine g_iload_n C 1 dX6_at_49 rfl ?_
        refine g_imul C dX6_at_50 ?_
        refine g_iload_n C 2 dX6_at_51 rfl ?_
        refine g_iadd C dX6_at_52 ?_
        refine g_iald C Kf (qAM_2 hK0) dX6_at_53 hf (fun hf => ?_)
        obtain ⟨r_9, σ_10, h_8, hf⟩ := b2_some hf
        refine g_cV_i C Kf [.int (σ.1 2 ((40 * x1) + x2).toNatClampNeg)] (mX6_tell hK0 X.1.2.1 σ (σ.1 2 ((40 * x1) + x2).toNatClampNeg) r_9 σ_10 h_8) mi_X6_tell (qO_X6 hK0) rfl km_X6_83 ⟨rfl, rfl, by decide, by decide⟩ rfl rfl (Nat.le_of_ble_eq_true rfl) dX6_at_54 ?_
        refine g_goto C 65 dX6_at_57 (by decide) ?_
        exact g_iretP C Kf hR dX6_at_65 hf
    · refine g_aload_n C 0 dX6_at_18 rfl ?_
      refine g_iconst (v := 1) C dX6_at_19 (by decide) ?_
      obtain ⟨r_12, σ_13, h_11, hf⟩ := b2_some hf
      refine g_cV_i C Kf [.int 1] (mX6_found hK0 X.1.2.1 σ 1 r_12 σ_13 h_11) mi_X6_found (qO_X6 hK0) rfl km_X6_79 ⟨rfl, rfl, by decide, by decide⟩ rfl rfl (Nat.le_of_ble_eq_true rfl) dX6_at_20 ?_
      exact g_iretP C Kf hR dX6_at_23 hf
  · refine g_iconst (v := (-1)) C dX6_at_7 (by decide) ?_
    exact g_iretP C Kf hR dX6_at_8 hf
abbrev rmX6_isCard : Room := { frames := 1, cells := 0, slots := 0, locals := 25 }
set_option maxHeartbeats 4000000 in
set_option maxRecDepth 100000 in
theorem mX6_isCard {K : Kx} (hK0 : isKM K) (l : Launch) (σ : St) (x1 : Int32)  (r : Int32) (hf : f6_isCard σ x1 = some r) : mC K l yX6_isCard cX6_isCard 2 (some .boolean) rmX6_isCard [.ref (K.2.1 0), .int x1] σ (some (.int r)) σ := by
  refine g_entry (own := RX6) rfl (by decide +kernel) (Nat.le_of_ble_eq_true rfl) (fun X hX C Kf hR => ?_)
  subst hX
  unfold f6_isCard at hf
  show gG X σ 0 [(0, .ref (K.2.1 0)), (1, .int x1)] []
  refine g_iload_n C 1 dX6_isCard_0 rfl ?_
  refine g_i2l C dX6_isCard_1 ?_
  refine g_lconst (v := 0) C dX6_isCard_2 (by decide) ?_
  refine g_aload_n C 0 dX6_isCard_3 rfl ?_
  refine g_getI C Kf cl_X6 (qF_X6_4 hK0) (by decide) dX6_isCard_4 kf_X6_102 ?_
  refine g_iconst (v := 1) C dX6_isCard_7 (by decide) ?_
  refine g_isub C dX6_isCard_8 ?_
  refine g_i2l C dX6_isCard_9 ?_
  obtain ⟨r_2, h_1, hf⟩ := b1_some hf
  refine g_cS_i C Kf [.long (x1.toInt64), .long 0, .long (((σ.1 0 4) - 1).toInt64)] (mX6_in hK0 X.1.2.1 σ (x1.toInt64) 0 (((σ.1 0 4) - 1).toInt64) r_2 h_1) mi_X6_in km_X6_69 ⟨rfl, rfl, by decide, by decide⟩ rfl rfl (Nat.le_of_ble_eq_true rfl) dX6_isCard_10 ?_
  exact g_zretRB C Kf hR dX6_isCard_13 hf
abbrev rmX6_placeOf : Room := { frames := 0, cells := 0, slots := 0, locals := 0 }
set_option maxHeartbeats 4000000 in
set_option maxRecDepth 100000 in
theorem wL6_placeOf_2 {X : Gx St} {K : Kx} (hK0 : isKM K) (σ : St) (a0 : Nat) (ha0 : 0 < lnM a0) (x1 : Int32) (r : Int32) (C : gF X cX6_placeOf RX6 (some .int) 3 rmX6_placeOf) (Kf : kF X K) (hR : gR X K (some (.int r)) σ) (k : Int32 → Option (Int32)) (Hk : ∀ (x2_2 : Int32), k x2_2 = some r → gG X σ 15 [(2, .int x2_2)] []) : ∀ (n : Nat) (x2_1 : Int32), L6_placeOf_2 σ a0 x1 k n x2_1 = some r → gG X σ 2 [(0, .ref (K.2.1 a0)), (1, .int x1), (2, .int x2_1)] [] := by
  intro n
  induction n with
  | zero => intro _ hf; unfold L6_placeOf_2 at hf; cases hf
  | succ n ih =>
  intro x2_1 hf
  unfold L6_placeOf_2 at hf
  refine g_aload_n C 0 dX6_placeOf_2 rfl ?_
  refine g_iload_n C 2 dX6_placeOf_3 rfl ?_
  refine g_iald C Kf (qAM hK0 ha0) dX6_placeOf_4 hf (fun hf => ?_)
  refine g_iload_n C 1 dX6_placeOf_5 rfl ?_
  refine g_icmp_eq C 15 dX6_placeOf_6 (by decide) hf (fun hf => ?_) (fun hf => ?_)
  · refine g_cut [2] rfl ?_
    exact Hk _ hf
  · refine g_iinc (d := 1) C 2 (fun x2_3 => [(2, .int x2_3), (0, .ref (K.2.1 a0)), (1, .int x1)]) dX6_placeOf_9 rfl (by decide) (by decide) (fun _ => rfl) hf (fun x2_3 hf => ?_)
    refine g_goto C 2 dX6_placeOf_12 (by decide) ?_
    refine g_cut [1, 2, 0] rfl ?_
    exact ih _ hf
set_option maxHeartbeats 4000000 in
set_option maxRecDepth 100000 in
theorem mX6_placeOf {K : Kx} (hK0 : isKM K) (l : Launch) (σ : St) (a0 : Nat) (x1 : Int32) (ha0 : 0 < lnM a0) (r : Int32) (hf : f6_placeOf σ a0 x1 = some r) : mC K l yX6_placeOf cX6_placeOf 3 (some .int) rmX6_placeOf [.ref (K.2.1 a0), .int x1] σ (some (.int r)) σ := by
  refine g_entry (own := RX6) rfl (by decide +kernel) (Nat.le_of_ble_eq_true rfl) (fun X hX C Kf hR => ?_)
  subst hX
  unfold f6_placeOf at hf
  show gG X σ 0 [(0, .ref (K.2.1 a0)), (1, .int x1)] []
  refine g_iconst (v := 0) C dX6_placeOf_0 (by decide) ?_
  refine g_istore_n C [(2, .int 0), (0, .ref (K.2.1 a0)), (1, .int x1)] dX6_placeOf_1 rfl (by decide) rfl ?_
  refine g_cut [1, 2, 0] rfl ?_
  refine wL6_placeOf_2 hK0 σ a0 ha0 x1 _ C Kf hR _ (fun x2_4 hf => ?_) _ _ hf
  refine g_iload_n C 0 dX6_placeOf_15 rfl ?_
  exact g_iretR C Kf hR dX6_placeOf_16 hf
abbrev rmX6_more : Room := { frames := 0, cells := 0, slots := 0, locals := 0 }
set_option maxHeartbeats 4000000 in
set_option maxRecDepth 100000 in
theorem mX6_more {K : Kx} (hK0 : isKM K) (l : Launch) (σ : St) (x0 : Int32) (x1 : Int32)  (r : Int32) (hf : f6_more x0 x1 = some r) : mC K l yX6_more cX6_more 2 (some .int) rmX6_more [.int x0, .int x1] σ (some (.int r)) σ := by
  refine g_entry (own := RX6) rfl (by decide +kernel) (Nat.le_of_ble_eq_true rfl) (fun X hX C Kf hR => ?_)
  subst hX
  unfold f6_more at hf
  show gG X σ 0 [(0, .int x0), (1, .int x1)] []
  refine g_iload_n C 0 dX6_more_0 rfl ?_
  refine g_iload_n C 1 dX6_more_1 rfl ?_
  refine g_icmp_le C 9 dX6_more_2 (by decide) hf (fun hf => ?_) (fun hf => ?_)
  · refine g_iload_n C 1 dX6_more_9 rfl ?_
    exact g_iretR C Kf hR dX6_more_10 hf
  · refine g_iload_n C 0 dX6_more_5 rfl ?_
    refine g_goto C 10 dX6_more_6 (by decide) ?_
    exact g_iretR C Kf hR dX6_more_10 hf
abbrev rmX6_readsBy : Room := { frames := 1, cells := 0, slots := 0, locals := 21 }
set_option maxHeartbeats 4000000 in
set_option maxRecDepth 100000 in
theorem mX6_readsBy {K : Kx} (hK0 : isKM K) (l : Launch) (σ : St) (a0 : Nat) (x1 : Int32) (x2 : Int32) (x3 : Int32) (x4 : Int32) (ha0 : 0 < lnM a0) (r : Int32) (hf : f6_readsBy σ a0 x1 x2 x3 x4 = some r) : mC K l yX6_readsBy cX6_readsBy 7 (some .int) rmX6_readsBy [.ref (K.2.1 a0), .int x1, .int x2, .int x3, .int x4] σ (some (.int r)) σ := by
  refine g_entry (own := RX6) rfl (by decide +kernel) (Nat.le_of_ble_eq_true rfl) (fun X hX C Kf hR => ?_)
  subst hX
  unfold f6_readsBy at hf
  show gG X σ 0 [(0, .ref (K.2.1 a0)), (1, .int x1), (2, .int x2), (3, .int x3), (4, .int x4)] []
  refine g_aload_n C 0 dX6_readsBy_0 rfl ?_
  refine g_iload_n C 1 dX6_readsBy_1 rfl ?_
  refine g_iload_n C 3 dX6_readsBy_2 rfl ?_
  refine g_iadd C dX6_readsBy_3 ?_
  refine g_iald C Kf (qAM hK0 ha0) dX6_readsBy_4 hf (fun hf => ?_)
  refine g_istoreB C (fun x5_1 => [(5, .int x5_1), (0, .ref (K.2.1 a0)), (1, .int x1), (2, .int x2), (3, .int x3), (4, .int x4)]) dX6_readsBy_5 (by decide) (fun _ => rfl) hf (fun x5_1 hf => ?_)
  refine g_iload C 0 dX6_readsBy_7 rfl ?_
  refine g_aload_n C 1 dX6_readsBy_9 rfl ?_
  refine g_iload_n C 2 dX6_readsBy_10 rfl ?_
  refine g_iload_n C 4 dX6_readsBy_11 rfl ?_
  refine g_iconst (v := 1) C dX6_readsBy_12 (by decide) ?_
  refine g_iadd C dX6_readsBy_13 ?_
  refine g_iconst (v := 3) C dX6_readsBy_14 (by decide) ?_
  refine g_irem0 C dX6_readsBy_15 (by decide) ?_
  refine g_iadd C dX6_readsBy_16 ?_
  refine g_iald C Kf (qAM hK0 ha0) dX6_readsBy_17 hf (fun hf => ?_)
  obtain ⟨r_3, h_2, hf⟩ := b1_some hf
  refine g_cS_i C Kf [.int x5_1, .int (σ.1 a0 (x1 + ((x3 + 1) - (x3 + 1) / 3 * 3)).toNatClampNeg)] (mX6_more hK0 X.1.2.1 σ x5_1 (σ.1 a0 (x1 + ((x3 + 1) - (x3 + 1) / 3 * 3)).toNatClampNeg) r_3 h_2) mi_X6_more km_X6_114 ⟨rfl, rfl, by decide, by decide⟩ rfl rfl (Nat.le_of_ble_eq_true rfl) dX6_readsBy_18 ?_
  refine g_istore C [(6, .int r_3), (5, .int x5_1), (0, .ref (K.2.1 a0)), (1, .int x1), (2, .int x2), (3, .int x3), (4, .int x4)] dX6_readsBy_21 (by decide) rfl ?_
  refine g_iload_n C 4 dX6_readsBy_23 rfl ?_
  by_cases hs_4 : x2 = 1
  · rw [if_pos hs_4] at hf
    refine g_tabIn C 60 hs_4 dX6_readsBy_24 (by decide) (by decide) rfl (by decide) ?_
    refine g_aload_n C 2 dX6_readsBy_60 rfl ?_
    refine g_iload_n C 3 dX6_readsBy_61 rfl ?_
    refine g_iconst (v := 2) C dX6_readsBy_62 (by decide) ?_
    refine g_iadd C dX6_readsBy_63 ?_
    refine g_iload_n C 5 dX6_readsBy_64 rfl ?_
    refine g_isub C dX6_readsBy_65 ?_
    refine g_iald C Kf (qAM hK0 ha0) dX6_readsBy_66 hf (fun hf => ?_)
    exact g_iretR C Kf hR dX6_readsBy_67 hf
  · rw [if_neg hs_4] at hf
    by_cases hs_5 : x2 = 2
    · rw [if_pos hs_5] at hf
      refine g_tabIn C 68 hs_5 dX6_readsBy_24 (by decide) (by decide) rfl (by decide) ?_
      refine g_iconst (v := 0) C dX6_readsBy_68 (by decide) ?_
      refine g_iload C 1 dX6_readsBy_69 rfl ?_
      refine g_iload C 6 dX6_readsBy_71 rfl ?_
      refine g_iconst (v := 4) C dX6_readsBy_73 (by decide) ?_
      refine g_idiv0 C dX6_readsBy_74 (by decide) ?_
      refine g_isub C dX6_readsBy_75 ?_
      obtain ⟨r_10, h_9, hf⟩ := b1_some hf
      refine g_cS_i C Kf [.int 0, .int (x5_1 - (x4 / 4))] (mX6_more hK0 X.1.2.1 σ 0 (x5_1 - (x4 / 4)) r_10 h_9) mi_X6_more km_X6_114 ⟨rfl, rfl, by decide, by decide⟩ rfl rfl (Nat.le_of_ble_eq_true rfl) dX6_readsBy_76 ?_
      exact g_iretR C Kf hR dX6_readsBy_79 hf
    · rw [if_neg hs_5] at hf
      by_cases hs_6 : x2 = 3
      · rw [if_pos hs_6] at hf
        refine g_tabIn C 80 hs_6 dX6_readsBy_24 (by decide) (by decide) rfl (by decide) ?_
        refine g_iload C 0 dX6_readsBy_80 rfl ?_
        exact g_iretR C Kf hR dX6_readsBy_82 hf
      · rw [if_neg hs_6] at hf
        by_cases hs_7 : x2 = 4
        · rw [if_pos hs_7] at hf
          refine g_tabIn C 83 hs_7 dX6_readsBy_24 (by decide) (by decide) rfl (by decide) ?_
          refine g_iload C 1 dX6_readsBy_83 rfl ?_
          refine g_if_ne C 93 dX6_readsBy_85 (by decide) hf (fun hf => ?_) (fun hf => ?_)
          · refine g_iconst (v := 0) C dX6_readsBy_93 (by decide) ?_
            refine g_iload C 1 dX6_readsBy_94 rfl ?_
            refine g_iload C 6 dX6_readsBy_96 rfl ?_
            refine g_iconst (v := 4) C dX6_readsBy_98 (by decide) ?_
            refine g_idiv0 C dX6_readsBy_99 (by decide) ?_
            refine g_isub C dX6_readsBy_100 ?_
            obtain ⟨r_12, h_11, hf⟩ := b1_some hf
            refine g_cS_i C Kf [.int 0, .int (x5_1 - (x4 / 4))] (mX6_more hK0 X.1.2.1 σ 0 (x5_1 - (x4 / 4)) r_12 h_11) mi_X6_more km_X6_114 ⟨rfl, rfl, by decide, by decide⟩ rfl rfl (Nat.le_of_ble_eq_true rfl) dX6_readsBy_101 ?_
            exact g_iretR C Kf hR dX6_readsBy_104 hf
          · refine g_bipush (v := 10) C dX6_readsBy_88 (by decide) ?_
            refine g_goto C 104 dX6_readsBy_90 (by decide) ?_
            exact g_iretR C Kf hR dX6_readsBy_104 hf
        · rw [if_neg hs_7] at hf
          by_cases hs_8 : x2 = 5
          · rw [if_pos hs_8] at hf
            refine g_tabIn C 105 hs_8 dX6_readsBy_24 (by decide) (by decide) rfl (by decide) ?_
            refine g_iload C 0 dX6_readsBy_105 rfl ?_
            refine g_bipush (v := 9) C dX6_readsBy_107 (by decide) ?_
            refine g_icmp_ne C 116 dX6_readsBy_109 (by decide) hf (fun hf => ?_) (fun hf => ?_)
            · refine g_iload C 0 dX6_readsBy_116 rfl ?_
              exact g_iretR C Kf hR dX6_readsBy_118 hf
            · refine g_iconst (v := 0) C dX6_readsBy_112 (by decide) ?_
              refine g_goto C 118 dX6_readsBy_113 (by decide) ?_
              exact g_iretR C Kf hR dX6_readsBy_118 hf
          · rw [if_neg hs_8] at hf
            refine g_tabOut C 119 dX6_readsBy_24 (by have ehs_4 := sw_ne (n := 1) (by decide) hs_4; have ehs_5 := sw_ne (n := 2) (by decide) hs_5; have ehs_6 := sw_ne (n := 3) (by decide) hs_6; have ehs_7 := sw_ne (n := 4) (by decide) hs_7; have ehs_8 := sw_ne (n := 5) (by decide) hs_8; omega) (by decide) ?_
            refine g_iload C 1 dX6_readsBy_119 rfl ?_
            exact g_iretR C Kf hR dX6_readsBy_121 hf
abbrev rmX6_readOn : Room := { frames := 2, cells := 0, slots := 0, locals := 47 }
set_option maxHeartbeats 4000000 in
set_option maxRecDepth 100000 in
theorem mX6_readOn {K : Kx} (hK0 : isKM K) (l : Launch) (σ : St) (a1 : Nat) (x2 : Int32) (x3 : Int32) (ha1 : 0 < lnM a1) (r : Int32) (hf : f6_readOn σ a1 x2 x3 = some r) : mC K l yX6_readOn cX6_readOn 4 (some .int) rmX6_readOn [.ref (K.2.1 0), .ref (K.2.1 a1), .int x2, .int x3] σ (some (.int r)) σ := by
  refine g_entry (own := RX6) rfl (by decide +kernel) (Nat.le_of_ble_eq_true rfl) (fun X hX C Kf hR => ?_)
  subst hX
  unfold f6_readOn at hf
  show gG X σ 0 [(0, .ref (K.2.1 0)), (1, .ref (K.2.1 a1)), (2, .int x2), (3, .int x3)] []
  refine g_aload_n C 1 dX6_readOn_0 rfl ?_
  refine g_bipush (v := 6) C dX6_readOn_1 (by decide) ?_
  refine g_iconst (v := 3) C dX6_readOn_3 (by decide) ?_
  refine g_iload_n C 2 dX6_readOn_4 rfl ?_
  refine g_imul C dX6_readOn_5 ?_
  refine g_iadd C dX6_readOn_6 ?_
  refine g_aload_n C 0 dX6_readOn_7 rfl ?_
  refine g_getR C Kf cl_X6 (qF_X6_5 hK0) (by decide) dX6_readOn_8 kf_X6_22 ?_
  refine g_iload_n C 2 dX6_readOn_11 rfl ?_
  refine g_iald C Kf (qAM_5 hK0) dX6_readOn_12 hf (fun hf => ?_)
  refine g_iload_n C 3 dX6_readOn_13 rfl ?_
  refine g_aload_n C 1 dX6_readOn_14 rfl ?_
  refine g_bipush (v := 24) C dX6_readOn_15 (by decide) ?_
  refine g_ialdK C Kf 24 (by decide) (qAM hK0 ha1) dX6_readOn_17 hf (fun hf => ?_)
  obtain ⟨r_2, h_1, hf⟩ := b1_some hf
  refine g_cS_i C Kf [.ref (K.2.1 a1), .int (6 + (3 * x2)), .int (σ.1 5 x2.toNatClampNeg), .int x3, .int (σ.1 a1 24)] (mX6_readsBy hK0 X.1.2.1 σ a1 (6 + (3 * x2)) (σ.1 5 x2.toNatClampNeg) x3 (σ.1 a1 24) (ha1) r_2 h_1) mi_X6_readsBy km_X6_118 ⟨rfl, rfl, by decide, by decide⟩ rfl rfl (Nat.le_of_ble_eq_true rfl) dX6_readOn_18 ?_
  exact g_iretR C Kf hR dX6_readOn_21 hf
abbrev rmX6_card : Room := { frames := 3, cells := 0, slots := 0, locals := 70 }
set_option maxHeartbeats 4000000 in
set_option maxRecDepth 100000 in
theorem mX6_card {K : Kx} (hK0 : isKM K) (l : Launch) (σ : St) (x1 : Int32) (x2 : Int32)  (r : Int32) (σ' : St) (hf : f6_card σ x1 x2 = some (r, σ')) : mC K l yX6_card cX6_card 3 (some .int) rmX6_card [.ref (K.2.1 0), .int x1, .int x2] σ (some (.int r)) σ' := by
  refine g_entry (own := RX6) rfl (by decide +kernel) (Nat.le_of_ble_eq_true rfl) (fun X hX C Kf hR => ?_)
  subst hX
  unfold f6_card at hf
  show gG X σ 0 [(0, .ref (K.2.1 0)), (1, .int x1), (2, .int x2)] []
  refine g_aload_n C 0 dX6_card_0 rfl ?_
  refine g_iload_n C 1 dX6_card_1 rfl ?_
  obtain ⟨r_2, h_1, hf⟩ := b1_some hf
  refine g_cV_i C Kf [.int x1] (mX6_isCard hK0 X.1.2.1 σ x1 r_2 h_1) mi_X6_isCard (qO_X6 hK0) rfl km_X6_134 ⟨rfl, rfl, by decide, by decide⟩ rfl rfl (Nat.le_of_ble_eq_true rfl) dX6_card_2 ?_
  refine g_if_eq C 20 dX6_card_5 (by decide) hf (fun hf => ?_) (fun hf => ?_)
  · refine g_iconst (v := (-1)) C dX6_card_20 (by decide) ?_
    exact g_iretP C Kf hR dX6_card_21 hf
  · refine g_iload_n C 2 dX6_card_8 rfl ?_
    refine g_i2l C dX6_card_9 ?_
    refine g_lconst (v := 0) C dX6_card_10 (by decide) ?_
    refine g_ldc2 (v := 7) C dX6_card_11 kl_X6_137 ?_
    obtain ⟨r_4, h_3, hf⟩ := b1_some hf
    refine g_cS_i C Kf [.long (x2.toInt64), .long 0, .long 7] (mX6_in hK0 X.1.2.1 σ (x2.toInt64) 0 7 r_4 h_3) mi_X6_in km_X6_69 ⟨rfl, rfl, by decide, by decide⟩ rfl rfl (Nat.le_of_ble_eq_true rfl) dX6_card_14 ?_
    refine g_if_ne C 22 dX6_card_17 (by decide) hf (fun hf => ?_) (fun hf => ?_)
    · refine g_aload_n C 0 dX6_card_22 rfl ?_
      refine g_iload_n C 2 dX6_card_23 rfl ?_
      refine g_jn hf (fun j_6 ej_8 hf => ?_)
      have HJ_7 : ∀ (y_5 : Int32), j_6 y_5 = some (r, σ') → gG X σ 87 [] [.int y_5, .ref (K.2.1 0)] := by
        intro y_5 hf
        rw [ej_8] at hf
        obtain ⟨r_10, σ_11, h_9, hf⟩ := b2_some hf
        refine g_cV_i C Kf [.int y_5] (mX6_tell hK0 X.1.2.1 σ y_5 r_10 σ_11 h_9) mi_X6_tell (qO_X6 hK0) rfl km_X6_83 ⟨rfl, rfl, by decide, by decide⟩ rfl rfl (Nat.le_of_ble_eq_true rfl) dX6_card_87 ?_
        exact g_iretP C Kf hR dX6_card_90 hf
      refine g_if_ne C 36 dX6_card_24 (by decide) hf (fun hf => ?_) (fun hf => ?_)
      · refine g_iload_n C 2 dX6_card_36 rfl ?_
        refine g_iconst (v := 4) C dX6_card_37 (by decide) ?_
        refine g_icmp_ge C 59 dX6_card_38 (by decide) hf (fun hf => ?_) (fun hf => ?_)
        · refine g_iload_n C 2 dX6_card_59 rfl ?_
          refine g_iconst (v := 4) C dX6_card_60 (by decide) ?_
          refine g_icmp_ne C 75 dX6_card_61 (by decide) hf (fun hf => ?_) (fun hf => ?_)
          · refine g_aload_n C 0 dX6_card_75 rfl ?_
            refine g_aload_n C 0 dX6_card_76 rfl ?_
            refine g_getR C Kf cl_X6 (qF_X6_6 hK0) (by decide) dX6_card_77 kf_X6_25 ?_
            refine g_iload_n C 1 dX6_card_80 rfl ?_
            refine g_iload_n C 2 dX6_card_81 rfl ?_
            refine g_iconst (v := 5) C dX6_card_82 (by decide) ?_
            refine g_isub C dX6_card_83 ?_
            obtain ⟨r_13, h_12, hf⟩ := b1_some hf
            refine g_cV_i C Kf [.ref (K.2.1 6), .int x1, .int (x2 - 5)] (mX6_readOn hK0 X.1.2.1 σ 6 x1 (x2 - 5) (by decide) r_13 h_12) mi_X6_readOn (qO_X6 hK0) rfl km_X6_126 ⟨rfl, rfl, by decide, by decide⟩ rfl rfl (Nat.le_of_ble_eq_true rfl) dX6_card_84 ?_
            refine g_cut [] rfl ?_
            exact HJ_7 _ hf
          · refine g_aload_n C 0 dX6_card_64 rfl ?_
            refine g_getR C Kf cl_X6 (qF_X6_6 hK0) (by decide) dX6_card_65 kf_X6_25 ?_
            refine g_iload_n C 1 dX6_card_68 rfl ?_
            obtain ⟨r_15, h_14, hf⟩ := b1_some hf
            refine g_cS_i C Kf [.ref (K.2.1 6), .int x1] (mX6_placeOf hK0 X.1.2.1 σ 6 x1 (by decide) r_15 h_14) mi_X6_placeOf km_X6_139 ⟨rfl, rfl, by decide, by decide⟩ rfl rfl (Nat.le_of_ble_eq_true rfl) dX6_card_69 ?_
            refine g_goto C 87 dX6_card_72 (by decide) ?_
            refine g_cut [] rfl ?_
            exact HJ_7 _ hf
        · refine g_aload_n C 0 dX6_card_41 rfl ?_
          refine g_getR C Kf cl_X6 (qF_X6_6 hK0) (by decide) dX6_card_42 kf_X6_25 ?_
          refine g_bipush (v := 6) C dX6_card_45 (by decide) ?_
          refine g_iconst (v := 3) C dX6_card_47 (by decide) ?_
          refine g_iload_n C 1 dX6_card_48 rfl ?_
          refine g_imul C dX6_card_49 ?_
          refine g_iadd C dX6_card_50 ?_
          refine g_iload_n C 2 dX6_card_51 rfl ?_
          refine g_iadd C dX6_card_52 ?_
          refine g_iconst (v := 1) C dX6_card_53 (by decide) ?_
          refine g_isub C dX6_card_54 ?_
          refine g_iald C Kf (qAM_6 hK0) dX6_card_55 hf (fun hf => ?_)
          refine g_goto C 87 dX6_card_56 (by decide) ?_
          refine g_cut [] rfl ?_
          exact HJ_7 _ hf
      · refine g_aload_n C 0 dX6_card_27 rfl ?_
        refine g_getR C Kf cl_X6 (qF_X6_5 hK0) (by decide) dX6_card_28 kf_X6_22 ?_
        refine g_iload_n C 1 dX6_card_31 rfl ?_
        refine g_iald C Kf (qAM_5 hK0) dX6_card_32 hf (fun hf => ?_)
        refine g_goto C 87 dX6_card_33 (by decide) ?_
        refine g_cut [] rfl ?_
        exact HJ_7 _ hf
    · refine g_iconst (v := (-1)) C dX6_card_20 (by decide) ?_
      exact g_iretP C Kf hR dX6_card_21 hf
abbrev rmX6_isColumn : Room := { frames := 1, cells := 0, slots := 0, locals := 25 }
set_option maxHeartbeats 4000000 in
set_option maxRecDepth 100000 in
theorem mX6_isColumn {K : Kx} (hK0 : isKM K) (l : Launch) (σ : St) (x0 : Int32)  (r : Int32) (hf : f6_isColumn x0 = some r) : mC K l yX6_isColumn cX6_isColumn 1 (some .boolean) rmX6_isColumn [.int x0] σ (some (.int r)) σ := by
  refine g_entry (own := RX6) rfl (by decide +kernel) (Nat.le_of_ble_eq_true rfl) (fun X hX C Kf hR => ?_)
  subst hX
  unfold f6_isColumn at hf
  show gG X σ 0 [(0, .int x0)] []
  refine g_iload_n C 0 dX6_isColumn_0 rfl ?_
  refine g_i2l C dX6_isColumn_1 ?_
  refine g_lconst (v := 0) C dX6_isColumn_2 (by decide) ?_
  refine g_ldc2 (v := 2) C dX6_isColumn_3 kl_X6_112 ?_
  obtain ⟨r_2, h_1, hf⟩ := b1_some hf
  refine g_cS_i C Kf [.long (x0.toInt64), .long 0, .long 2] (mX6_in hK0 X.1.2.1 σ (x0.toInt64) 0 2 r_2 h_1) mi_X6_in km_X6_69 ⟨rfl, rfl, by decide, by decide⟩ rfl rfl (Nat.le_of_ble_eq_true rfl) dX6_isColumn_6 ?_
  exact g_zretRB C Kf hR dX6_isColumn_9 hf
abbrev rmX6_copies : Room := { frames := 0, cells := 0, slots := 0, locals := 0 }
set_option maxHeartbeats 4000000 in
set_option maxRecDepth 100000 in
theorem wL6_copies_3 {X : Gx St} {K : Kx} (hK0 : isKM K) (σ : St) (a0 : Nat) (a2 : Nat) (ha0 : 0 < lnM a0) (ha2 : 0 < lnM a2) (x1 : Int32) (x3 : Int32) (x4 : Int32) (σ' : St) (C : gF X cX6_copies RX6 none 6 rmX6_copies) (Kf : kF X K) (hR : gR X K none σ') (k : St → Option (St)) (Hk : ∀ (σ_5 : St), k σ_5 = some σ' → gG X σ_5 28 [] []) : ∀ (n : Nat) (x5_1 : Int32) (σ_2 : St), L6_copies_3 a0 a2 x1 x3 x4 k n x5_1 σ_2 = some σ' → gG X σ_2 3 [(0, .ref (K.2.1 a0)), (1, .int x1), (2, .ref (K.2.1 a2)), (3, .int x3), (4, .int x4), (5, .int x5_1)] [] := by
  intro n
  induction n with
  | zero => intro _ _ hf; unfold L6_copies_3 at hf; cases hf
  | succ n ih =>
  intro x5_1 σ_2 hf
  unfold L6_copies_3 at hf
  refine g_iload C 5 dX6_copies_3 rfl ?_
  refine g_iload C 4 dX6_copies_5 rfl ?_
  refine g_icmp_ge C 28 dX6_copies_7 (by decide) hf (fun hf => ?_) (fun hf => ?_)
  · refine g_cut [] rfl ?_
    exact Hk _ hf
  · refine g_aload_n C 2 dX6_copies_10 rfl ?_
    refine g_iload_n C 3 dX6_copies_11 rfl ?_
    refine g_iload C 5 dX6_copies_12 rfl ?_
    refine g_iadd C dX6_copies_14 ?_
    refine g_aload_n C 0 dX6_copies_15 rfl ?_
    refine g_iload_n C 1 dX6_copies_16 rfl ?_
    refine g_iload C 5 dX6_copies_17 rfl ?_
    refine g_iadd C dX6_copies_19 ?_
    refine g_iald C Kf (qAM hK0 ha0) dX6_copies_20 hf (fun hf => ?_)
    refine g_iast C Kf (qAM hK0 ha2) dX6_copies_21 hf (fun σ_3 hf => ?_)
    refine g_iinc (d := 1) C 5 (fun x5_4 => [(5, .int x5_4), (0, .ref (K.2.1 a0)), (1, .int x1), (2, .ref (K.2.1 a2)), (3, .int x3), (4, .int x4)]) dX6_copies_22 rfl (by decide) (by decide) (fun _ => rfl) hf (fun x5_4 hf => ?_)
    refine g_goto C 3 dX6_copies_25 (by decide) ?_
    refine g_cut [1, 2, 3, 4, 5, 0] rfl ?_
    exact ih _ _ hf
set_option maxHeartbeats 4000000 in
set_option maxRecDepth 100000 in
theorem mX6_copies {K : Kx} (hK0 : isKM K) (l : Launch) (σ : St) (a0 : Nat) (x1 : Int32) (a2 : Nat) (x3 : Int32) (x4 : Int32) (ha0 : 0 < lnM a0) (ha2 : 0 < lnM a2) (σ' : St) (hf : f6_copies σ a0 x1 a2 x3 x4 = some σ') : mC K l yX6_copies cX6_copies 6 none rmX6_copies [.ref (K.2.1 a0), .int x1, .ref (K.2.1 a2), .int x3, .int x4] σ none σ' := by
  refine g_entry (own := RX6) rfl (by decide +kernel) (Nat.le_of_ble_eq_true rfl) (fun X hX C Kf hR => ?_)
  subst hX
  unfold f6_copies at hf
  show gG X σ 0 [(0, .ref (K.2.1 a0)), (1, .int x1), (2, .ref (K.2.1 a2)), (3, .int x3), (4, .int x4)] []
  refine g_iconst (v := 0) C dX6_copies_0 (by decide) ?_
  refine g_istore C [(5, .int 0), (0, .ref (K.2.1 a0)), (1, .int x1), (2, .ref (K.2.1 a2)), (3, .int x3), (4, .int x4)] dX6_copies_1 (by decide) rfl ?_
  refine g_cut [1, 2, 3, 4, 5, 0] rfl ?_
  refine wL6_copies_3 hK0 σ a0 a2 ha0 ha2 x1 x3 x4 _ C Kf hR _ (fun σ_6 hf => ?_) _ _ _ hf
  exact g_vretP C Kf hR dX6_copies_28 hf
abbrev rmX6_laysAside : Room := { frames := 1, cells := 0, slots := 0, locals := 25 }
set_option maxHeartbeats 4000000 in
set_option maxRecDepth 100000 in
theorem mX6_laysAside {K : Kx} (hK0 : isKM K) (l : Launch) (σ : St)   (σ' : St) (hf : f6_laysAside σ = some σ') : mC K l yX6_laysAside cX6_laysAside 1 none rmX6_laysAside [.ref (K.2.1 0)] σ none σ' := by
  refine g_entry (own := RX6) rfl (by decide +kernel) (Nat.le_of_ble_eq_true rfl) (fun X hX C Kf hR => ?_)
  subst hX
  unfold f6_laysAside at hf
  show gG X σ 0 [(0, .ref (K.2.1 0))] []
  refine g_aload_n C 0 dX6_laysAside_0 rfl ?_
  refine g_getR C Kf cl_X6 (qF_X6_6 hK0) (by decide) dX6_laysAside_1 kf_X6_25 ?_
  refine g_iconst (v := 0) C dX6_laysAside_4 (by decide) ?_
  refine g_aload_n C 0 dX6_laysAside_5 rfl ?_
  refine g_getR C Kf cl_X6 (qF_X6_7 hK0) (by decide) dX6_laysAside_6 kf_X6_28 ?_
  refine g_iconst (v := 0) C dX6_laysAside_9 (by decide) ?_
  refine g_bipush (v := 25) C dX6_laysAside_10 (by decide) ?_
  obtain ⟨σ_2, h_1, hf⟩ := b1_some hf
  refine g_cS_v C Kf [.ref (K.2.1 6), .int 0, .ref (K.2.1 7), .int 0, .int 25] (mX6_copies hK0 X.1.2.1 σ 6 0 7 0 25 (by decide) (by decide) σ_2 h_1) mi_X6_copies km_X6_105 ⟨rfl, rfl, by decide, by decide⟩ rfl rfl (Nat.le_of_ble_eq_true rfl) dX6_laysAside_12 ?_
  exact g_vretP C Kf hR dX6_laysAside_15 hf
abbrev rmX6_has : Room := { frames := 0, cells := 0, slots := 0, locals := 0 }
set_option maxHeartbeats 4000000 in
set_option maxRecDepth 100000 in
theorem mX6_has {K : Kx} (hK0 : isKM K) (l : Launch) (σ : St) (x0 : Int32) (x1 : Int32)  (r : Int32) (hf : f6_has x0 x1 = some r) : mC K l yX6_has cX6_has 2 (some .boolean) rmX6_has [.int x0, .int x1] σ (some (.int r)) σ := by
  refine g_entry (own := RX6) rfl (by decide +kernel) (Nat.le_of_ble_eq_true rfl) (fun X hX C Kf hR => ?_)
  subst hX
  unfold f6_has at hf
  show gG X σ 0 [(0, .int x0), (1, .int x1)] []
  refine g_iload_n C 0 dX6_has_0 rfl ?_
  refine g_iload_n C 1 dX6_has_1 rfl ?_
  refine g_ishr C dX6_has_2 ?_
  refine g_iconst (v := 1) C dX6_has_3 (by decide) ?_
  refine g_iand C dX6_has_4 ?_
  refine g_iconst (v := 1) C dX6_has_5 (by decide) ?_
  refine g_icmp_ne C 13 dX6_has_6 (by decide) hf (fun hf => ?_) (fun hf => ?_)
  · refine g_iconst (v := 0) C dX6_has_13 (by decide) ?_
    exact g_zretR C Kf hR (Or.inl rfl) dX6_has_14 hf
  · refine g_iconst (v := 1) C dX6_has_9 (by decide) ?_
    refine g_goto C 14 dX6_has_10 (by decide) ?_
    exact g_zretR C Kf hR (Or.inr rfl) dX6_has_14 hf
abbrev rmX6_falls : Room := { frames := 3, cells := 0, slots := 0, locals := 70 }
set_option maxHeartbeats 4000000 in
set_option maxRecDepth 100000 in
theorem wL6_falls_24 {X : Gx St} {K : Kx} (hK0 : isKM K) (σ : St) (a1 : Nat) (ha1 : 0 < lnM a1) (x2 : Int32) (x3 : Int32) (x5 : Int32) (x6 : Int32) (σ' : St) (C : gF X cX6_falls RX6 none 10 rmX6_falls) (Kf : kF X K) (hR : gR X K none σ') (k : Int32 → St → Option (St)) (Hk : ∀ (x4_11 : Int32) (σ_37 : St), k x4_11 σ_37 = some σ' → gG X σ_37 118 [(0, .ref (K.2.1 0)), (1, .ref (K.2.1 a1)), (2, .int x2), (3, .int x3), (4, .int x4_11), (5, .int x5), (6, .int x6)] []) : ∀ (n : Nat) (x4_8 : Int32) (x7_9 : Int32) (σ_10 : St), L6_falls_24 a1 x2 x3 x5 x6 k n x4_8 x7_9 σ_10 = some σ' → gG X σ_10 24 [(0, .ref (K.2.1 0)), (1, .ref (K.2.1 a1)), (2, .int x2), (3, .int x3), (4, .int x4_8), (5, .int x5), (6, .int x6), (7, .int x7_9)] [] := by
  intro n
  induction n with
  | zero => intro _ _ _ hf; unfold L6_falls_24 at hf; cases hf
  | succ n ih =>
  intro x4_8 x7_9 σ_10 hf
  unfold L6_falls_24 at hf
  refine g_iload C 7 dX6_falls_24 rfl ?_
  refine g_aload_n C 0 dX6_falls_26 rfl ?_
  refine g_getI C Kf cl_X6 (qF_X6_4 hK0) (by decide) dX6_falls_27 kf_X6_102 ?_
  refine g_icmp_ge C 118 dX6_falls_30 (by decide) hf (fun hf => ?_) (fun hf => ?_)
  · refine g_cut [0, 1, 2, 3, 4, 5, 6] rfl ?_
    exact Hk _ _ hf
  · refine g_aload_n C 1 dX6_falls_33 rfl ?_
    refine g_iload C 7 dX6_falls_34 rfl ?_
    refine g_iald C Kf (qAM hK0 ha1) dX6_falls_36 hf (fun hf => ?_)
    refine g_istoreB C (fun x8_12 => [(8, .int x8_12), (0, .ref (K.2.1 0)), (1, .ref (K.2.1 a1)), (2, .int x2), (3, .int x3), (4, .int x4_8), (5, .int x5), (6, .int x6), (7, .int x7_9)]) dX6_falls_37 (by decide) (fun _ => rfl) hf (fun x8_12 hf => ?_)
    refine g_iload_n C 4 dX6_falls_39 rfl ?_
    refine g_iload C 0 dX6_falls_40 rfl ?_
    obtain ⟨r_14, h_13, hf⟩ := b1_some hf
    refine g_cS_i C Kf [.int x3, .int x8_12] (mX6_has hK0 X.1.2.1 σ_10 x3 x8_12 r_14 h_13) mi_X6_has km_X6_122 ⟨rfl, rfl, by decide, by decide⟩ rfl rfl (Nat.le_of_ble_eq_true rfl) dX6_falls_42 ?_
    refine g_jn hf (fun j_16 ej_18 hf => ?_)
    have HJ_17 : ∀ (y_15 : Int32), j_16 y_15 = some σ' → gG X σ_10 61 [(0, .ref (K.2.1 0)), (1, .ref (K.2.1 a1)), (2, .int x2), (3, .int x3), (4, .int x4_8), (5, .int x5), (6, .int x6), (7, .int x7_9), (8, .int x8_12)] [.int y_15] := by
      intro y_15 hf
      rw [ej_18] at hf
      refine g_istore C [(9, .int y_15), (0, .ref (K.2.1 0)), (1, .ref (K.2.1 a1)), (2, .int x2), (3, .int x3), (4, .int x4_8), (5, .int x5), (6, .int x6), (7, .int x7_9), (8, .int x8_12)] dX6_falls_61 (by decide) rfl ?_
      refine g_iload C 0 dX6_falls_63 rfl ?_
      refine g_iload C 6 dX6_falls_65 rfl ?_
      refine g_jn hf (fun j_21 ej_23 hf => ?_)
      have HJ_22 : ∀ (x4_19 : Int32) (σ_20 : St), j_21 x4_19 σ_20 = some σ' → gG X σ_20 112 [(0, .ref (K.2.1 0)), (1, .ref (K.2.1 a1)), (2, .int x2), (3, .int x3), (4, .int x4_19), (5, .int x5), (6, .int x6), (7, .int x7_9)] [] := by
        intro x4_19 σ_20 hf
        rw [ej_23] at hf
        refine g_iinc (d := 1) C 7 (fun x7_24 => [(7, .int x7_24), (0, .ref (K.2.1 0)), (1, .ref (K.2.1 a1)), (2, .int x2), (3, .int x3), (4, .int x4_19), (5, .int x5), (6, .int x6)]) dX6_falls_112 rfl (by decide) (by decide) (fun _ => rfl) hf (fun x7_24 hf => ?_)
        refine g_goto C 24 dX6_falls_115 (by decide) ?_
        refine g_cut [1, 2, 3, 4, 5, 6, 7, 0] rfl ?_
        exact ih _ _ _ hf
      refine g_icmp_ne C 112 dX6_falls_67 (by decide) hf (fun hf => ?_) (fun hf => ?_)
      · refine g_cut [1, 2, 3, 4, 5, 6, 7, 8] rfl ?_
        exact HJ_22 _ _ hf
      · refine g_aload_n C 1 dX6_falls_70 rfl ?_
        refine g_getR C Kf cl_X6 (qF_X6_5 hK0) (by decide) dX6_falls_71 kf_X6_22 ?_
        refine g_iload C 9 dX6_falls_74 rfl ?_
        refine g_iald C Kf (qAM_5 hK0) dX6_falls_76 hf (fun hf => ?_)
        refine g_iconst (v := 5) C dX6_falls_77 (by decide) ?_
        refine g_jn hf (fun j_26 ej_28 hf => ?_)
        have HJ_27 : ∀ (y_25 : Int32), j_26 y_25 = some σ' → gG X σ_10 86 [(0, .ref (K.2.1 0)), (1, .ref (K.2.1 a1)), (2, .int x2), (3, .int x3), (4, .int x4_8), (5, .int x5), (6, .int x6), (7, .int x7_9), (8, .int x8_12)] [.int y_25] := by
          intro y_25 hf
          rw [ej_28] at hf
          refine g_iload C 6 dX6_falls_86 rfl ?_
          refine g_iconst (v := 1) C dX6_falls_88 (by decide) ?_
          refine g_jn hf (fun j_30 ej_32 hf => ?_)
          have HJ_31 : ∀ (y_29 : Int32), j_30 y_29 = some σ' → gG X σ_10 97 [(0, .ref (K.2.1 0)), (1, .ref (K.2.1 a1)), (2, .int x2), (3, .int x3), (4, .int x4_8), (5, .int x5), (6, .int x6), (7, .int x7_9), (8, .int x8_12)] [.int y_29, .int y_25] := by
            intro y_29 hf
            rw [ej_32] at hf
            refine g_icmp_ne C 112 dX6_falls_97 (by decide) hf (fun hf => ?_) (fun hf => ?_)
            · refine g_cut [0, 1, 2, 3, 4, 5, 6, 7] rfl ?_
              exact HJ_22 _ _ hf
            · refine g_aload_n C 0 dX6_falls_100 rfl ?_
              refine g_getR C Kf cl_X6 (qF_X6_20 hK0) (by decide) dX6_falls_101 kf_X6_54 ?_
              refine g_iload C 4 dX6_falls_104 rfl ?_
              refine g_iload C 8 dX6_falls_106 rfl ?_
              refine g_iast C Kf (qAM_14 hK0) dX6_falls_108 hf (fun σ_33 hf => ?_)
              refine g_iinc (d := 1) C 4 (fun x4_34 => [(4, .int x4_34), (0, .ref (K.2.1 0)), (1, .ref (K.2.1 a1)), (2, .int x2), (3, .int x3), (5, .int x5), (6, .int x6), (7, .int x7_9), (8, .int x8_12)]) dX6_falls_109 rfl (by decide) (by decide) (fun _ => rfl) hf (fun x4_34 hf => ?_)
              refine g_cut [1, 2, 3, 4, 0, 5, 6, 7] rfl ?_
              exact HJ_22 _ _ hf
          refine g_icmp_ne C 96 dX6_falls_89 (by decide) hf (fun hf => ?_) (fun hf => ?_)
          · refine g_iconst (v := 0) C dX6_falls_96 (by decide) ?_
            exact HJ_31 _ hf
          · refine g_iconst (v := 1) C dX6_falls_92 (by decide) ?_
            refine g_goto C 97 dX6_falls_93 (by decide) ?_
            exact HJ_31 _ hf
        refine g_icmp_ne C 85 dX6_falls_78 (by decide) hf (fun hf => ?_) (fun hf => ?_)
        · refine g_iconst (v := 0) C dX6_falls_85 (by decide) ?_
          refine g_cut [1, 2, 3, 4, 5, 6, 7, 8, 9] rfl ?_
          exact HJ_27 _ hf
        · refine g_iconst (v := 1) C dX6_falls_81 (by decide) ?_
          refine g_goto C 86 dX6_falls_82 (by decide) ?_
          refine g_cut [1, 2, 3, 4, 5, 6, 7, 8, 9] rfl ?_
          exact HJ_27 _ hf
    refine g_if_eq C 53 dX6_falls_45 (by decide) hf (fun hf => ?_) (fun hf => ?_)
    · refine g_aload_n C 1 dX6_falls_53 rfl ?_
      refine g_aload_n C 2 dX6_falls_54 rfl ?_
      refine g_iload C 0 dX6_falls_55 rfl ?_
      refine g_iload_n C 3 dX6_falls_57 rfl ?_
      obtain ⟨r_36, h_35, hf⟩ := b1_some hf
      refine g_cV_i C Kf [.ref (K.2.1 a1), .int x8_12, .int x2] (mX6_readOn hK0 X.1.2.1 σ_10 a1 x8_12 x2 (ha1) r_36 h_35) mi_X6_readOn (qO_X6 hK0) rfl km_X6_126 ⟨rfl, rfl, by decide, by decide⟩ rfl rfl (Nat.le_of_ble_eq_true rfl) dX6_falls_58 ?_
      refine g_cut [1, 2, 3, 4, 5, 6, 7, 8, 0] rfl ?_
      exact HJ_17 _ hf
    · refine g_bipush (v := 10) C dX6_falls_48 (by decide) ?_
      refine g_goto C 61 dX6_falls_50 (by decide) ?_
      refine g_cut [1, 2, 3, 4, 5, 6, 7, 8, 0] rfl ?_
      exact HJ_17 _ hf
set_option maxHeartbeats 4000000 in
set_option maxRecDepth 100000 in
theorem wL6_falls_16 {X : Gx St} {K : Kx} (hK0 : isKM K) (σ : St) (a1 : Nat) (ha1 : 0 < lnM a1) (x2 : Int32) (x3 : Int32) (x5 : Int32) (σ' : St) (C : gF X cX6_falls RX6 none 10 rmX6_falls) (Kf : kF X K) (hR : gR X K none σ') (k : Int32 → St → Option (St)) (Hk : ∀ (x4_7 : Int32) (σ_41 : St), k x4_7 σ_41 = some σ' → gG X σ_41 124 [(0, .ref (K.2.1 0)), (1, .ref (K.2.1 a1)), (2, .int x2), (3, .int x3), (4, .int x4_7), (5, .int x5)] []) : ∀ (n : Nat) (x4_4 : Int32) (x6_5 : Int32) (σ_6 : St), L6_falls_16 a1 x2 x3 x5 k n x4_4 x6_5 σ_6 = some σ' → gG X σ_6 16 [(0, .ref (K.2.1 0)), (1, .ref (K.2.1 a1)), (2, .int x2), (3, .int x3), (4, .int x4_4), (5, .int x5), (6, .int x6_5)] [] := by
  intro n
  induction n with
  | zero => intro _ _ _ hf; unfold L6_falls_16 at hf; cases hf
  | succ n ih =>
  intro x4_4 x6_5 σ_6 hf
  unfold L6_falls_16 at hf
  refine g_iload C 6 dX6_falls_16 rfl ?_
  refine g_if_lt C 124 dX6_falls_18 (by decide) hf (fun hf => ?_) (fun hf => ?_)
  · refine g_cut [0, 1, 2, 3, 4, 5] rfl ?_
    exact Hk _ _ hf
  · refine g_iconst (v := 0) C dX6_falls_21 (by decide) ?_
    refine g_istore C [(7, .int 0), (0, .ref (K.2.1 0)), (1, .ref (K.2.1 a1)), (2, .int x2), (3, .int x3), (4, .int x4_4), (5, .int x5), (6, .int x6_5)] dX6_falls_22 (by decide) rfl ?_
    refine g_cut [1, 2, 3, 4, 5, 6, 7, 0] rfl ?_
    refine wL6_falls_24 hK0 σ_6 a1 ha1 x2 x3 x5 x6_5 _ C Kf hR _ (fun x4_38 σ_39 hf => ?_) _ _ _ _ hf
    refine g_iinc (d := (-1)) C 6 (fun x6_40 => [(6, .int x6_40), (0, .ref (K.2.1 0)), (1, .ref (K.2.1 a1)), (2, .int x2), (3, .int x3), (4, .int x4_38), (5, .int x5)]) dX6_falls_118 rfl (by decide) (by decide) (fun _ => rfl) hf (fun x6_40 hf => ?_)
    refine g_goto C 16 dX6_falls_121 (by decide) ?_
    refine g_cut [1, 2, 3, 4, 5, 6, 0] rfl ?_
    exact ih _ _ _ hf
set_option maxHeartbeats 4000000 in
set_option maxRecDepth 100000 in
theorem wL6_falls_6 {X : Gx St} {K : Kx} (hK0 : isKM K) (σ : St) (a1 : Nat) (ha1 : 0 < lnM a1) (x2 : Int32) (x3 : Int32) (σ' : St) (C : gF X cX6_falls RX6 none 10 rmX6_falls) (Kf : kF X K) (hR : gR X K none σ') (k : St → Option (St)) (Hk : ∀ (σ_45 : St), k σ_45 = some σ' → gG X σ_45 130 [(0, .ref (K.2.1 0)), (1, .ref (K.2.1 a1))] []) : ∀ (n : Nat) (x4_1 : Int32) (x5_2 : Int32) (σ_3 : St), L6_falls_6 a1 x2 x3 k n x4_1 x5_2 σ_3 = some σ' → gG X σ_3 6 [(0, .ref (K.2.1 0)), (1, .ref (K.2.1 a1)), (2, .int x2), (3, .int x3), (4, .int x4_1), (5, .int x5_2)] [] := by
  intro n
  induction n with
  | zero => intro _ _ _ hf; unfold L6_falls_6 at hf; cases hf
  | succ n ih =>
  intro x4_1 x5_2 σ_3 hf
  unfold L6_falls_6 at hf
  refine g_iload C 5 dX6_falls_6 rfl ?_
  refine g_bipush (v := 11) C dX6_falls_8 (by decide) ?_
  refine g_icmp_ge C 130 dX6_falls_10 (by decide) hf (fun hf => ?_) (fun hf => ?_)
  · refine g_cut [0, 1] rfl ?_
    exact Hk _ hf
  · refine g_iconst (v := 1) C dX6_falls_13 (by decide) ?_
    refine g_istore C [(6, .int 1), (0, .ref (K.2.1 0)), (1, .ref (K.2.1 a1)), (2, .int x2), (3, .int x3), (4, .int x4_1), (5, .int x5_2)] dX6_falls_14 (by decide) rfl ?_
    refine g_cut [1, 2, 3, 4, 5, 6, 0] rfl ?_
    refine wL6_falls_16 hK0 σ_3 a1 ha1 x2 x3 x5_2 _ C Kf hR _ (fun x4_42 σ_43 hf => ?_) _ _ _ _ hf
    refine g_iinc (d := 1) C 5 (fun x5_44 => [(5, .int x5_44), (0, .ref (K.2.1 0)), (1, .ref (K.2.1 a1)), (2, .int x2), (3, .int x3), (4, .int x4_42)]) dX6_falls_124 rfl (by decide) (by decide) (fun _ => rfl) hf (fun x5_44 hf => ?_)
    refine g_goto C 6 dX6_falls_127 (by decide) ?_
    refine g_cut [1, 2, 3, 4, 5, 0] rfl ?_
    exact ih _ _ _ hf
set_option maxHeartbeats 4000000 in
set_option maxRecDepth 100000 in
theorem mX6_falls {K : Kx} (hK0 : isKM K) (l : Launch) (σ : St) (a1 : Nat) (x2 : Int32) (x3 : Int32) (ha1 : 0 < lnM a1) (σ' : St) (hf : f6_falls σ a1 x2 x3 = some σ') : mC K l yX6_falls cX6_falls 10 none rmX6_falls [.ref (K.2.1 0), .ref (K.2.1 a1), .int x2, .int x3] σ none σ' := by
  refine g_entry (own := RX6) rfl (by decide +kernel) (Nat.le_of_ble_eq_true rfl) (fun X hX C Kf hR => ?_)
  subst hX
  unfold f6_falls at hf
  show gG X σ 0 [(0, .ref (K.2.1 0)), (1, .ref (K.2.1 a1)), (2, .int x2), (3, .int x3)] []
  refine g_iconst (v := 0) C dX6_falls_0 (by decide) ?_
  refine g_istore C [(4, .int 0), (0, .ref (K.2.1 0)), (1, .ref (K.2.1 a1)), (2, .int x2), (3, .int x3)] dX6_falls_1 (by decide) rfl ?_
  refine g_iconst (v := 0) C dX6_falls_3 (by decide) ?_
  refine g_istore C [(5, .int 0), (4, .int 0), (0, .ref (K.2.1 0)), (1, .ref (K.2.1 a1)), (2, .int x2), (3, .int x3)] dX6_falls_4 (by decide) rfl ?_
  refine g_cut [2, 3, 4, 5, 1, 0] rfl ?_
  refine wL6_falls_6 hK0 σ a1 ha1 x2 x3 _ C Kf hR _ (fun σ_46 hf => ?_) _ _ _ _ hf
  refine g_aload_n C 0 dX6_falls_130 rfl ?_
  refine g_getR C Kf cl_X6 (qF_X6_20 hK0) (by decide) dX6_falls_131 kf_X6_54 ?_
  refine g_iconst (v := 0) C dX6_falls_134 (by decide) ?_
  refine g_aload_n C 1 dX6_falls_135 rfl ?_
  refine g_iconst (v := 0) C dX6_falls_136 (by decide) ?_
  refine g_aload_n C 0 dX6_falls_137 rfl ?_
  refine g_getI C Kf cl_X6 (qF_X6_4 hK0) (by decide) dX6_falls_138 kf_X6_102 ?_
  obtain ⟨σ_48, h_47, hf⟩ := b1_some hf
  refine g_cS_v C Kf [.ref (K.2.1 14), .int 0, .ref (K.2.1 a1), .int 0, .int (σ_46.1 0 4)] (mX6_copies hK0 X.1.2.1 σ_46 14 0 a1 0 (σ_46.1 0 4) (by decide) (ha1) σ_48 h_47) mi_X6_copies km_X6_105 ⟨rfl, rfl, by decide, by decide⟩ rfl rfl (Nat.le_of_ble_eq_true rfl) dX6_falls_141 ?_
  exact g_vretP C Kf hR dX6_falls_144 hf
abbrev rmX6_weigh : Room := { frames := 1, cells := 0, slots := 0, locals := 21 }
set_option maxHeartbeats 4000000 in
set_option maxRecDepth 100000 in
theorem wL6_weigh_5 {X : Gx St} {K : Kx} (hK0 : isKM K) (σ : St) (x1 : Int32) (x2 : Int32) (r : Int64) (C : gF X cX6_weigh RX6 (some .long) 6 rmX6_weigh) (Kf : kF X K) (hR : gR X K (some (.long r)) σ) (k : Int64 → Option (Int64)) (Hk : ∀ (x3_3 : Int64), k x3_3 = some r → gG X σ 42 [(3, .long x3_3)] []) : ∀ (n : Nat) (x3_1 : Int64) (x5_2 : Int32), L6_weigh_5 σ x1 x2 k n x3_1 x5_2 = some r → gG X σ 5 [(0, .ref (K.2.1 0)), (1, .int x1), (2, .int x2), (3, .long x3_1), (5, .int x5_2)] [] := by
  intro n
  induction n with
  | zero => intro _ _ hf; unfold L6_weigh_5 at hf; cases hf
  | succ n ih =>
  intro x3_1 x5_2 hf
  unfold L6_weigh_5 at hf
  refine g_iload C 4 dX6_weigh_5 rfl ?_
  refine g_aload_n C 0 dX6_weigh_7 rfl ?_
  refine g_getI C Kf cl_X6 (qF_X6_4 hK0) (by decide) dX6_weigh_8 kf_X6_102 ?_
  refine g_icmp_ge C 42 dX6_weigh_11 (by decide) hf (fun hf => ?_) (fun hf => ?_)
  · refine g_cut [3] rfl ?_
    exact Hk _ hf
  · refine g_lload_n C 3 dX6_weigh_14 rfl ?_
    refine g_iload_n C 1 dX6_weigh_15 rfl ?_
    refine g_iload C 4 dX6_weigh_16 rfl ?_
    obtain ⟨r_5, h_4, hf⟩ := b1_some hf
    refine g_cS_i C Kf [.int x1, .int x5_2] (mX6_has hK0 X.1.2.1 σ x1 x5_2 r_5 h_4) mi_X6_has km_X6_122 ⟨rfl, rfl, by decide, by decide⟩ rfl rfl (Nat.le_of_ble_eq_true rfl) dX6_weigh_18 ?_
    refine g_jn hf (fun j_7 ej_9 hf => ?_)
    have HJ_8 : ∀ (y_6 : Int64), j_7 y_6 = some r → gG X σ 34 [(0, .ref (K.2.1 0)), (1, .int x1), (2, .int x2), (5, .int x5_2)] [.long y_6, .long x3_1] := by
      intro y_6 hf
      rw [ej_9] at hf
      refine g_lmul C dX6_weigh_34 ?_
      refine g_lstore_nB C (fun x3_10 => [(3, .long x3_10), (0, .ref (K.2.1 0)), (1, .int x1), (2, .int x2), (5, .int x5_2)]) dX6_weigh_35 rfl (by decide) (fun _ => rfl) hf (fun x3_10 hf => ?_)
      refine g_iinc (d := 1) C 4 (fun x5_11 => [(5, .int x5_11), (3, .long x3_10), (0, .ref (K.2.1 0)), (1, .int x1), (2, .int x2)]) dX6_weigh_36 rfl (by decide) (by decide) (fun _ => rfl) hf (fun x5_11 hf => ?_)
      refine g_goto C 5 dX6_weigh_39 (by decide) ?_
      refine g_cut [2, 3, 4, 1, 0] rfl ?_
      exact ih _ _ hf
    refine g_if_eq C 29 dX6_weigh_21 (by decide) hf (fun hf => ?_) (fun hf => ?_)
    · refine g_bipush (v := 12) C dX6_weigh_29 (by decide) ?_
      refine g_iload_n C 2 dX6_weigh_31 rfl ?_
      refine g_isub C dX6_weigh_32 ?_
      refine g_i2l C dX6_weigh_33 ?_
      refine g_cut [0, 1, 2, 4] rfl ?_
      exact HJ_8 _ hf
    · refine g_iload_n C 2 dX6_weigh_24 rfl ?_
      refine g_i2l C dX6_weigh_25 ?_
      refine g_goto C 34 dX6_weigh_26 (by decide) ?_
      refine g_cut [0, 1, 2, 4] rfl ?_
      exact HJ_8 _ hf
set_option maxHeartbeats 4000000 in
set_option maxRecDepth 100000 in
theorem mX6_weigh {K : Kx} (hK0 : isKM K) (l : Launch) (σ : St) (x1 : Int32) (x2 : Int32)  (r : Int64) (hf : f6_weigh σ x1 x2 = some r) : mC K l yX6_weigh cX6_weigh 6 (some .long) rmX6_weigh [.ref (K.2.1 0), .int x1, .int x2] σ (some (.long r)) σ := by
  refine g_entry (own := RX6) rfl (by decide +kernel) (Nat.le_of_ble_eq_true rfl) (fun X hX C Kf hR => ?_)
  subst hX
  unfold f6_weigh at hf
  show gG X σ 0 [(0, .ref (K.2.1 0)), (1, .int x1), (2, .int x2)] []
  refine g_lconst (v := 1) C dX6_weigh_0 (by decide) ?_
  refine g_lstore_n C [(3, .long 1), (0, .ref (K.2.1 0)), (1, .int x1), (2, .int x2)] dX6_weigh_1 rfl (by decide) rfl ?_
  refine g_iconst (v := 0) C dX6_weigh_2 (by decide) ?_
  refine g_istore C [(5, .int 0), (3, .long 1), (0, .ref (K.2.1 0)), (1, .int x1), (2, .int x2)] dX6_weigh_3 (by decide) rfl ?_
  refine g_cut [2, 3, 4, 1, 0] rfl ?_
  refine wL6_weigh_5 hK0 σ x1 x2 _ C Kf hR _ (fun x3_12 hf => ?_) _ _ _ hf
  refine g_lload_n C 0 dX6_weigh_42 rfl ?_
  exact g_lretR C Kf hR dX6_weigh_43 hf
abbrev rmX6_tellsPart : Room := { frames := 0, cells := 0, slots := 0, locals := 0 }
set_option maxHeartbeats 4000000 in
set_option maxRecDepth 100000 in
theorem wL6_tellsPart_6 {X : Gx St} {K : Kx} (hK0 : isKM K) (σ : St) (x1 : Int64) (x3 : Int64) (σ' : St) (C : gF X cX6_tellsPart RX6 none 11 rmX6_tellsPart) (Kf : kF X K) (hR : gR X K none σ') (k : Int64 → Option (St)) (Hk : ∀ (x5_3 : Int64), k x5_3 = some σ' → gG X σ 31 [(0, .ref (K.2.1 0)), (1, .long x1), (3, .long x3), (5, .long x5_3)] []) : ∀ (n : Nat) (x5_1 : Int64) (x7_2 : Int64), L6_tellsPart_6 σ x1 x3 k n x5_1 x7_2 = some σ' → gG X σ 6 [(0, .ref (K.2.1 0)), (1, .long x1), (3, .long x3), (5, .long x5_1), (7, .long x7_2)] [] := by
  intro n
  induction n with
  | zero => intro _ _ hf; unfold L6_tellsPart_6 at hf; cases hf
  | succ n ih =>
  intro x5_1 x7_2 hf
  unfold L6_tellsPart_6 at hf
  refine g_lload C 4 dX6_tellsPart_6 rfl ?_
  refine g_lconst (v := 0) C dX6_tellsPart_8 (by decide) ?_
  refine g_lcmp_eq C 31 dX6_tellsPart_9 dX6_tellsPart_10 (by decide) hf (fun hf => ?_) (fun hf => ?_)
  · refine g_cut [0, 1, 2, 3] rfl ?_
    exact Hk _ hf
  · refine g_lload C 3 dX6_tellsPart_13 rfl ?_
    refine g_lload C 4 dX6_tellsPart_15 rfl ?_
    refine g_lrem C dX6_tellsPart_17 hf (fun hf => ?_)
    refine g_lstoreB C (fun x9_4 => [(9, .long x9_4), (0, .ref (K.2.1 0)), (1, .long x1), (3, .long x3), (5, .long x5_1), (7, .long x7_2)]) dX6_tellsPart_18 (by decide) (fun _ => rfl) hf (fun x9_4 hf => ?_)
    refine g_lload C 5 dX6_tellsPart_20 rfl ?_
    refine g_lstore C [(5, .long x7_2), (9, .long x9_4), (0, .ref (K.2.1 0)), (1, .long x1), (3, .long x3), (7, .long x7_2)] dX6_tellsPart_22 (by decide) rfl ?_
    refine g_lload C 1 dX6_tellsPart_24 rfl ?_
    refine g_lstore C [(7, .long x9_4), (5, .long x7_2), (9, .long x9_4), (0, .ref (K.2.1 0)), (1, .long x1), (3, .long x3)] dX6_tellsPart_26 (by decide) rfl ?_
    refine g_goto C 6 dX6_tellsPart_28 (by decide) ?_
    refine g_cut [3, 4, 5, 1, 0] rfl ?_
    exact ih _ _ hf
set_option maxHeartbeats 4000000 in
set_option maxRecDepth 100000 in
theorem mX6_tellsPart {K : Kx} (hK0 : isKM K) (l : Launch) (σ : St) (x1 : Int64) (x3 : Int64)  (σ' : St) (hf : f6_tellsPart σ x1 x3 = some σ') : mC K l yX6_tellsPart cX6_tellsPart 11 none rmX6_tellsPart [.ref (K.2.1 0), .long x1, .long x3] σ none σ' := by
  refine g_entry (own := RX6) rfl (by decide +kernel) (Nat.le_of_ble_eq_true rfl) (fun X hX C Kf hR => ?_)
  subst hX
  unfold f6_tellsPart at hf
  show gG X σ 0 [(0, .ref (K.2.1 0)), (1, .long x1), (3, .long x3)] []
  refine g_lload_n C 1 dX6_tellsPart_0 rfl ?_
  refine g_lstore C [(5, .long x1), (0, .ref (K.2.1 0)), (1, .long x1), (3, .long x3)] dX6_tellsPart_1 (by decide) rfl ?_
  refine g_lload_n C 3 dX6_tellsPart_3 rfl ?_
  refine g_lstore C [(7, .long x3), (5, .long x1), (0, .ref (K.2.1 0)), (1, .long x1), (3, .long x3)] dX6_tellsPart_4 (by decide) rfl ?_
  refine g_cut [2, 3, 4, 1, 0] rfl ?_
  refine wL6_tellsPart_6 hK0 σ x1 x3 _ C Kf hR _ (fun x5_5 hf => ?_) _ _ _ hf
  refine g_aload_n C 0 dX6_tellsPart_31 rfl ?_
  refine g_lload_n C 1 dX6_tellsPart_32 rfl ?_
  refine g_lload C 3 dX6_tellsPart_33 rfl ?_
  refine g_ldiv C dX6_tellsPart_35 hf (fun hf => ?_)
  refine g_putL C Kf cl_X6 (qF_X6_13 hK0) (by decide) rfl rfl rfl dX6_tellsPart_36 kf_X6_202 hf (fun σ_6 hf => ?_)
  refine g_aload_n C 0 dX6_tellsPart_39 rfl ?_
  refine g_lload_n C 2 dX6_tellsPart_40 rfl ?_
  refine g_lload C 3 dX6_tellsPart_41 rfl ?_
  refine g_ldiv C dX6_tellsPart_43 hf (fun hf => ?_)
  refine g_putL C Kf cl_X6 (qF_X6_14 hK0) (by decide) rfl rfl rfl dX6_tellsPart_44 kf_X6_41 hf (fun σ_7 hf => ?_)
  exact g_vretP C Kf hR dX6_tellsPart_47 hf
