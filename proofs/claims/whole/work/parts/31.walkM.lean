abbrev rmX6_chance : Room := { frames := 4, cells := 0, slots := 0, locals := 99 }
set_option maxHeartbeats 4000000 in
set_option maxRecDepth 100000 in
theorem wL6_chance_38 {X : Gx St} {K : Kx} (hK0 : isKM K) (σ : St) (x1 : Int32) (x2 : Int32) (x3 : Int32) (x4 : Int32) (x5 : Int64) (r : Int32) (σ' : St) (C : gF X cX6_chance RX6 (some .int) 11 rmX6_chance) (Kf : kF X K) (hR : gR X K (some (.int r)) σ') (k : Int64 → Option (Int32 × St)) (Hk : ∀ (x7_9 : Int64), k x7_9 = some (r, σ') → gG X σ 61 [(0, .ref (K.2.1 0)), (1, .int x1), (2, .int x2), (3, .int x3), (4, .int x4), (5, .long x5), (7, .long x7_9)] []) : ∀ (n : Nat) (x7_7 : Int64) (x9_8 : Int32), L6_chance_38 σ x1 x2 x3 x4 x5 k n x7_7 x9_8 = some (r, σ') → gG X σ 38 [(0, .ref (K.2.1 0)), (1, .int x1), (2, .int x2), (3, .int x3), (4, .int x4), (5, .long x5), (7, .long x7_7), (9, .int x9_8)] [] := by
  intro n
  induction n with
  | zero => intro _ _ hf; unfold L6_chance_38 at hf; cases hf
  | succ n ih =>
  intro x7_7 x9_8 hf
  unfold L6_chance_38 at hf
  refine g_iload C 7 dX6_chance_38 rfl ?_
  refine g_aload_n C 0 dX6_chance_40 rfl ?_
  refine g_getI C Kf cl_X6 (qF_X6_4 hK0) (by decide) dX6_chance_41 kf_X6_102 ?_
  refine g_icmp_ge C 61 dX6_chance_44 (by decide) hf (fun hf => ?_) (fun hf => ?_)
  · refine g_cut [0, 1, 2, 3, 4, 5, 6] rfl ?_
    exact Hk _ hf
  · refine g_lload C 6 dX6_chance_47 rfl ?_
    refine g_ldc2 (v := 12) C dX6_chance_49 kl_X6_209 ?_
    refine g_lmul C dX6_chance_52 ?_
    refine g_lstoreB C (fun x7_10 => [(7, .long x7_10), (0, .ref (K.2.1 0)), (1, .int x1), (2, .int x2), (3, .int x3), (4, .int x4), (5, .long x5), (9, .int x9_8)]) dX6_chance_53 (by decide) (fun _ => rfl) hf (fun x7_10 hf => ?_)
    refine g_iinc (d := 1) C 7 (fun x9_11 => [(9, .int x9_11), (7, .long x7_10), (0, .ref (K.2.1 0)), (1, .int x1), (2, .int x2), (3, .int x3), (4, .int x4), (5, .long x5)]) dX6_chance_55 rfl (by decide) (by decide) (fun _ => rfl) hf (fun x9_11 hf => ?_)
    refine g_goto C 38 dX6_chance_58 (by decide) ?_
    refine g_cut [2, 3, 4, 5, 6, 7, 1, 0] rfl ?_
    exact ih _ _ hf
set_option maxHeartbeats 4000000 in
set_option maxRecDepth 100000 in
theorem wL6_chance_64 {X : Gx St} {K : Kx} (hK0 : isKM K) (σ : St) (x1 : Int32) (x2 : Int32) (x3 : Int32) (x4 : Int32) (x7 : Int64) (r : Int32) (σ' : St) (C : gF X cX6_chance RX6 (some .int) 11 rmX6_chance) (Kf : kF X K) (hR : gR X K (some (.int r)) σ') (k : Int64 → St → Option (Int32 × St)) (Hk : ∀ (x5_16 : Int64) (σ_31 : St), k x5_16 σ_31 = some (r, σ') → gG X σ_31 140 [(0, .ref (K.2.1 0)), (5, .long x5_16), (7, .long x7)] []) : ∀ (n : Nat) (x5_13 : Int64) (x9_14 : Int32) (σ_15 : St), L6_chance_64 x1 x2 x3 x4 x7 k n x5_13 x9_14 σ_15 = some (r, σ') → gG X σ_15 64 [(0, .ref (K.2.1 0)), (1, .int x1), (2, .int x2), (3, .int x3), (4, .int x4), (5, .long x5_13), (7, .long x7), (9, .int x9_14)] [] := by
  intro n
  induction n with
  | zero => intro _ _ _ hf; unfold L6_chance_64 at hf; cases hf
  | succ n ih =>
  intro x5_13 x9_14 σ_15 hf
  unfold L6_chance_64 at hf
  refine g_iload C 7 dX6_chance_64 rfl ?_
  refine g_iconst (v := 1) C dX6_chance_66 (by decide) ?_
  refine g_aload_n C 0 dX6_chance_67 rfl ?_
  refine g_getI C Kf cl_X6 (qF_X6_4 hK0) (by decide) dX6_chance_68 kf_X6_102 ?_
  refine g_ishl C dX6_chance_71 ?_
  refine g_icmp_ge C 140 dX6_chance_72 (by decide) hf (fun hf => ?_) (fun hf => ?_)
  · refine g_cut [0, 5, 6] rfl ?_
    exact Hk _ _ hf
  · refine g_aload_n C 0 dX6_chance_75 rfl ?_
    obtain ⟨σ_18, h_17, hf⟩ := b1_some hf
    refine g_cV_v C Kf [] (mX6_laysAside hK0 X.1.2.1 σ_15 σ_18 h_17) mi_X6_laysAside (qO_X6 hK0) rfl km_X6_167 ⟨rfl, rfl, by decide, by decide⟩ rfl rfl (Nat.le_of_ble_eq_true rfl) dX6_chance_76 ?_
    refine g_aload_n C 0 dX6_chance_79 rfl ?_
    refine g_aload_n C 0 dX6_chance_80 rfl ?_
    refine g_getR C Kf cl_X6 (qF_X6_7 hK0) (by decide) dX6_chance_81 kf_X6_28 ?_
    refine g_iload_n C 2 dX6_chance_84 rfl ?_
    refine g_iload C 7 dX6_chance_85 rfl ?_
    obtain ⟨σ_20, h_19, hf⟩ := b1_some hf
    refine g_cV_v C Kf [.ref (K.2.1 7), .int x2, .int x9_14] (mX6_falls hK0 X.1.2.1 σ_18 7 x2 x9_14 (by decide) σ_20 h_19) mi_X6_falls (qO_X6 hK0) rfl km_X6_130 ⟨rfl, rfl, by decide, by decide⟩ rfl rfl (Nat.le_of_ble_eq_true rfl) dX6_chance_87 ?_
    refine g_aload_n C 0 dX6_chance_90 rfl ?_
    refine g_getR C Kf cl_X6 (qF_X6_7 hK0) (by decide) dX6_chance_91 kf_X6_28 ?_
    refine g_iload_n C 1 dX6_chance_94 rfl ?_
    obtain ⟨r_22, h_21, hf⟩ := b1_some hf
    refine g_cS_i C Kf [.ref (K.2.1 7), .int x1] (mX6_placeOf hK0 X.1.2.1 σ_20 7 x1 (by decide) r_22 h_21) mi_X6_placeOf km_X6_139 ⟨rfl, rfl, by decide, by decide⟩ rfl rfl (Nat.le_of_ble_eq_true rfl) dX6_chance_95 ?_
    refine g_istore C [(10, .int r_22), (0, .ref (K.2.1 0)), (1, .int x1), (2, .int x2), (3, .int x3), (4, .int x4), (5, .long x5_13), (7, .long x7), (9, .int x9_14)] dX6_chance_98 (by decide) rfl ?_
    refine g_lload C 6 dX6_chance_100 rfl ?_
    refine g_aload_n C 1 dX6_chance_102 rfl ?_
    refine g_iload C 8 dX6_chance_103 rfl ?_
    refine g_iload_n C 4 dX6_chance_105 rfl ?_
    obtain ⟨r_24, h_23, hf⟩ := b1_some hf
    refine g_cV_l C Kf [.int x9_14, .int x3] (mX6_weigh hK0 X.1.2.1 σ_20 x9_14 x3 r_24 h_23) mi_X6_weigh (qO_X6 hK0) rfl km_X6_211 ⟨rfl, rfl, by decide, by decide⟩ rfl rfl (Nat.le_of_ble_eq_true rfl) dX6_chance_106 ?_
    refine g_iload C 5 dX6_chance_109 rfl ?_
    refine g_jn hf (fun j_26 ej_28 hf => ?_)
    have HJ_27 : ∀ (y_25 : Int32), j_26 y_25 = some (r, σ') → gG X σ_20 129 [(0, .ref (K.2.1 0)), (1, .int x1), (2, .int x2), (3, .int x3), (4, .int x4), (7, .long x7), (9, .int x9_14)] [.int y_25, .long r_24, .long x5_13] := by
      intro y_25 hf
      rw [ej_28] at hf
      refine g_i2l C dX6_chance_129 ?_
      refine g_lmul C dX6_chance_130 ?_
      refine g_ladd C dX6_chance_131 ?_
      refine g_lstoreB C (fun x5_29 => [(5, .long x5_29), (0, .ref (K.2.1 0)), (1, .int x1), (2, .int x2), (3, .int x3), (4, .int x4), (7, .long x7), (9, .int x9_14)]) dX6_chance_132 (by decide) (fun _ => rfl) hf (fun x5_29 hf => ?_)
      refine g_iinc (d := 1) C 7 (fun x9_30 => [(9, .int x9_30), (5, .long x5_29), (0, .ref (K.2.1 0)), (1, .int x1), (2, .int x2), (3, .int x3), (4, .int x4), (7, .long x7)]) dX6_chance_134 rfl (by decide) (by decide) (fun _ => rfl) hf (fun x9_30 hf => ?_)
      refine g_goto C 64 dX6_chance_137 (by decide) ?_
      refine g_cut [2, 3, 4, 5, 6, 1, 7, 0] rfl ?_
      exact ih _ _ _ hf
    refine g_if_eq C 119 dX6_chance_111 (by decide) hf (fun hf => ?_) (fun hf => ?_)
    · refine g_iload C 0 dX6_chance_119 rfl ?_
      refine g_if_ne C 128 dX6_chance_121 (by decide) hf (fun hf => ?_) (fun hf => ?_)
      · refine g_iconst (v := 0) C dX6_chance_128 (by decide) ?_
        refine g_cut [1, 2, 3, 4, 5, 7, 8] rfl ?_
        exact HJ_27 _ hf
      · refine g_iconst (v := 1) C dX6_chance_124 (by decide) ?_
        refine g_goto C 129 dX6_chance_125 (by decide) ?_
        refine g_cut [1, 2, 3, 4, 5, 7, 8] rfl ?_
        exact HJ_27 _ hf
    · refine g_iload C 0 dX6_chance_114 rfl ?_
      refine g_goto C 129 dX6_chance_116 (by decide) ?_
      refine g_cut [1, 2, 3, 4, 5, 7, 8] rfl ?_
      exact HJ_27 _ hf
set_option maxHeartbeats 4000000 in
set_option maxRecDepth 100000 in
theorem mX6_chance {K : Kx} (hK0 : isKM K) (l : Launch) (σ : St) (x1 : Int32) (x2 : Int32) (x3 : Int32) (x4 : Int32)  (r : Int32) (σ' : St) (hf : f6_chance σ x1 x2 x3 x4 = some (r, σ')) : mC K l yX6_chance cX6_chance 11 (some .int) rmX6_chance [.ref (K.2.1 0), .int x1, .int x2, .int x3, .int x4] σ (some (.int r)) σ' := by
  refine g_entry (own := RX6) rfl (by decide +kernel) (Nat.le_of_ble_eq_true rfl) (fun X hX C Kf hR => ?_)
  subst hX
  unfold f6_chance at hf
  show gG X σ 0 [(0, .ref (K.2.1 0)), (1, .int x1), (2, .int x2), (3, .int x3), (4, .int x4)] []
  refine g_aload_n C 0 dX6_chance_0 rfl ?_
  refine g_iload_n C 1 dX6_chance_1 rfl ?_
  obtain ⟨r_2, h_1, hf⟩ := b1_some hf
  refine g_cV_i C Kf [.int x1] (mX6_isCard hK0 X.1.2.1 σ x1 r_2 h_1) mi_X6_isCard (qO_X6 hK0) rfl km_X6_134 ⟨rfl, rfl, by decide, by decide⟩ rfl rfl (Nat.le_of_ble_eq_true rfl) dX6_chance_2 ?_
  refine g_if_eq C 27 dX6_chance_5 (by decide) hf (fun hf => ?_) (fun hf => ?_)
  · refine g_iconst (v := (-1)) C dX6_chance_27 (by decide) ?_
    exact g_iretP C Kf hR dX6_chance_28 hf
  · refine g_iload_n C 2 dX6_chance_8 rfl ?_
    obtain ⟨r_4, h_3, hf⟩ := b1_some hf
    refine g_cS_i C Kf [.int x2] (mX6_isColumn hK0 X.1.2.1 σ x2 r_4 h_3) mi_X6_isColumn km_X6_143 ⟨rfl, rfl, by decide, by decide⟩ rfl rfl (Nat.le_of_ble_eq_true rfl) dX6_chance_9 ?_
    refine g_if_eq C 27 dX6_chance_12 (by decide) hf (fun hf => ?_) (fun hf => ?_)
    · refine g_iconst (v := (-1)) C dX6_chance_27 (by decide) ?_
      exact g_iretP C Kf hR dX6_chance_28 hf
    · refine g_iload_n C 3 dX6_chance_15 rfl ?_
      refine g_i2l C dX6_chance_16 ?_
      refine g_lconst (v := 0) C dX6_chance_17 (by decide) ?_
      refine g_ldc2 (v := 12) C dX6_chance_18 kl_X6_209 ?_
      obtain ⟨r_6, h_5, hf⟩ := b1_some hf
      refine g_cS_i C Kf [.long (x3.toInt64), .long 0, .long 12] (mX6_in hK0 X.1.2.1 σ (x3.toInt64) 0 12 r_6 h_5) mi_X6_in km_X6_69 ⟨rfl, rfl, by decide, by decide⟩ rfl rfl (Nat.le_of_ble_eq_true rfl) dX6_chance_21 ?_
      refine g_if_ne C 29 dX6_chance_24 (by decide) hf (fun hf => ?_) (fun hf => ?_)
      · refine g_lconst (v := 0) C dX6_chance_29 (by decide) ?_
        refine g_lstore C [(5, .long 0), (0, .ref (K.2.1 0)), (1, .int x1), (2, .int x2), (3, .int x3), (4, .int x4)] dX6_chance_30 (by decide) rfl ?_
        refine g_lconst (v := 1) C dX6_chance_32 (by decide) ?_
        refine g_lstore C [(7, .long 1), (5, .long 0), (0, .ref (K.2.1 0)), (1, .int x1), (2, .int x2), (3, .int x3), (4, .int x4)] dX6_chance_33 (by decide) rfl ?_
        refine g_iconst (v := 0) C dX6_chance_35 (by decide) ?_
        refine g_istore C [(9, .int 0), (7, .long 1), (5, .long 0), (0, .ref (K.2.1 0)), (1, .int x1), (2, .int x2), (3, .int x3), (4, .int x4)] dX6_chance_36 (by decide) rfl ?_
        refine g_cut [3, 4, 5, 6, 7, 2, 1, 0] rfl ?_
        refine wL6_chance_38 hK0 σ x1 x2 x3 x4 0 _ _ C Kf hR _ (fun x7_12 hf => ?_) _ _ _ hf
        refine g_iconst (v := 0) C dX6_chance_61 (by decide) ?_
        refine g_istore C [(9, .int 0), (0, .ref (K.2.1 0)), (1, .int x1), (2, .int x2), (3, .int x3), (4, .int x4), (5, .long 0), (7, .long x7_12)] dX6_chance_62 (by decide) rfl ?_
        refine g_cut [1, 2, 3, 4, 5, 6, 7, 0] rfl ?_
        refine wL6_chance_64 hK0 σ x1 x2 x3 x4 x7_12 _ _ C Kf hR _ (fun x5_32 σ_33 hf => ?_) _ _ _ _ hf
        refine g_aload_n C 0 dX6_chance_140 rfl ?_
        refine g_lload C 1 dX6_chance_141 rfl ?_
        refine g_lload C 2 dX6_chance_143 rfl ?_
        obtain ⟨σ_35, h_34, hf⟩ := b1_some hf
        refine g_cV_v C Kf [.long x5_32, .long x7_12] (mX6_tellsPart hK0 X.1.2.1 σ_33 x5_32 x7_12 σ_35 h_34) mi_X6_tellsPart (qO_X6 hK0) rfl km_X6_215 ⟨rfl, rfl, by decide, by decide⟩ rfl rfl (Nat.le_of_ble_eq_true rfl) dX6_chance_145 ?_
        refine g_iconst (v := 1) C dX6_chance_148 (by decide) ?_
        exact g_iretP C Kf hR dX6_chance_149 hf
      · refine g_iconst (v := (-1)) C dX6_chance_27 (by decide) ?_
        exact g_iretP C Kf hR dX6_chance_28 hf
abbrev rmX6_passes : Room := { frames := 4, cells := 0, slots := 0, locals := 99 }
set_option maxHeartbeats 4000000 in
set_option maxRecDepth 100000 in
theorem mX6_passes {K : Kx} (hK0 : isKM K) (l : Launch) (σ : St) (a1 : Nat) (x2 : Int32) (ha1 : 0 < lnM a1) (σ' : St) (hf : f6_passes σ a1 x2 = some σ') : mC K l yX6_passes cX6_passes 3 none rmX6_passes [.ref (K.2.1 0), .ref (K.2.1 a1), .int x2] σ none σ' := by
  refine g_entry (own := RX6) rfl (by decide +kernel) (Nat.le_of_ble_eq_true rfl) (fun X hX C Kf hR => ?_)
  subst hX
  unfold f6_passes at hf
  show gG X σ 0 [(0, .ref (K.2.1 0)), (1, .ref (K.2.1 a1)), (2, .int x2)] []
  refine g_aload_n C 0 dX6_passes_0 rfl ?_
  refine g_aload_n C 1 dX6_passes_1 rfl ?_
  refine g_iload_n C 2 dX6_passes_2 rfl ?_
  refine g_iconst (v := 0) C dX6_passes_3 (by decide) ?_
  obtain ⟨σ_2, h_1, hf⟩ := b1_some hf
  refine g_cV_v C Kf [.ref (K.2.1 a1), .int x2, .int 0] (mX6_falls hK0 X.1.2.1 σ a1 x2 0 (ha1) σ_2 h_1) mi_X6_falls (qO_X6 hK0) rfl km_X6_130 ⟨rfl, rfl, by decide, by decide⟩ rfl rfl (Nat.le_of_ble_eq_true rfl) dX6_passes_4 ?_
  refine g_aload_n C 1 dX6_passes_7 rfl ?_
  refine g_bipush (v := 24) C dX6_passes_8 (by decide) ?_
  refine g_dup2 C dX6_passes_10 rfl rfl ?_
  refine g_ialdK C Kf 24 (by decide) (qAM hK0 ha1) dX6_passes_11 hf (fun hf => ?_)
  refine g_aload_n C 1 dX6_passes_12 rfl ?_
  refine g_bipush (v := 24) C dX6_passes_13 (by decide) ?_
  refine g_ialdK C Kf 24 (by decide) (qAM hK0 ha1) dX6_passes_15 hf (fun hf => ?_)
  refine g_bipush (v := 60) C dX6_passes_16 (by decide) ?_
  refine g_jn hf (fun j_4 ej_6 hf => ?_)
  have HJ_5 : ∀ (y_3 : Int32), j_4 y_3 = some σ' → gG X σ_2 26 [] [.int y_3, .int (σ_2.1 a1 24), .int 24, .ref (K.2.1 a1)] := by
    intro y_3 hf
    rw [ej_6] at hf
    refine g_iadd C dX6_passes_26 ?_
    refine g_iastK C Kf 24 (by decide) (qAM hK0 ha1) dX6_passes_27 hf (fun σ_7 hf => ?_)
    exact g_vretP C Kf hR dX6_passes_28 hf
  refine g_icmp_ge C 25 dX6_passes_18 (by decide) hf (fun hf => ?_) (fun hf => ?_)
  · refine g_iconst (v := 0) C dX6_passes_25 (by decide) ?_
    refine g_cut [] rfl ?_
    exact HJ_5 _ hf
  · refine g_iconst (v := 1) C dX6_passes_21 (by decide) ?_
    refine g_goto C 26 dX6_passes_22 (by decide) ?_
    refine g_cut [] rfl ?_
    exact HJ_5 _ hf
abbrev rmX6_columns : Room := { frames := 5, cells := 0, slots := 0, locals := 121 }
set_option maxHeartbeats 4000000 in
set_option maxRecDepth 100000 in
theorem wL6_columns_57 {X : Gx St} {K : Kx} (hK0 : isKM K) (σ : St) (x1 : Int32) (r : Int32) (σ' : St) (C : gF X cX6_columns RX6 (some .int) 7 rmX6_columns) (Kf : kF X K) (hR : gR X K (some (.int r)) σ') (k : St → Option (Int32 × St)) (Hk : ∀ (σ_19 : St), k σ_19 = some (r, σ') → gG X σ_19 115 [(0, .ref (K.2.1 0)), (1, .int x1)] []) : ∀ (n : Nat) (x2_3 : Int32) (x3_4 : Int32) (σ_5 : St), L6_columns_57 x1 k n x2_3 x3_4 σ_5 = some (r, σ') → gG X σ_5 57 [(0, .ref (K.2.1 0)), (1, .int x1), (2, .int x2_3), (3, .int x3_4)] [] := by
  intro n
  induction n with
  | zero => intro _ _ _ hf; unfold L6_columns_57 at hf; cases hf
  | succ n ih =>
  intro x2_3 x3_4 σ_5 hf
  unfold L6_columns_57 at hf
  refine g_iload_n C 3 dX6_columns_57 rfl ?_
  refine g_aload_n C 0 dX6_columns_58 rfl ?_
  refine g_getI C Kf cl_X6 (qF_X6_4 hK0) (by decide) dX6_columns_59 kf_X6_102 ?_
  refine g_icmp_ge C 115 dX6_columns_62 (by decide) hf (fun hf => ?_) (fun hf => ?_)
  · refine g_cut [0, 1] rfl ?_
    exact Hk _ hf
  · refine g_aload_n C 0 dX6_columns_65 rfl ?_
    refine g_getR C Kf cl_X6 (qF_X6_1 hK0) (by decide) dX6_columns_66 kf_X6_13 ?_
    refine g_bipush (v := 40) C dX6_columns_69 (by decide) ?_
    refine g_iload_n C 1 dX6_columns_71 rfl ?_
    refine g_imul C dX6_columns_72 ?_
    refine g_iload_n C 3 dX6_columns_73 rfl ?_
    refine g_iadd C dX6_columns_74 ?_
    refine g_iald C Kf (qAM_2 hK0) dX6_columns_75 hf (fun hf => ?_)
    refine g_istoreB C (fun x4_6 => [(4, .int x4_6), (0, .ref (K.2.1 0)), (1, .int x1), (2, .int x2_3), (3, .int x3_4)]) dX6_columns_76 (by decide) (fun _ => rfl) hf (fun x4_6 hf => ?_)
    refine g_aload_n C 1 dX6_columns_78 rfl ?_
    refine g_iload C 0 dX6_columns_79 rfl ?_
    obtain ⟨r_8, h_7, hf⟩ := b1_some hf
    refine g_cV_i C Kf [.int x4_6] (mX6_isCard hK0 X.1.2.1 σ_5 x4_6 r_8 h_7) mi_X6_isCard (qO_X6 hK0) rfl km_X6_134 ⟨rfl, rfl, by decide, by decide⟩ rfl rfl (Nat.le_of_ble_eq_true rfl) dX6_columns_81 ?_
    refine g_jn hf (fun j_9 ej_11 hf => ?_)
    have HJ_10 : j_9 = some (r, σ') → gG X σ_5 96 [(0, .ref (K.2.1 0))] [] := by
      intro hf
      rw [ej_11] at hf
      refine g_aload_n C 0 dX6_columns_96 rfl ?_
      refine g_iconst (v := 3) C dX6_columns_97 (by decide) ?_
      obtain ⟨r_13, σ_14, h_12, hf⟩ := b2_some hf
      refine g_cV_i C Kf [.int 3] (mX6_found hK0 X.1.2.1 σ_5 3 r_13 σ_14 h_12) mi_X6_found (qO_X6 hK0) rfl km_X6_79 ⟨rfl, rfl, by decide, by decide⟩ rfl rfl (Nat.le_of_ble_eq_true rfl) dX6_columns_98 ?_
      exact g_iretP C Kf hR dX6_columns_101 hf
    refine g_if_eq C 96 dX6_columns_84 (by decide) hf (fun hf => ?_) (fun hf => ?_)
    · refine g_cut [1] rfl ?_
      exact HJ_10 hf
    · refine g_iload_n C 3 dX6_columns_87 rfl ?_
      refine g_iload C 0 dX6_columns_88 rfl ?_
      obtain ⟨r_16, h_15, hf⟩ := b1_some hf
      refine g_cS_i C Kf [.int x2_3, .int x4_6] (mX6_has hK0 X.1.2.1 σ_5 x2_3 x4_6 r_16 h_15) mi_X6_has km_X6_122 ⟨rfl, rfl, by decide, by decide⟩ rfl rfl (Nat.le_of_ble_eq_true rfl) dX6_columns_90 ?_
      refine g_if_eq C 102 dX6_columns_93 (by decide) hf (fun hf => ?_) (fun hf => ?_)
      · refine g_iload_n C 3 dX6_columns_102 rfl ?_
        refine g_iconst (v := 1) C dX6_columns_103 (by decide) ?_
        refine g_iload C 0 dX6_columns_104 rfl ?_
        refine g_ishl C dX6_columns_106 ?_
        refine g_ior C dX6_columns_107 ?_
        refine g_istore_nB C (fun x2_17 => [(2, .int x2_17), (4, .int x4_6), (0, .ref (K.2.1 0)), (1, .int x1), (3, .int x3_4)]) dX6_columns_108 rfl (by decide) (fun _ => rfl) hf (fun x2_17 hf => ?_)
        refine g_iinc (d := 1) C 4 (fun x3_18 => [(3, .int x3_18), (2, .int x2_17), (4, .int x4_6), (0, .ref (K.2.1 0)), (1, .int x1)]) dX6_columns_109 rfl (by decide) (by decide) (fun _ => rfl) hf (fun x3_18 hf => ?_)
        refine g_goto C 57 dX6_columns_112 (by decide) ?_
        refine g_cut [3, 4, 1, 0] rfl ?_
        exact ih _ _ _ hf
      · refine g_cut [1] rfl ?_
        exact HJ_10 hf
set_option maxHeartbeats 4000000 in
set_option maxRecDepth 100000 in
theorem wL6_columns_146 {X : Gx St} {K : Kx} (hK0 : isKM K) (σ : St) (x1 : Int32) (x3 : Int32) (x4 : Int32) (r : Int32) (σ' : St) (C : gF X cX6_columns RX6 (some .int) 7 rmX6_columns) (Kf : kF X K) (hR : gR X K (some (.int r)) σ') (k : Int32 → Option (Int32 × St)) (Hk : ∀ (x5_31 : Int32), k x5_31 = some (r, σ') → gG X σ 195 [(0, .ref (K.2.1 0)), (1, .int x1), (3, .int x3), (4, .int x4), (5, .int x5_31)] []) : ∀ (n : Nat) (x5_29 : Int32) (x6_30 : Int32), L6_columns_146 σ x1 x3 x4 k n x5_29 x6_30 = some (r, σ') → gG X σ 146 [(0, .ref (K.2.1 0)), (1, .int x1), (3, .int x3), (4, .int x4), (5, .int x5_29), (6, .int x6_30)] [] := by
  intro n
  induction n with
  | zero => intro _ _ hf; unfold L6_columns_146 at hf; cases hf
  | succ n ih =>
  intro x5_29 x6_30 hf
  unfold L6_columns_146 at hf
  refine g_iload C 5 dX6_columns_146 rfl ?_
  refine g_aload_n C 0 dX6_columns_148 rfl ?_
  refine g_getI C Kf cl_X6 (qF_X6_4 hK0) (by decide) dX6_columns_149 kf_X6_102 ?_
  refine g_icmp_ge C 195 dX6_columns_152 (by decide) hf (fun hf => ?_) (fun hf => ?_)
  · refine g_cut [0, 1, 2, 3, 4] rfl ?_
    exact Hk _ hf
  · refine g_iload C 4 dX6_columns_155 rfl ?_
    refine g_jn hf (fun j_33 ej_35 hf => ?_)
    have HJ_34 : ∀ (y_32 : Int32), j_33 y_32 = some (r, σ') → gG X σ 187 [(0, .ref (K.2.1 0)), (1, .int x1), (3, .int x3), (4, .int x4), (6, .int x6_30)] [.int y_32] := by
      intro y_32 hf
      rw [ej_35] at hf
      refine g_istore C [(5, .int y_32), (0, .ref (K.2.1 0)), (1, .int x1), (3, .int x3), (4, .int x4), (6, .int x6_30)] dX6_columns_187 (by decide) rfl ?_
      refine g_iinc (d := 1) C 5 (fun x6_36 => [(6, .int x6_36), (5, .int y_32), (0, .ref (K.2.1 0)), (1, .int x1), (3, .int x3), (4, .int x4)]) dX6_columns_189 rfl (by decide) (by decide) (fun _ => rfl) hf (fun x6_36 hf => ?_)
      refine g_goto C 146 dX6_columns_192 (by decide) ?_
      refine g_cut [2, 3, 4, 5, 1, 0] rfl ?_
      exact ih _ _ hf
    refine g_jn hf (fun j_37 ej_39 hf => ?_)
    have HJ_38 : j_37 = some (r, σ') → gG X σ 186 [(0, .ref (K.2.1 0)), (1, .int x1), (3, .int x3), (4, .int x4), (6, .int x6_30)] [] := by
      intro hf
      rw [ej_39] at hf
      refine g_iconst (v := 0) C dX6_columns_186 (by decide) ?_
      exact HJ_34 _ hf
    refine g_if_eq C 186 dX6_columns_157 (by decide) hf (fun hf => ?_) (fun hf => ?_)
    · refine g_cut [0, 1, 2, 3, 5] rfl ?_
      exact HJ_38 hf
    · refine g_aload_n C 0 dX6_columns_160 rfl ?_
      refine g_getR C Kf cl_X6 (qF_X6_7 hK0) (by decide) dX6_columns_161 kf_X6_28 ?_
      refine g_iload C 5 dX6_columns_164 rfl ?_
      refine g_iald C Kf (qAM_7 hK0) dX6_columns_166 hf (fun hf => ?_)
      refine g_aload_n C 0 dX6_columns_167 rfl ?_
      refine g_getR C Kf cl_X6 (qF_X6_1 hK0) (by decide) dX6_columns_168 kf_X6_13 ?_
      refine g_bipush (v := 40) C dX6_columns_171 (by decide) ?_
      refine g_iload_n C 1 dX6_columns_173 rfl ?_
      refine g_imul C dX6_columns_174 ?_
      refine g_iload C 5 dX6_columns_175 rfl ?_
      refine g_iadd C dX6_columns_177 ?_
      refine g_iald C Kf (qAM_2 hK0) dX6_columns_178 hf (fun hf => ?_)
      refine g_icmp_ne C 186 dX6_columns_179 (by decide) hf (fun hf => ?_) (fun hf => ?_)
      · refine g_cut [0, 1, 2, 3, 5] rfl ?_
        exact HJ_38 hf
      · refine g_iconst (v := 1) C dX6_columns_182 (by decide) ?_
        refine g_goto C 187 dX6_columns_183 (by decide) ?_
        refine g_cut [0, 1, 2, 3, 5] rfl ?_
        exact HJ_34 _ hf
set_option maxHeartbeats 4000000 in
set_option maxRecDepth 100000 in
theorem wL6_columns_120 {X : Gx St} {K : Kx} (hK0 : isKM K) (σ : St) (x1 : Int32) (r : Int32) (σ' : St) (C : gF X cX6_columns RX6 (some .int) 7 rmX6_columns) (Kf : kF X K) (hR : gR X K (some (.int r)) σ') (k : Int32 → St → Option (Int32 × St)) (Hk : ∀ (x3_24 : Int32) (σ_47 : St), k x3_24 σ_47 = some (r, σ') → gG X σ_47 217 [(3, .int x3_24)] []) : ∀ (n : Nat) (x3_21 : Int32) (x4_22 : Int32) (σ_23 : St), L6_columns_120 x1 k n x3_21 x4_22 σ_23 = some (r, σ') → gG X σ_23 120 [(0, .ref (K.2.1 0)), (1, .int x1), (3, .int x3_21), (4, .int x4_22)] [] := by
  intro n
  induction n with
  | zero => intro _ _ _ hf; unfold L6_columns_120 at hf; cases hf
  | succ n ih =>
  intro x3_21 x4_22 σ_23 hf
  unfold L6_columns_120 at hf
  refine g_iload C 3 dX6_columns_120 rfl ?_
  refine g_iconst (v := 3) C dX6_columns_122 (by decide) ?_
  refine g_icmp_ge C 217 dX6_columns_123 (by decide) hf (fun hf => ?_) (fun hf => ?_)
  · refine g_cut [2] rfl ?_
    exact Hk _ _ hf
  · refine g_aload_n C 0 dX6_columns_126 rfl ?_
    obtain ⟨σ_26, h_25, hf⟩ := b1_some hf
    refine g_cV_v C Kf [] (mX6_laysAside hK0 X.1.2.1 σ_23 σ_26 h_25) mi_X6_laysAside (qO_X6 hK0) rfl km_X6_167 ⟨rfl, rfl, by decide, by decide⟩ rfl rfl (Nat.le_of_ble_eq_true rfl) dX6_columns_127 ?_
    refine g_aload_n C 0 dX6_columns_130 rfl ?_
    refine g_aload_n C 0 dX6_columns_131 rfl ?_
    refine g_getR C Kf cl_X6 (qF_X6_7 hK0) (by decide) dX6_columns_132 kf_X6_28 ?_
    refine g_iload C 3 dX6_columns_135 rfl ?_
    obtain ⟨σ_28, h_27, hf⟩ := b1_some hf
    refine g_cV_v C Kf [.ref (K.2.1 7), .int x4_22] (mX6_passes hK0 X.1.2.1 σ_26 7 x4_22 (by decide) σ_28 h_27) mi_X6_passes (qO_X6 hK0) rfl km_X6_149 ⟨rfl, rfl, by decide, by decide⟩ rfl rfl (Nat.le_of_ble_eq_true rfl) dX6_columns_137 ?_
    refine g_iconst (v := 1) C dX6_columns_140 (by decide) ?_
    refine g_istore C [(5, .int 1), (0, .ref (K.2.1 0)), (1, .int x1), (3, .int x3_21), (4, .int x4_22)] dX6_columns_141 (by decide) rfl ?_
    refine g_iconst (v := 0) C dX6_columns_143 (by decide) ?_
    refine g_istore C [(6, .int 0), (5, .int 1), (0, .ref (K.2.1 0)), (1, .int x1), (3, .int x3_21), (4, .int x4_22)] dX6_columns_144 (by decide) rfl ?_
    refine g_cut [2, 3, 4, 5, 1, 0] rfl ?_
    refine wL6_columns_146 hK0 σ_28 x1 x3_21 x4_22 _ _ C Kf hR _ (fun x5_40 hf => ?_) _ _ _ hf
    refine g_iload_n C 2 dX6_columns_195 rfl ?_
    refine g_iload C 4 dX6_columns_196 rfl ?_
    refine g_jn hf (fun j_42 ej_44 hf => ?_)
    have HJ_43 : ∀ (y_41 : Int32), j_42 y_41 = some (r, σ') → gG X σ_28 209 [(0, .ref (K.2.1 0)), (1, .int x1), (4, .int x4_22)] [.int y_41, .int x3_21] := by
      intro y_41 hf
      rw [ej_44] at hf
      refine g_ior C dX6_columns_209 ?_
      refine g_istore_nB C (fun x3_45 => [(3, .int x3_45), (0, .ref (K.2.1 0)), (1, .int x1), (4, .int x4_22)]) dX6_columns_210 rfl (by decide) (fun _ => rfl) hf (fun x3_45 hf => ?_)
      refine g_iinc (d := 1) C 3 (fun x4_46 => [(4, .int x4_46), (3, .int x3_45), (0, .ref (K.2.1 0)), (1, .int x1)]) dX6_columns_211 rfl (by decide) (by decide) (fun _ => rfl) hf (fun x4_46 hf => ?_)
      refine g_goto C 120 dX6_columns_214 (by decide) ?_
      refine g_cut [2, 3, 1, 0] rfl ?_
      exact ih _ _ _ hf
    refine g_if_eq C 208 dX6_columns_198 (by decide) hf (fun hf => ?_) (fun hf => ?_)
    · refine g_iconst (v := 0) C dX6_columns_208 (by decide) ?_
      refine g_cut [0, 1, 3] rfl ?_
      exact HJ_43 _ hf
    · refine g_iconst (v := 1) C dX6_columns_201 (by decide) ?_
      refine g_iload C 3 dX6_columns_202 rfl ?_
      refine g_ishl C dX6_columns_204 ?_
      refine g_goto C 209 dX6_columns_205 (by decide) ?_
      refine g_cut [0, 1, 3] rfl ?_
      exact HJ_43 _ hf
set_option maxHeartbeats 4000000 in
set_option maxRecDepth 100000 in
theorem mX6_columns {K : Kx} (hK0 : isKM K) (l : Launch) (σ : St) (x1 : Int32)  (r : Int32) (σ' : St) (hf : f6_columns σ x1 = some (r, σ')) : mC K l yX6_columns cX6_columns 7 (some .int) rmX6_columns [.ref (K.2.1 0), .int x1] σ (some (.int r)) σ' := by
  refine g_entry (own := RX6) rfl (by decide +kernel) (Nat.le_of_ble_eq_true rfl) (fun X hX C Kf hR => ?_)
  subst hX
  unfold f6_columns at hf
  show gG X σ 0 [(0, .ref (K.2.1 0)), (1, .int x1)] []
  refine g_iload_n C 1 dX6_columns_0 rfl ?_
  obtain ⟨r_2, h_1, hf⟩ := b1_some hf
  refine g_cS_i C Kf [.int x1] (mX6_isRow hK0 X.1.2.1 σ x1 r_2 h_1) mi_X6_isRow km_X6_75 ⟨rfl, rfl, by decide, by decide⟩ rfl rfl (Nat.le_of_ble_eq_true rfl) dX6_columns_1 ?_
  refine g_if_ne C 9 dX6_columns_4 (by decide) hf (fun hf => ?_) (fun hf => ?_)
  · refine g_aload_n C 0 dX6_columns_9 rfl ?_
    refine g_getI C Kf cl_X6 (qF_X6_4 hK0) (by decide) dX6_columns_10 kf_X6_102 ?_
    refine g_if_ne C 19 dX6_columns_13 (by decide) hf (fun hf => ?_) (fun hf => ?_)
    · refine g_aload_n C 0 dX6_columns_19 rfl ?_
      refine g_getR C Kf cl_X6 (qF_X6_0 hK0) (by decide) dX6_columns_20 kf_X6_7 ?_
      refine g_iload_n C 1 dX6_columns_23 rfl ?_
      refine g_iald C Kf (qAM_1 hK0) dX6_columns_24 hf (fun hf => ?_)
      refine g_if_ge C 34 dX6_columns_25 (by decide) hf (fun hf => ?_) (fun hf => ?_)
      · refine g_aload_n C 0 dX6_columns_34 rfl ?_
        refine g_getR C Kf cl_X6 (qF_X6_0 hK0) (by decide) dX6_columns_35 kf_X6_7 ?_
        refine g_iload_n C 1 dX6_columns_38 rfl ?_
        refine g_iald C Kf (qAM_1 hK0) dX6_columns_39 hf (fun hf => ?_)
        refine g_aload_n C 0 dX6_columns_40 rfl ?_
        refine g_getI C Kf cl_X6 (qF_X6_4 hK0) (by decide) dX6_columns_41 kf_X6_102 ?_
        refine g_icmp_eq C 53 dX6_columns_44 (by decide) hf (fun hf => ?_) (fun hf => ?_)
        · refine g_iconst (v := 0) C dX6_columns_53 (by decide) ?_
          refine g_istore_n C [(2, .int 0), (0, .ref (K.2.1 0)), (1, .int x1)] dX6_columns_54 rfl (by decide) rfl ?_
          refine g_iconst (v := 0) C dX6_columns_55 (by decide) ?_
          refine g_istore_n C [(3, .int 0), (2, .int 0), (0, .ref (K.2.1 0)), (1, .int x1)] dX6_columns_56 rfl (by decide) rfl ?_
          refine g_cut [2, 3, 1, 0] rfl ?_
          refine wL6_columns_57 hK0 σ x1 _ _ C Kf hR _ (fun σ_20 hf => ?_) _ _ _ _ hf
          refine g_iconst (v := 0) C dX6_columns_115 (by decide) ?_
          refine g_istore_n C [(3, .int 0), (0, .ref (K.2.1 0)), (1, .int x1)] dX6_columns_116 rfl (by decide) rfl ?_
          refine g_iconst (v := 0) C dX6_columns_117 (by decide) ?_
          refine g_istore C [(4, .int 0), (3, .int 0), (0, .ref (K.2.1 0)), (1, .int x1)] dX6_columns_118 (by decide) rfl ?_
          refine g_cut [2, 3, 1, 0] rfl ?_
          refine wL6_columns_120 hK0 σ_20 x1 _ _ C Kf hR _ (fun x3_48 σ_49 hf => ?_) _ _ _ _ hf
          refine g_iload_n C 0 dX6_columns_217 rfl ?_
          exact g_iretP C Kf hR dX6_columns_218 hf
        · refine g_aload_n C 0 dX6_columns_47 rfl ?_
          refine g_iconst (v := 5) C dX6_columns_48 (by decide) ?_
          obtain ⟨r_51, σ_52, h_50, hf⟩ := b2_some hf
          refine g_cV_i C Kf [.int 5] (mX6_found hK0 X.1.2.1 σ 5 r_51 σ_52 h_50) mi_X6_found (qO_X6 hK0) rfl km_X6_79 ⟨rfl, rfl, by decide, by decide⟩ rfl rfl (Nat.le_of_ble_eq_true rfl) dX6_columns_49 ?_
          exact g_iretP C Kf hR dX6_columns_52 hf
      · refine g_aload_n C 0 dX6_columns_28 rfl ?_
        refine g_iconst (v := 1) C dX6_columns_29 (by decide) ?_
        obtain ⟨r_54, σ_55, h_53, hf⟩ := b2_some hf
        refine g_cV_i C Kf [.int 1] (mX6_found hK0 X.1.2.1 σ 1 r_54 σ_55 h_53) mi_X6_found (qO_X6 hK0) rfl km_X6_79 ⟨rfl, rfl, by decide, by decide⟩ rfl rfl (Nat.le_of_ble_eq_true rfl) dX6_columns_30 ?_
        exact g_iretP C Kf hR dX6_columns_33 hf
    · refine g_bipush (v := (-4)) C dX6_columns_16 (by decide) ?_
      exact g_iretP C Kf hR dX6_columns_18 hf
  · refine g_iconst (v := (-1)) C dX6_columns_7 (by decide) ?_
    exact g_iretP C Kf hR dX6_columns_8 hf
abbrev rmX6_comesSo : Room := { frames := 2, cells := 0, slots := 0, locals := 47 }
set_option maxHeartbeats 4000000 in
set_option maxRecDepth 100000 in
theorem wL6_comesSo_6 {X : Gx St} {K : Kx} (hK0 : isKM K) (σ : St) (x1 : Int32) (x2 : Int32) (x3 : Int32) (r : Int32) (C : gF X cX6_comesSo RX6 (some .boolean) 6 rmX6_comesSo) (Kf : kF X K) (hR : gR X K (some (.int r)) σ) (k : Int32 → Option (Int32)) (Hk : ∀ (x4_3 : Int32), k x4_3 = some r → gG X σ 85 [(4, .int x4_3)] []) : ∀ (n : Nat) (x4_1 : Int32) (x5_2 : Int32), L6_comesSo_6 σ x1 x2 x3 k n x4_1 x5_2 = some r → gG X σ 6 [(0, .ref (K.2.1 0)), (1, .int x1), (2, .int x2), (3, .int x3), (4, .int x4_1), (5, .int x5_2)] [] := by
  intro n
  induction n with
  | zero => intro _ _ hf; unfold L6_comesSo_6 at hf; cases hf
  | succ n ih =>
  intro x4_1 x5_2 hf
  unfold L6_comesSo_6 at hf
  refine g_iload C 5 dX6_comesSo_6 rfl ?_
  refine g_aload_n C 0 dX6_comesSo_8 rfl ?_
  refine g_getR C Kf cl_X6 (qF_X6_0 hK0) (by decide) dX6_comesSo_9 kf_X6_7 ?_
  refine g_iload_n C 3 dX6_comesSo_12 rfl ?_
  refine g_iald C Kf (qAM_1 hK0) dX6_comesSo_13 hf (fun hf => ?_)
  refine g_icmp_ge C 85 dX6_comesSo_14 (by decide) hf (fun hf => ?_) (fun hf => ?_)
  · refine g_cut [4] rfl ?_
    exact Hk _ hf
  · refine g_iload C 4 dX6_comesSo_17 rfl ?_
    refine g_jn hf (fun j_5 ej_7 hf => ?_)
    have HJ_6 : ∀ (y_4 : Int32), j_5 y_4 = some r → gG X σ 77 [(0, .ref (K.2.1 0)), (1, .int x1), (2, .int x2), (3, .int x3), (5, .int x5_2)] [.int y_4] := by
      intro y_4 hf
      rw [ej_7] at hf
      refine g_istore C [(4, .int y_4), (0, .ref (K.2.1 0)), (1, .int x1), (2, .int x2), (3, .int x3), (5, .int x5_2)] dX6_comesSo_77 (by decide) rfl ?_
      refine g_iinc (d := 2) C 5 (fun x5_8 => [(5, .int x5_8), (4, .int y_4), (0, .ref (K.2.1 0)), (1, .int x1), (2, .int x2), (3, .int x3)]) dX6_comesSo_79 rfl (by decide) (by decide) (fun _ => rfl) hf (fun x5_8 hf => ?_)
      refine g_goto C 6 dX6_comesSo_82 (by decide) ?_
      refine g_cut [2, 3, 4, 5, 1, 0] rfl ?_
      exact ih _ _ hf
    refine g_jn hf (fun j_9 ej_11 hf => ?_)
    have HJ_10 : j_9 = some r → gG X σ 76 [(0, .ref (K.2.1 0)), (1, .int x1), (2, .int x2), (3, .int x3), (5, .int x5_2)] [] := by
      intro hf
      rw [ej_11] at hf
      refine g_iconst (v := 0) C dX6_comesSo_76 (by decide) ?_
      exact HJ_6 _ hf
    refine g_if_eq C 76 dX6_comesSo_19 (by decide) hf (fun hf => ?_) (fun hf => ?_)
    · refine g_cut [0, 1, 2, 3, 5] rfl ?_
      exact HJ_10 hf
    · refine g_aload_n C 0 dX6_comesSo_22 rfl ?_
      refine g_getR C Kf cl_X6 (qF_X6_7 hK0) (by decide) dX6_comesSo_23 kf_X6_28 ?_
      refine g_bipush (v := 6) C dX6_comesSo_26 (by decide) ?_
      refine g_iconst (v := 3) C dX6_comesSo_28 (by decide) ?_
      refine g_iload_n C 1 dX6_comesSo_29 rfl ?_
      refine g_imul C dX6_comesSo_30 ?_
      refine g_iadd C dX6_comesSo_31 ?_
      refine g_iload_n C 2 dX6_comesSo_32 rfl ?_
      refine g_aload_n C 0 dX6_comesSo_33 rfl ?_
      refine g_getR C Kf cl_X6 (qF_X6_1 hK0) (by decide) dX6_comesSo_34 kf_X6_13 ?_
      refine g_bipush (v := 40) C dX6_comesSo_37 (by decide) ?_
      refine g_iload_n C 3 dX6_comesSo_39 rfl ?_
      refine g_imul C dX6_comesSo_40 ?_
      refine g_iload C 5 dX6_comesSo_41 rfl ?_
      refine g_iadd C dX6_comesSo_43 ?_
      refine g_iald C Kf (qAM_2 hK0) dX6_comesSo_44 hf (fun hf => ?_)
      refine g_aload_n C 0 dX6_comesSo_45 rfl ?_
      refine g_getR C Kf cl_X6 (qF_X6_6 hK0) (by decide) dX6_comesSo_46 kf_X6_25 ?_
      refine g_bipush (v := 24) C dX6_comesSo_49 (by decide) ?_
      refine g_ialdL C Kf 24 (by decide) (by unfold vp_in; decide) (qAM_6 hK0) dX6_comesSo_51 ?_
      obtain ⟨r_13, h_12, hf⟩ := b1_some hf
      refine g_cS_i C Kf [.ref (K.2.1 7), .int (6 + (3 * x1)), .int x2, .int (σ.1 2 ((40 * x3) + x5_2).toNatClampNeg), .int (σ.1 6 24)] (mX6_readsBy hK0 X.1.2.1 σ 7 (6 + (3 * x1)) x2 (σ.1 2 ((40 * x3) + x5_2).toNatClampNeg) (σ.1 6 24) (by decide) r_13 h_12) mi_X6_readsBy km_X6_118 ⟨rfl, rfl, by decide, by decide⟩ rfl rfl (Nat.le_of_ble_eq_true rfl) dX6_comesSo_52 ?_
      refine g_aload_n C 0 dX6_comesSo_55 rfl ?_
      refine g_getR C Kf cl_X6 (qF_X6_1 hK0) (by decide) dX6_comesSo_56 kf_X6_13 ?_
      refine g_bipush (v := 40) C dX6_comesSo_59 (by decide) ?_
      refine g_iload_n C 3 dX6_comesSo_61 rfl ?_
      refine g_imul C dX6_comesSo_62 ?_
      refine g_iload C 5 dX6_comesSo_63 rfl ?_
      refine g_iadd C dX6_comesSo_65 ?_
      refine g_iconst (v := 1) C dX6_comesSo_66 (by decide) ?_
      refine g_iadd C dX6_comesSo_67 ?_
      refine g_iald C Kf (qAM_2 hK0) dX6_comesSo_68 hf (fun hf => ?_)
      refine g_icmp_ne C 76 dX6_comesSo_69 (by decide) hf (fun hf => ?_) (fun hf => ?_)
      · refine g_cut [0, 1, 2, 3, 5] rfl ?_
        exact HJ_10 hf
      · refine g_iconst (v := 1) C dX6_comesSo_72 (by decide) ?_
        refine g_goto C 77 dX6_comesSo_73 (by decide) ?_
        refine g_cut [0, 1, 2, 3, 5] rfl ?_
        exact HJ_6 _ hf
set_option maxHeartbeats 4000000 in
set_option maxRecDepth 100000 in
theorem mX6_comesSo {K : Kx} (hK0 : isKM K) (l : Launch) (σ : St) (x1 : Int32) (x2 : Int32) (x3 : Int32)  (r : Int32) (hf : f6_comesSo σ x1 x2 x3 = some r) : mC K l yX6_comesSo cX6_comesSo 6 (some .boolean) rmX6_comesSo [.ref (K.2.1 0), .int x1, .int x2, .int x3] σ (some (.int r)) σ := by
  refine g_entry (own := RX6) rfl (by decide +kernel) (Nat.le_of_ble_eq_true rfl) (fun X hX C Kf hR => ?_)
  subst hX
  unfold f6_comesSo at hf
  show gG X σ 0 [(0, .ref (K.2.1 0)), (1, .int x1), (2, .int x2), (3, .int x3)] []
  refine g_iconst (v := 1) C dX6_comesSo_0 (by decide) ?_
  refine g_istore C [(4, .int 1), (0, .ref (K.2.1 0)), (1, .int x1), (2, .int x2), (3, .int x3)] dX6_comesSo_1 (by decide) rfl ?_
  refine g_iconst (v := 0) C dX6_comesSo_3 (by decide) ?_
  refine g_istore C [(5, .int 0), (4, .int 1), (0, .ref (K.2.1 0)), (1, .int x1), (2, .int x2), (3, .int x3)] dX6_comesSo_4 (by decide) rfl ?_
  refine g_cut [2, 3, 4, 5, 1, 0] rfl ?_
  refine wL6_comesSo_6 hK0 σ x1 x2 x3 _ C Kf hR _ (fun x4_14 hf => ?_) _ _ _ hf
  refine g_iload C 0 dX6_comesSo_85 rfl ?_
  exact g_zretRB C Kf hR dX6_comesSo_87 hf
abbrev rmX6_comesTo : Room := { frames := 1, cells := 0, slots := 0, locals := 21 }
set_option maxHeartbeats 4000000 in
set_option maxRecDepth 100000 in
theorem wL6_comesTo_6 {X : Gx St} {K : Kx} (hK0 : isKM K) (σ : St) (x1 : Int32) (x2 : Int32) (x3 : Int32) (r : Int32) (C : gF X cX6_comesTo RX6 (some .boolean) 6 rmX6_comesTo) (Kf : kF X K) (hR : gR X K (some (.int r)) σ) (k : Int32 → Option (Int32)) (Hk : ∀ (x4_3 : Int32), k x4_3 = some r → gG X σ 53 [(3, .int x3), (4, .int x4_3)] []) : ∀ (n : Nat) (x4_1 : Int32) (x5_2 : Int32), L6_comesTo_6 σ x1 x2 x3 k n x4_1 x5_2 = some r → gG X σ 6 [(0, .ref (K.2.1 0)), (1, .int x1), (2, .int x2), (3, .int x3), (4, .int x4_1), (5, .int x5_2)] [] := by
  intro n
  induction n with
  | zero => intro _ _ hf; unfold L6_comesTo_6 at hf; cases hf
  | succ n ih =>
  intro x4_1 x5_2 hf
  unfold L6_comesTo_6 at hf
  refine g_iload C 5 dX6_comesTo_6 rfl ?_
  refine g_aload_n C 0 dX6_comesTo_8 rfl ?_
  refine g_getI C Kf cl_X6 (qF_X6_4 hK0) (by decide) dX6_comesTo_9 kf_X6_102 ?_
  refine g_icmp_ge C 53 dX6_comesTo_12 (by decide) hf (fun hf => ?_) (fun hf => ?_)
  · refine g_cut [3, 4] rfl ?_
    exact Hk _ hf
  · refine g_iload C 4 dX6_comesTo_15 rfl ?_
    refine g_iload_n C 1 dX6_comesTo_17 rfl ?_
    refine g_iload C 5 dX6_comesTo_18 rfl ?_
    obtain ⟨r_5, h_4, hf⟩ := b1_some hf
    refine g_cS_i C Kf [.int x1, .int x5_2] (mX6_has hK0 X.1.2.1 σ x1 x5_2 r_5 h_4) mi_X6_has km_X6_122 ⟨rfl, rfl, by decide, by decide⟩ rfl rfl (Nat.le_of_ble_eq_true rfl) dX6_comesTo_20 ?_
    refine g_jn hf (fun j_7 ej_9 hf => ?_)
    have HJ_8 : ∀ (y_6 : Int32), j_7 y_6 = some r → gG X σ 44 [(0, .ref (K.2.1 0)), (1, .int x1), (2, .int x2), (3, .int x3), (5, .int x5_2)] [.int y_6, .int x4_1] := by
      intro y_6 hf
      rw [ej_9] at hf
      refine g_iadd C dX6_comesTo_44 ?_
      refine g_istoreB C (fun x4_10 => [(4, .int x4_10), (0, .ref (K.2.1 0)), (1, .int x1), (2, .int x2), (3, .int x3), (5, .int x5_2)]) dX6_comesTo_45 (by decide) (fun _ => rfl) hf (fun x4_10 hf => ?_)
      refine g_iinc (d := 1) C 5 (fun x5_11 => [(5, .int x5_11), (4, .int x4_10), (0, .ref (K.2.1 0)), (1, .int x1), (2, .int x2), (3, .int x3)]) dX6_comesTo_47 rfl (by decide) (by decide) (fun _ => rfl) hf (fun x5_11 hf => ?_)
      refine g_goto C 6 dX6_comesTo_50 (by decide) ?_
      refine g_cut [2, 3, 4, 5, 1, 0] rfl ?_
      exact ih _ _ hf
    refine g_if_eq C 43 dX6_comesTo_23 (by decide) hf (fun hf => ?_) (fun hf => ?_)
    · refine g_iconst (v := 0) C dX6_comesTo_43 (by decide) ?_
      refine g_cut [0, 1, 2, 3, 5] rfl ?_
      exact HJ_8 _ hf
    · refine g_aload_n C 0 dX6_comesTo_26 rfl ?_
      refine g_getR C Kf cl_X6 (qF_X6_6 hK0) (by decide) dX6_comesTo_27 kf_X6_25 ?_
      refine g_bipush (v := 6) C dX6_comesTo_30 (by decide) ?_
      refine g_iconst (v := 3) C dX6_comesTo_32 (by decide) ?_
      refine g_iload C 5 dX6_comesTo_33 rfl ?_
      refine g_imul C dX6_comesTo_35 ?_
      refine g_iadd C dX6_comesTo_36 ?_
      refine g_iload_n C 2 dX6_comesTo_37 rfl ?_
      refine g_iadd C dX6_comesTo_38 ?_
      refine g_iald C Kf (qAM_6 hK0) dX6_comesTo_39 hf (fun hf => ?_)
      refine g_goto C 44 dX6_comesTo_40 (by decide) ?_
      refine g_cut [0, 1, 2, 3, 5] rfl ?_
      exact HJ_8 _ hf
set_option maxHeartbeats 4000000 in
set_option maxRecDepth 100000 in
theorem mX6_comesTo {K : Kx} (hK0 : isKM K) (l : Launch) (σ : St) (x1 : Int32) (x2 : Int32) (x3 : Int32)  (r : Int32) (hf : f6_comesTo σ x1 x2 x3 = some r) : mC K l yX6_comesTo cX6_comesTo 6 (some .boolean) rmX6_comesTo [.ref (K.2.1 0), .int x1, .int x2, .int x3] σ (some (.int r)) σ := by
  refine g_entry (own := RX6) rfl (by decide +kernel) (Nat.le_of_ble_eq_true rfl) (fun X hX C Kf hR => ?_)
  subst hX
  unfold f6_comesTo at hf
  show gG X σ 0 [(0, .ref (K.2.1 0)), (1, .int x1), (2, .int x2), (3, .int x3)] []
  refine g_iconst (v := 0) C dX6_comesTo_0 (by decide) ?_
  refine g_istore C [(4, .int 0), (0, .ref (K.2.1 0)), (1, .int x1), (2, .int x2), (3, .int x3)] dX6_comesTo_1 (by decide) rfl ?_
  refine g_iconst (v := 0) C dX6_comesTo_3 (by decide) ?_
  refine g_istore C [(5, .int 0), (4, .int 0), (0, .ref (K.2.1 0)), (1, .int x1), (2, .int x2), (3, .int x3)] dX6_comesTo_4 (by decide) rfl ?_
  refine g_cut [2, 3, 4, 5, 1, 0] rfl ?_
  refine wL6_comesTo_6 hK0 σ x1 x2 x3 _ C Kf hR _ (fun x4_12 hf => ?_) _ _ _ hf
  refine g_iload C 1 dX6_comesTo_53 rfl ?_
  refine g_iload_n C 0 dX6_comesTo_55 rfl ?_
  refine g_icmp_ne C 63 dX6_comesTo_56 (by decide) hf (fun hf => ?_) (fun hf => ?_)
  · refine g_iconst (v := 0) C dX6_comesTo_63 (by decide) ?_
    exact g_zretR C Kf hR (Or.inl rfl) dX6_comesTo_64 hf
  · refine g_iconst (v := 1) C dX6_comesTo_59 (by decide) ?_
    refine g_goto C 64 dX6_comesTo_60 (by decide) ?_
    exact g_zretR C Kf hR (Or.inr rfl) dX6_comesTo_64 hf
abbrev rmX6_copy : Room := { frames := 2, cells := 0, slots := 0, locals := 45 }
set_option maxHeartbeats 4000000 in
set_option maxRecDepth 100000 in
theorem wL6_copy_104 {X : Gx St} {K : Kx} (hK0 : isKM K) (σ : St) (x1 : Int32) (x2 : Int32) (x3 : Int32) (x4 : Int32) (x5 : Int32) (r : Int32) (σ' : St) (C : gF X cX6_copy RX6 (some .int) 8 rmX6_copy) (Kf : kF X K) (hR : gR X K (some (.int r)) σ') (k : St → Option (Int32 × St)) (Hk : ∀ (σ_25 : St), k σ_25 = some (r, σ') → gG X σ_25 166 [] []) : ∀ (n : Nat) (x6_17 : Int32) (σ_18 : St), L6_copy_104 x1 x2 x3 x4 x5 k n x6_17 σ_18 = some (r, σ') → gG X σ_18 104 [(0, .ref (K.2.1 0)), (1, .int x1), (2, .int x2), (3, .int x3), (4, .int x4), (5, .int x5), (6, .int x6_17)] [] := by
  intro n
  induction n with
  | zero => intro _ _ hf; unfold L6_copy_104 at hf; cases hf
  | succ n ih =>
  intro x6_17 σ_18 hf
  unfold L6_copy_104 at hf
  refine g_iload C 6 dX6_copy_104 rfl ?_
  refine g_iload C 5 dX6_copy_106 rfl ?_
  refine g_icmp_ge C 166 dX6_copy_108 (by decide) hf (fun hf => ?_) (fun hf => ?_)
  · refine g_cut [] rfl ?_
    exact Hk _ hf
  · refine g_iload C 4 dX6_copy_111 rfl ?_
    refine g_iload_n C 2 dX6_copy_113 rfl ?_
    refine g_jn hf (fun j_20 ej_22 hf => ?_)
    have HJ_21 : ∀ (y_19 : Int32), j_20 y_19 = some (r, σ') → gG X σ_18 129 [(0, .ref (K.2.1 0)), (1, .int x1), (2, .int x2), (3, .int x3), (4, .int x4), (5, .int x5), (6, .int x6_17)] [.int y_19] := by
      intro y_19 hf
      rw [ej_22] at hf
      refine g_istore C [(7, .int y_19), (0, .ref (K.2.1 0)), (1, .int x1), (2, .int x2), (3, .int x3), (4, .int x4), (5, .int x5), (6, .int x6_17)] dX6_copy_129 (by decide) rfl ?_
      refine g_aload_n C 1 dX6_copy_131 rfl ?_
      refine g_getR C Kf cl_X6 (qF_X6_1 hK0) (by decide) dX6_copy_132 kf_X6_13 ?_
      refine g_bipush (v := 40) C dX6_copy_135 (by decide) ?_
      refine g_iload_n C 4 dX6_copy_137 rfl ?_
      refine g_imul C dX6_copy_138 ?_
      refine g_iload C 5 dX6_copy_139 rfl ?_
      refine g_iadd C dX6_copy_141 ?_
      refine g_iload C 0 dX6_copy_142 rfl ?_
      refine g_iadd C dX6_copy_144 ?_
      refine g_aload_n C 1 dX6_copy_145 rfl ?_
      refine g_getR C Kf cl_X6 (qF_X6_1 hK0) (by decide) dX6_copy_146 kf_X6_13 ?_
      refine g_bipush (v := 40) C dX6_copy_149 (by decide) ?_
      refine g_iload_n C 2 dX6_copy_151 rfl ?_
      refine g_imul C dX6_copy_152 ?_
      refine g_iload_n C 3 dX6_copy_153 rfl ?_
      refine g_iadd C dX6_copy_154 ?_
      refine g_iload C 0 dX6_copy_155 rfl ?_
      refine g_iadd C dX6_copy_157 ?_
      refine g_iald C Kf (qAM_2 hK0) dX6_copy_158 hf (fun hf => ?_)
      refine g_iast C Kf (qAM_2 hK0) dX6_copy_159 hf (fun σ_23 hf => ?_)
      refine g_iinc (d := 1) C 7 (fun x6_24 => [(6, .int x6_24), (7, .int y_19), (0, .ref (K.2.1 0)), (1, .int x1), (2, .int x2), (3, .int x3), (4, .int x4), (5, .int x5)]) dX6_copy_160 rfl (by decide) (by decide) (fun _ => rfl) hf (fun x6_24 hf => ?_)
      refine g_goto C 104 dX6_copy_163 (by decide) ?_
      refine g_cut [2, 3, 4, 5, 6, 7, 0] rfl ?_
      exact ih _ _ hf
    refine g_icmp_le C 127 dX6_copy_114 (by decide) hf (fun hf => ?_) (fun hf => ?_)
    · refine g_iload C 6 dX6_copy_127 rfl ?_
      exact HJ_21 _ hf
    · refine g_iload C 5 dX6_copy_117 rfl ?_
      refine g_iconst (v := 1) C dX6_copy_119 (by decide) ?_
      refine g_isub C dX6_copy_120 ?_
      refine g_iload C 6 dX6_copy_121 rfl ?_
      refine g_isub C dX6_copy_123 ?_
      refine g_goto C 129 dX6_copy_124 (by decide) ?_
      exact HJ_21 _ hf
set_option maxHeartbeats 4000000 in
set_option maxRecDepth 100000 in
theorem mX6_copy {K : Kx} (hK0 : isKM K) (l : Launch) (σ : St) (x1 : Int32) (x2 : Int32) (x3 : Int32) (x4 : Int32) (x5 : Int32)  (r : Int32) (σ' : St) (hf : f6_copy σ x1 x2 x3 x4 x5 = some (r, σ')) : mC K l yX6_copy cX6_copy 8 (some .int) rmX6_copy [.ref (K.2.1 0), .int x1, .int x2, .int x3, .int x4, .int x5] σ (some (.int r)) σ' := by
  refine g_entry (own := RX6) rfl (by decide +kernel) (Nat.le_of_ble_eq_true rfl) (fun X hX C Kf hR => ?_)
  subst hX
  unfold f6_copy at hf
  show gG X σ 0 [(0, .ref (K.2.1 0)), (1, .int x1), (2, .int x2), (3, .int x3), (4, .int x4), (5, .int x5)] []
  refine g_iload_n C 1 dX6_copy_0 rfl ?_
  obtain ⟨r_2, h_1, hf⟩ := b1_some hf
  refine g_cS_i C Kf [.int x1] (mX6_isRow hK0 X.1.2.1 σ x1 r_2 h_1) mi_X6_isRow km_X6_75 ⟨rfl, rfl, by decide, by decide⟩ rfl rfl (Nat.le_of_ble_eq_true rfl) dX6_copy_1 ?_
  refine g_if_eq C 14 dX6_copy_4 (by decide) hf (fun hf => ?_) (fun hf => ?_)
  · refine g_iconst (v := (-1)) C dX6_copy_14 (by decide) ?_
    exact g_iretP C Kf hR dX6_copy_15 hf
  · refine g_iload_n C 3 dX6_copy_7 rfl ?_
    obtain ⟨r_4, h_3, hf⟩ := b1_some hf
    refine g_cS_i C Kf [.int x3] (mX6_isRow hK0 X.1.2.1 σ x3 r_4 h_3) mi_X6_isRow km_X6_75 ⟨rfl, rfl, by decide, by decide⟩ rfl rfl (Nat.le_of_ble_eq_true rfl) dX6_copy_8 ?_
    refine g_if_ne C 16 dX6_copy_11 (by decide) hf (fun hf => ?_) (fun hf => ?_)
    · refine g_iload C 5 dX6_copy_16 rfl ?_
      refine g_if_ge C 27 dX6_copy_18 (by decide) hf (fun hf => ?_) (fun hf => ?_)
      · refine g_aload_n C 0 dX6_copy_27 rfl ?_
        refine g_getR C Kf cl_X6 (qF_X6_0 hK0) (by decide) dX6_copy_28 kf_X6_7 ?_
        refine g_iload_n C 1 dX6_copy_31 rfl ?_
        refine g_iald C Kf (qAM_1 hK0) dX6_copy_32 hf (fun hf => ?_)
        refine g_jn hf (fun j_5 ej_7 hf => ?_)
        have HJ_6 : j_5 = some (r, σ') → gG X σ 45 [(0, .ref (K.2.1 0))] [] := by
          intro hf
          rw [ej_7] at hf
          refine g_aload_n C 0 dX6_copy_45 rfl ?_
          refine g_iconst (v := 1) C dX6_copy_46 (by decide) ?_
          obtain ⟨r_9, σ_10, h_8, hf⟩ := b2_some hf
          refine g_cV_i C Kf [.int 1] (mX6_found hK0 X.1.2.1 σ 1 r_9 σ_10 h_8) mi_X6_found (qO_X6 hK0) rfl km_X6_79 ⟨rfl, rfl, by decide, by decide⟩ rfl rfl (Nat.le_of_ble_eq_true rfl) dX6_copy_47 ?_
          exact g_iretP C Kf hR dX6_copy_50 hf
        refine g_if_lt C 45 dX6_copy_33 (by decide) hf (fun hf => ?_) (fun hf => ?_)
        · refine g_cut [0] rfl ?_
          exact HJ_6 hf
        · refine g_aload_n C 0 dX6_copy_36 rfl ?_
          refine g_getR C Kf cl_X6 (qF_X6_0 hK0) (by decide) dX6_copy_37 kf_X6_7 ?_
          refine g_iload_n C 3 dX6_copy_40 rfl ?_
          refine g_iald C Kf (qAM_1 hK0) dX6_copy_41 hf (fun hf => ?_)
          refine g_if_ge C 51 dX6_copy_42 (by decide) hf (fun hf => ?_) (fun hf => ?_)
          · refine g_iload_n C 2 dX6_copy_51 rfl ?_
            refine g_jn hf (fun j_11 ej_13 hf => ?_)
            have HJ_12 : j_11 = some (r, σ') → gG X σ 95 [(0, .ref (K.2.1 0))] [] := by
              intro hf
              rw [ej_13] at hf
              refine g_aload_n C 0 dX6_copy_95 rfl ?_
              refine g_iconst (v := 2) C dX6_copy_96 (by decide) ?_
              obtain ⟨r_15, σ_16, h_14, hf⟩ := b2_some hf
              refine g_cV_i C Kf [.int 2] (mX6_found hK0 X.1.2.1 σ 2 r_15 σ_16 h_14) mi_X6_found (qO_X6 hK0) rfl km_X6_79 ⟨rfl, rfl, by decide, by decide⟩ rfl rfl (Nat.le_of_ble_eq_true rfl) dX6_copy_97 ?_
              exact g_iretP C Kf hR dX6_copy_100 hf
            refine g_if_lt C 95 dX6_copy_52 (by decide) hf (fun hf => ?_) (fun hf => ?_)
            · refine g_cut [0] rfl ?_
              exact HJ_12 hf
            · refine g_iload C 4 dX6_copy_55 rfl ?_
              refine g_if_lt C 95 dX6_copy_57 (by decide) hf (fun hf => ?_) (fun hf => ?_)
              · refine g_cut [0] rfl ?_
                exact HJ_12 hf
              · refine g_iload_n C 2 dX6_copy_60 rfl ?_
                refine g_i2l C dX6_copy_61 ?_
                refine g_iload C 5 dX6_copy_62 rfl ?_
                refine g_i2l C dX6_copy_64 ?_
                refine g_ladd C dX6_copy_65 ?_
                refine g_aload_n C 0 dX6_copy_66 rfl ?_
                refine g_getR C Kf cl_X6 (qF_X6_0 hK0) (by decide) dX6_copy_67 kf_X6_7 ?_
                refine g_iload_n C 1 dX6_copy_70 rfl ?_
                refine g_iald C Kf (qAM_1 hK0) dX6_copy_71 hf (fun hf => ?_)
                refine g_i2l C dX6_copy_72 ?_
                refine g_lcmp_gt C 95 dX6_copy_73 dX6_copy_74 (by decide) hf (fun hf => ?_) (fun hf => ?_)
                · refine g_cut [0] rfl ?_
                  exact HJ_12 hf
                · refine g_iload C 4 dX6_copy_77 rfl ?_
                  refine g_i2l C dX6_copy_79 ?_
                  refine g_iload C 5 dX6_copy_80 rfl ?_
                  refine g_i2l C dX6_copy_82 ?_
                  refine g_ladd C dX6_copy_83 ?_
                  refine g_aload_n C 0 dX6_copy_84 rfl ?_
                  refine g_getR C Kf cl_X6 (qF_X6_0 hK0) (by decide) dX6_copy_85 kf_X6_7 ?_
                  refine g_iload_n C 3 dX6_copy_88 rfl ?_
                  refine g_iald C Kf (qAM_1 hK0) dX6_copy_89 hf (fun hf => ?_)
                  refine g_i2l C dX6_copy_90 ?_
                  refine g_lcmp_le C 101 dX6_copy_91 dX6_copy_92 (by decide) hf (fun hf => ?_) (fun hf => ?_)
                  · refine g_iconst (v := 0) C dX6_copy_101 (by decide) ?_
                    refine g_istore C [(6, .int 0), (0, .ref (K.2.1 0)), (1, .int x1), (2, .int x2), (3, .int x3), (4, .int x4), (5, .int x5)] dX6_copy_102 (by decide) rfl ?_
                    refine g_cut [1, 2, 3, 4, 5, 6, 0] rfl ?_
                    refine wL6_copy_104 hK0 σ x1 x2 x3 x4 x5 _ _ C Kf hR _ (fun σ_26 hf => ?_) _ _ _ hf
                    refine g_iconst (v := 1) C dX6_copy_166 (by decide) ?_
                    exact g_iretP C Kf hR dX6_copy_167 hf
                  · refine g_cut [0] rfl ?_
                    exact HJ_12 hf
          · refine g_cut [0] rfl ?_
            exact HJ_6 hf
      · refine g_aload_n C 0 dX6_copy_21 rfl ?_
        refine g_iconst (v := 5) C dX6_copy_22 (by decide) ?_
        obtain ⟨r_28, σ_29, h_27, hf⟩ := b2_some hf
        refine g_cV_i C Kf [.int 5] (mX6_found hK0 X.1.2.1 σ 5 r_28 σ_29 h_27) mi_X6_found (qO_X6 hK0) rfl km_X6_79 ⟨rfl, rfl, by decide, by decide⟩ rfl rfl (Nat.le_of_ble_eq_true rfl) dX6_copy_23 ?_
        exact g_iretP C Kf hR dX6_copy_26 hf
    · refine g_iconst (v := (-1)) C dX6_copy_14 (by decide) ?_
      exact g_iretP C Kf hR dX6_copy_15 hf
abbrev rmX6_figuresAll : Room := { frames := 0, cells := 0, slots := 0, locals := 0 }
set_option maxHeartbeats 4000000 in
set_option maxRecDepth 100000 in
theorem wL6_figuresAll_4 {X : Gx St} {K : Kx} (hK0 : isKM K) (σ : St) (r : Int32) (C : gF X cX6_figuresAll RX6 (some .int) 3 rmX6_figuresAll) (Kf : kF X K) (hR : gR X K (some (.int r)) σ) (k : Int32 → Option (Int32)) (Hk : ∀ (x1_3 : Int32), k x1_3 = some r → gG X σ 32 [(1, .int x1_3)] []) : ∀ (n : Nat) (x1_1 : Int32) (x2_2 : Int32), L6_figuresAll_4 σ k n x1_1 x2_2 = some r → gG X σ 4 [(0, .ref (K.2.1 0)), (1, .int x1_1), (2, .int x2_2)] [] := by
  intro n
  induction n with
  | zero => intro _ _ hf; unfold L6_figuresAll_4 at hf; cases hf
  | succ n ih =>
  intro x1_1 x2_2 hf
  unfold L6_figuresAll_4 at hf
  refine g_iload_n C 2 dX6_figuresAll_4 rfl ?_
  refine g_iconst (v := 3) C dX6_figuresAll_5 (by decide) ?_
  refine g_aload_n C 0 dX6_figuresAll_6 rfl ?_
  refine g_getI C Kf cl_X6 (qF_X6_4 hK0) (by decide) dX6_figuresAll_7 kf_X6_102 ?_
  refine g_imul C dX6_figuresAll_10 ?_
  refine g_icmp_ge C 32 dX6_figuresAll_11 (by decide) hf (fun hf => ?_) (fun hf => ?_)
  · refine g_cut [1] rfl ?_
    exact Hk _ hf
  · refine g_iload_n C 1 dX6_figuresAll_14 rfl ?_
    refine g_aload_n C 0 dX6_figuresAll_15 rfl ?_
    refine g_getR C Kf cl_X6 (qF_X6_6 hK0) (by decide) dX6_figuresAll_16 kf_X6_25 ?_
    refine g_bipush (v := 6) C dX6_figuresAll_19 (by decide) ?_
    refine g_iload_n C 2 dX6_figuresAll_21 rfl ?_
    refine g_iadd C dX6_figuresAll_22 ?_
    refine g_iald C Kf (qAM_6 hK0) dX6_figuresAll_23 hf (fun hf => ?_)
    refine g_iadd C dX6_figuresAll_24 ?_
    refine g_istore_nB C (fun x1_4 => [(1, .int x1_4), (0, .ref (K.2.1 0)), (2, .int x2_2)]) dX6_figuresAll_25 rfl (by decide) (fun _ => rfl) hf (fun x1_4 hf => ?_)
    refine g_iinc (d := 1) C 2 (fun x2_5 => [(2, .int x2_5), (1, .int x1_4), (0, .ref (K.2.1 0))]) dX6_figuresAll_26 rfl (by decide) (by decide) (fun _ => rfl) hf (fun x2_5 hf => ?_)
    refine g_goto C 4 dX6_figuresAll_29 (by decide) ?_
    refine g_cut [2, 1, 0] rfl ?_
    exact ih _ _ hf
set_option maxHeartbeats 4000000 in
set_option maxRecDepth 100000 in
theorem mX6_figuresAll {K : Kx} (hK0 : isKM K) (l : Launch) (σ : St)   (r : Int32) (hf : f6_figuresAll σ = some r) : mC K l yX6_figuresAll cX6_figuresAll 3 (some .int) rmX6_figuresAll [.ref (K.2.1 0)] σ (some (.int r)) σ := by
  refine g_entry (own := RX6) rfl (by decide +kernel) (Nat.le_of_ble_eq_true rfl) (fun X hX C Kf hR => ?_)
  subst hX
  unfold f6_figuresAll at hf
  show gG X σ 0 [(0, .ref (K.2.1 0))] []
  refine g_iconst (v := 0) C dX6_figuresAll_0 (by decide) ?_
  refine g_istore_n C [(1, .int 0), (0, .ref (K.2.1 0))] dX6_figuresAll_1 rfl (by decide) rfl ?_
  refine g_iconst (v := 0) C dX6_figuresAll_2 (by decide) ?_
  refine g_istore_n C [(2, .int 0), (1, .int 0), (0, .ref (K.2.1 0))] dX6_figuresAll_3 rfl (by decide) rfl ?_
  refine g_cut [2, 1, 0] rfl ?_
  refine wL6_figuresAll_4 hK0 σ _ C Kf hR _ (fun x1_6 hf => ?_) _ _ _ hf
  refine g_iload_n C 0 dX6_figuresAll_32 rfl ?_
  exact g_iretR C Kf hR dX6_figuresAll_33 hf
abbrev rmX6_of : Room := { frames := 0, cells := 0, slots := 0, locals := 0 }
set_option maxHeartbeats 4000000 in
set_option maxRecDepth 100000 in
theorem wL6_of_5 {X : Gx St} {K : Kx} (hK0 : isKM K) (σ : St) (x1 : Int32) (x2 : Int32) (r : Int32) (C : gF X cX6_of RX6 (some .int) 5 rmX6_of) (Kf : kF X K) (hR : gR X K (some (.int r)) σ) (k : Int32 → Option (Int32)) (Hk : ∀ (x3_3 : Int32), k x3_3 = some r → gG X σ 50 [(3, .int x3_3)] []) : ∀ (n : Nat) (x3_1 : Int32) (x4_2 : Int32), L6_of_5 σ x1 x2 k n x3_1 x4_2 = some r → gG X σ 5 [(0, .ref (K.2.1 0)), (1, .int x1), (2, .int x2), (3, .int x3_1), (4, .int x4_2)] [] := by
  intro n
  induction n with
  | zero => intro _ _ hf; unfold L6_of_5 at hf; cases hf
  | succ n ih =>
  intro x3_1 x4_2 hf
  unfold L6_of_5 at hf
  refine g_iload C 4 dX6_of_5 rfl ?_
  refine g_aload_n C 0 dX6_of_7 rfl ?_
  refine g_getI C Kf cl_X6 (qF_X6_4 hK0) (by decide) dX6_of_8 kf_X6_102 ?_
  refine g_icmp_ge C 50 dX6_of_11 (by decide) hf (fun hf => ?_) (fun hf => ?_)
  · refine g_cut [3] rfl ?_
    exact Hk _ hf
  · refine g_iload_n C 3 dX6_of_14 rfl ?_
    refine g_aload_n C 0 dX6_of_15 rfl ?_
    refine g_getR C Kf cl_X6 (qF_X6_5 hK0) (by decide) dX6_of_16 kf_X6_22 ?_
    refine g_iload C 4 dX6_of_19 rfl ?_
    refine g_iald C Kf (qAM_5 hK0) dX6_of_21 hf (fun hf => ?_)
    refine g_iload_n C 1 dX6_of_22 rfl ?_
    refine g_jn hf (fun j_5 ej_7 hf => ?_)
    have HJ_6 : ∀ (y_4 : Int32), j_5 y_4 = some r → gG X σ 42 [(0, .ref (K.2.1 0)), (1, .int x1), (2, .int x2), (4, .int x4_2)] [.int y_4, .int x3_1] := by
      intro y_4 hf
      rw [ej_7] at hf
      refine g_iadd C dX6_of_42 ?_
      refine g_istore_nB C (fun x3_8 => [(3, .int x3_8), (0, .ref (K.2.1 0)), (1, .int x1), (2, .int x2), (4, .int x4_2)]) dX6_of_43 rfl (by decide) (fun _ => rfl) hf (fun x3_8 hf => ?_)
      refine g_iinc (d := 1) C 4 (fun x4_9 => [(4, .int x4_9), (3, .int x3_8), (0, .ref (K.2.1 0)), (1, .int x1), (2, .int x2)]) dX6_of_44 rfl (by decide) (by decide) (fun _ => rfl) hf (fun x4_9 hf => ?_)
      refine g_goto C 5 dX6_of_47 (by decide) ?_
      refine g_cut [2, 3, 4, 1, 0] rfl ?_
      exact ih _ _ hf
    refine g_jn hf (fun j_10 ej_12 hf => ?_)
    have HJ_11 : j_10 = some r → gG X σ 37 [(0, .ref (K.2.1 0)), (1, .int x1), (2, .int x2), (4, .int x4_2)] [.int x3_1] := by
      intro hf
      rw [ej_12] at hf
      refine g_iconst (v := 1) C dX6_of_37 (by decide) ?_
      refine g_goto C 42 dX6_of_38 (by decide) ?_
      exact HJ_6 _ hf
    refine g_icmp_eq C 37 dX6_of_23 (by decide) hf (fun hf => ?_) (fun hf => ?_)
    · refine g_cut [0, 1, 2, 4] rfl ?_
      exact HJ_11 hf
    · refine g_aload_n C 0 dX6_of_26 rfl ?_
      refine g_getR C Kf cl_X6 (qF_X6_5 hK0) (by decide) dX6_of_27 kf_X6_22 ?_
      refine g_iload C 4 dX6_of_30 rfl ?_
      refine g_iald C Kf (qAM_5 hK0) dX6_of_32 hf (fun hf => ?_)
      refine g_iload_n C 2 dX6_of_33 rfl ?_
      refine g_icmp_ne C 41 dX6_of_34 (by decide) hf (fun hf => ?_) (fun hf => ?_)
      · refine g_iconst (v := 0) C dX6_of_41 (by decide) ?_
        refine g_cut [0, 1, 2, 4] rfl ?_
        exact HJ_6 _ hf
      · refine g_cut [0, 1, 2, 4] rfl ?_
        exact HJ_11 hf
set_option maxHeartbeats 4000000 in
set_option maxRecDepth 100000 in
theorem mX6_of {K : Kx} (hK0 : isKM K) (l : Launch) (σ : St) (x1 : Int32) (x2 : Int32)  (r : Int32) (hf : f6_of σ x1 x2 = some r) : mC K l yX6_of cX6_of 5 (some .int) rmX6_of [.ref (K.2.1 0), .int x1, .int x2] σ (some (.int r)) σ := by
  refine g_entry (own := RX6) rfl (by decide +kernel) (Nat.le_of_ble_eq_true rfl) (fun X hX C Kf hR => ?_)
  subst hX
  unfold f6_of at hf
  show gG X σ 0 [(0, .ref (K.2.1 0)), (1, .int x1), (2, .int x2)] []
  refine g_iconst (v := 0) C dX6_of_0 (by decide) ?_
  refine g_istore_n C [(3, .int 0), (0, .ref (K.2.1 0)), (1, .int x1), (2, .int x2)] dX6_of_1 rfl (by decide) rfl ?_
  refine g_iconst (v := 0) C dX6_of_2 (by decide) ?_
  refine g_istore C [(4, .int 0), (3, .int 0), (0, .ref (K.2.1 0)), (1, .int x1), (2, .int x2)] dX6_of_3 (by decide) rfl ?_
  refine g_cut [2, 3, 4, 1, 0] rfl ?_
  refine wL6_of_5 hK0 σ x1 x2 _ C Kf hR _ (fun x3_13 hf => ?_) _ _ _ hf
  refine g_iload_n C 0 dX6_of_50 rfl ?_
  exact g_iretR C Kf hR dX6_of_51 hf
abbrev rmX6_there : Room := { frames := 0, cells := 0, slots := 0, locals := 0 }
set_option maxHeartbeats 4000000 in
set_option maxRecDepth 100000 in
theorem wL6_there_4 {X : Gx St} {K : Kx} (hK0 : isKM K) (σ : St) (a0 : Nat) (ha0 : 0 < lnM a0) (x1 : Int32) (r : Int32) (C : gF X cX6_there RX6 (some .int) 4 rmX6_there) (Kf : kF X K) (hR : gR X K (some (.int r)) σ) (k : Int32 → Option (Int32)) (Hk : ∀ (x2_3 : Int32), k x2_3 = some r → gG X σ 29 [(2, .int x2_3)] []) : ∀ (n : Nat) (x2_1 : Int32) (x3_2 : Int32), L6_there_4 σ a0 x1 k n x2_1 x3_2 = some r → gG X σ 4 [(0, .ref (K.2.1 a0)), (1, .int x1), (2, .int x2_1), (3, .int x3_2)] [] := by
  intro n
  induction n with
  | zero => intro _ _ hf; unfold L6_there_4 at hf; cases hf
  | succ n ih =>
  intro x2_1 x3_2 hf
  unfold L6_there_4 at hf
  refine g_iload_n C 3 dX6_there_4 rfl ?_
  refine g_iload_n C 1 dX6_there_5 rfl ?_
  refine g_icmp_ge C 29 dX6_there_6 (by decide) hf (fun hf => ?_) (fun hf => ?_)
  · refine g_cut [2] rfl ?_
    exact Hk _ hf
  · refine g_iload_n C 2 dX6_there_9 rfl ?_
    refine g_aload_n C 0 dX6_there_10 rfl ?_
    refine g_iload_n C 3 dX6_there_11 rfl ?_
    refine g_iald C Kf (qAM hK0 ha0) dX6_there_12 hf (fun hf => ?_)
    refine g_jn hf (fun j_5 ej_7 hf => ?_)
    have HJ_6 : ∀ (y_4 : Int32), j_5 y_4 = some r → gG X σ 21 [(0, .ref (K.2.1 a0)), (1, .int x1), (3, .int x3_2)] [.int y_4, .int x2_1] := by
      intro y_4 hf
      rw [ej_7] at hf
      refine g_iadd C dX6_there_21 ?_
      refine g_istore_nB C (fun x2_8 => [(2, .int x2_8), (0, .ref (K.2.1 a0)), (1, .int x1), (3, .int x3_2)]) dX6_there_22 rfl (by decide) (fun _ => rfl) hf (fun x2_8 hf => ?_)
      refine g_iinc (d := 1) C 3 (fun x3_9 => [(3, .int x3_9), (2, .int x2_8), (0, .ref (K.2.1 a0)), (1, .int x1)]) dX6_there_23 rfl (by decide) (by decide) (fun _ => rfl) hf (fun x3_9 hf => ?_)
      refine g_goto C 4 dX6_there_26 (by decide) ?_
      refine g_cut [2, 3, 1, 0] rfl ?_
      exact ih _ _ hf
    refine g_if_ge C 20 dX6_there_13 (by decide) hf (fun hf => ?_) (fun hf => ?_)
    · refine g_iconst (v := 1) C dX6_there_20 (by decide) ?_
      refine g_cut [0, 1, 3] rfl ?_
      exact HJ_6 _ hf
    · refine g_iconst (v := 0) C dX6_there_16 (by decide) ?_
      refine g_goto C 21 dX6_there_17 (by decide) ?_
      refine g_cut [0, 1, 3] rfl ?_
      exact HJ_6 _ hf
set_option maxHeartbeats 4000000 in
set_option maxRecDepth 100000 in
theorem mX6_there {K : Kx} (hK0 : isKM K) (l : Launch) (σ : St) (a0 : Nat) (x1 : Int32) (ha0 : 0 < lnM a0) (r : Int32) (hf : f6_there σ a0 x1 = some r) : mC K l yX6_there cX6_there 4 (some .int) rmX6_there [.ref (K.2.1 a0), .int x1] σ (some (.int r)) σ := by
  refine g_entry (own := RX6) rfl (by decide +kernel) (Nat.le_of_ble_eq_true rfl) (fun X hX C Kf hR => ?_)
  subst hX
  unfold f6_there at hf
  show gG X σ 0 [(0, .ref (K.2.1 a0)), (1, .int x1)] []
  refine g_iconst (v := 0) C dX6_there_0 (by decide) ?_
  refine g_istore_n C [(2, .int 0), (0, .ref (K.2.1 a0)), (1, .int x1)] dX6_there_1 rfl (by decide) rfl ?_
  refine g_iconst (v := 0) C dX6_there_2 (by decide) ?_
  refine g_istore_n C [(3, .int 0), (2, .int 0), (0, .ref (K.2.1 a0)), (1, .int x1)] dX6_there_3 rfl (by decide) rfl ?_
  refine g_cut [2, 3, 1, 0] rfl ?_
  refine wL6_there_4 hK0 σ a0 ha0 x1 _ C Kf hR _ (fun x2_10 hf => ?_) _ _ _ hf
  refine g_iload_n C 0 dX6_there_29 rfl ?_
  exact g_iretR C Kf hR dX6_there_30 hf
abbrev rmX6_count : Room := { frames := 1, cells := 0, slots := 0, locals := 24 }
set_option maxHeartbeats 4000000 in
set_option maxRecDepth 100000 in
theorem mX6_count {K : Kx} (hK0 : isKM K) (l : Launch) (σ : St) (x1 : Int32)  (r : Int32) (hf : f6_count σ x1 = some r) : mC K l yX6_count cX6_count 2 (some .int) rmX6_count [.ref (K.2.1 0), .int x1] σ (some (.int r)) σ := by
  refine g_entry (own := RX6) rfl (by decide +kernel) (Nat.le_of_ble_eq_true rfl) (fun X hX C Kf hR => ?_)
  subst hX
  unfold f6_count at hf
  show gG X σ 0 [(0, .ref (K.2.1 0)), (1, .int x1)] []
  refine g_iload_n C 1 dX6_count_0 rfl ?_
  by_cases hs_1 : x1 = 0
  · rw [if_pos hs_1] at hf
    refine g_tabIn C 56 hs_1 dX6_count_1 (by decide) (by decide) rfl (by decide) ?_
    refine g_aload_n C 0 dX6_count_56 rfl ?_
    refine g_getI C Kf cl_X6 (qF_X6_4 hK0) (by decide) dX6_count_57 kf_X6_102 ?_
    exact g_iretR C Kf hR dX6_count_60 hf
  · rw [if_neg hs_1] at hf
    by_cases hs_2 : x1 = 1
    · rw [if_pos hs_2] at hf
      refine g_tabIn C 61 hs_2 dX6_count_1 (by decide) (by decide) rfl (by decide) ?_
      refine g_aload_n C 0 dX6_count_61 rfl ?_
      refine g_getR C Kf cl_X6 (qF_X6_6 hK0) (by decide) dX6_count_62 kf_X6_25 ?_
      refine g_bipush (v := 24) C dX6_count_65 (by decide) ?_
      refine g_ialdL C Kf 24 (by decide) (by unfold vp_in; decide) (qAM_6 hK0) dX6_count_67 ?_
      exact g_iretR C Kf hR dX6_count_68 hf
    · rw [if_neg hs_2] at hf
      by_cases hs_3 : x1 = 2
      · rw [if_pos hs_3] at hf
        refine g_tabIn C 69 hs_3 dX6_count_1 (by decide) (by decide) rfl (by decide) ?_
        refine g_aload_n C 0 dX6_count_69 rfl ?_
        refine g_getI C Kf cl_X6 (qF_X6_9 hK0) (by decide) dX6_count_70 kf_X6_109 ?_
        exact g_iretR C Kf hR dX6_count_73 hf
      · rw [if_neg hs_3] at hf
        by_cases hs_4 : x1 = 3
        · rw [if_pos hs_4] at hf
          refine g_tabIn C 74 hs_4 dX6_count_1 (by decide) (by decide) rfl (by decide) ?_
          refine g_aload_n C 0 dX6_count_74 rfl ?_
          refine g_getI C Kf cl_X6 (qF_X6_4 hK0) (by decide) dX6_count_75 kf_X6_102 ?_
          refine g_if_ne C 86 dX6_count_78 (by decide) hf (fun hf => ?_) (fun hf => ?_)
          · refine g_aload_n C 0 dX6_count_86 rfl ?_
            refine g_getR C Kf cl_X6 (qF_X6_6 hK0) (by decide) dX6_count_87 kf_X6_25 ?_
            refine g_iconst (v := 0) C dX6_count_90 (by decide) ?_
            refine g_ialdL C Kf 0 (by decide) (by unfold vp_in; decide) (qAM_6 hK0) dX6_count_91 ?_
            exact g_iretR C Kf hR dX6_count_92 hf
          · refine g_bipush (v := (-9)) C dX6_count_81 (by decide) ?_
            refine g_goto C 92 dX6_count_83 (by decide) ?_
            exact g_iretR C Kf hR dX6_count_92 hf
        · rw [if_neg hs_4] at hf
          by_cases hs_5 : x1 = 4
          · rw [if_pos hs_5] at hf
            refine g_tabIn C 93 hs_5 dX6_count_1 (by decide) (by decide) rfl (by decide) ?_
            refine g_aload_n C 0 dX6_count_93 rfl ?_
            obtain ⟨r_12, h_11, hf⟩ := b1_some hf
            refine g_cV_i C Kf [] (mX6_figuresAll hK0 X.1.2.1 σ r_12 h_11) mi_X6_figuresAll (qO_X6 hK0) rfl km_X6_237 ⟨rfl, rfl, by decide, by decide⟩ rfl rfl (Nat.le_of_ble_eq_true rfl) dX6_count_94 ?_
            exact g_iretR C Kf hR dX6_count_97 hf
          · rw [if_neg hs_5] at hf
            by_cases hs_6 : x1 = 5
            · rw [if_pos hs_6] at hf
              refine g_tabIn C 98 hs_6 dX6_count_1 (by decide) (by decide) rfl (by decide) ?_
              refine g_aload_n C 0 dX6_count_98 rfl ?_
              refine g_iconst (v := 2) C dX6_count_99 (by decide) ?_
              refine g_iconst (v := 4) C dX6_count_100 (by decide) ?_
              obtain ⟨r_14, h_13, hf⟩ := b1_some hf
              refine g_cV_i C Kf [.int 2, .int 4] (mX6_of hK0 X.1.2.1 σ 2 4 r_14 h_13) mi_X6_of (qO_X6 hK0) rfl km_X6_241 ⟨rfl, rfl, by decide, by decide⟩ rfl rfl (Nat.le_of_ble_eq_true rfl) dX6_count_101 ?_
              exact g_iretR C Kf hR dX6_count_104 hf
            · rw [if_neg hs_6] at hf
              by_cases hs_7 : x1 = 6
              · rw [if_pos hs_7] at hf
                refine g_tabIn C 105 hs_7 dX6_count_1 (by decide) (by decide) rfl (by decide) ?_
                refine g_aload_n C 0 dX6_count_105 rfl ?_
                refine g_iconst (v := 3) C dX6_count_106 (by decide) ?_
                refine g_iconst (v := 5) C dX6_count_107 (by decide) ?_
                obtain ⟨r_16, h_15, hf⟩ := b1_some hf
                refine g_cV_i C Kf [.int 3, .int 5] (mX6_of hK0 X.1.2.1 σ 3 5 r_16 h_15) mi_X6_of (qO_X6 hK0) rfl km_X6_241 ⟨rfl, rfl, by decide, by decide⟩ rfl rfl (Nat.le_of_ble_eq_true rfl) dX6_count_108 ?_
                exact g_iretR C Kf hR dX6_count_111 hf
              · rw [if_neg hs_7] at hf
                by_cases hs_8 : x1 = 7
                · rw [if_pos hs_8] at hf
                  refine g_tabIn C 112 hs_8 dX6_count_1 (by decide) (by decide) rfl (by decide) ?_
                  refine g_aload_n C 0 dX6_count_112 rfl ?_
                  refine g_getR C Kf cl_X6 (qF_X6_0 hK0) (by decide) dX6_count_113 kf_X6_7 ?_
                  refine g_bipush (v := 6) C dX6_count_116 (by decide) ?_
                  obtain ⟨r_18, h_17, hf⟩ := b1_some hf
                  refine g_cS_i C Kf [.ref (K.2.1 1), .int 6] (mX6_there hK0 X.1.2.1 σ 1 6 (by decide) r_18 h_17) mi_X6_there km_X6_244 ⟨rfl, rfl, by decide, by decide⟩ rfl rfl (Nat.le_of_ble_eq_true rfl) dX6_count_118 ?_
                  exact g_iretR C Kf hR dX6_count_121 hf
                · rw [if_neg hs_8] at hf
                  by_cases hs_9 : x1 = 8
                  · rw [if_pos hs_9] at hf
                    refine g_tabIn C 122 hs_9 dX6_count_1 (by decide) (by decide) rfl (by decide) ?_
                    refine g_aload_n C 0 dX6_count_122 rfl ?_
                    refine g_getR C Kf cl_X6 (qF_X6_2 hK0) (by decide) dX6_count_123 kf_X6_16 ?_
                    refine g_iconst (v := 4) C dX6_count_126 (by decide) ?_
                    obtain ⟨r_20, h_19, hf⟩ := b1_some hf
                    refine g_cS_i C Kf [.ref (K.2.1 3), .int 4] (mX6_there hK0 X.1.2.1 σ 3 4 (by decide) r_20 h_19) mi_X6_there km_X6_244 ⟨rfl, rfl, by decide, by decide⟩ rfl rfl (Nat.le_of_ble_eq_true rfl) dX6_count_127 ?_
                    exact g_iretR C Kf hR dX6_count_130 hf
                  · rw [if_neg hs_9] at hf
                    by_cases hs_10 : x1 = 9
                    · rw [if_pos hs_10] at hf
                      refine g_tabIn C 131 hs_10 dX6_count_1 (by decide) (by decide) rfl (by decide) ?_
                      refine g_aload_n C 0 dX6_count_131 rfl ?_
                      refine g_getR C Kf cl_X6 (qF_X6_11 hK0) (by decide) dX6_count_132 kf_X6_37 ?_
                      refine g_iconst (v := 0) C dX6_count_135 (by decide) ?_
                      refine g_zaldL C Kf 0 (by decide) (by unfold vp_in; decide) (qZM_10 hK0) dX6_count_136 ?_
                      refine g_jn hf (fun j_22 ej_24 hf => ?_)
                      have HJ_23 : ∀ (y_21 : Int32), j_22 y_21 = some r → gG X σ 145 [(0, .ref (K.2.1 0))] [.int y_21] := by
                        intro y_21 hf
                        rw [ej_24] at hf
                        refine g_aload_n C 0 dX6_count_145 rfl ?_
                        refine g_getR C Kf cl_X6 (qF_X6_11 hK0) (by decide) dX6_count_146 kf_X6_37 ?_
                        refine g_iconst (v := 1) C dX6_count_149 (by decide) ?_
                        refine g_zaldL C Kf 1 (by decide) (by unfold vp_in; decide) (qZM_10 hK0) dX6_count_150 ?_
                        refine g_jn hf (fun j_26 ej_28 hf => ?_)
                        have HJ_27 : ∀ (y_25 : Int32), j_26 y_25 = some r → gG X σ 159 [(0, .ref (K.2.1 0))] [.int y_25, .int y_21] := by
                          intro y_25 hf
                          rw [ej_28] at hf
                          refine g_iadd C dX6_count_159 ?_
                          refine g_aload_n C 0 dX6_count_160 rfl ?_
                          refine g_getR C Kf cl_X6 (qF_X6_11 hK0) (by decide) dX6_count_161 kf_X6_37 ?_
                          refine g_iconst (v := 2) C dX6_count_164 (by decide) ?_
                          refine g_zaldL C Kf 2 (by decide) (by unfold vp_in; decide) (qZM_10 hK0) dX6_count_165 ?_
                          refine g_if_eq C 173 dX6_count_166 (by decide) hf (fun hf => ?_) (fun hf => ?_)
                          · refine g_iconst (v := 0) C dX6_count_173 (by decide) ?_
                            refine g_iadd C dX6_count_174 ?_
                            exact g_iretR C Kf hR dX6_count_175 hf
                          · refine g_iconst (v := 1) C dX6_count_169 (by decide) ?_
                            refine g_goto C 174 dX6_count_170 (by decide) ?_
                            refine g_iadd C dX6_count_174 ?_
                            exact g_iretR C Kf hR dX6_count_175 hf
                        refine g_if_eq C 158 dX6_count_151 (by decide) hf (fun hf => ?_) (fun hf => ?_)
                        · refine g_iconst (v := 0) C dX6_count_158 (by decide) ?_
                          exact HJ_27 _ hf
                        · refine g_iconst (v := 1) C dX6_count_154 (by decide) ?_
                          refine g_goto C 159 dX6_count_155 (by decide) ?_
                          exact HJ_27 _ hf
                      refine g_if_eq C 144 dX6_count_137 (by decide) hf (fun hf => ?_) (fun hf => ?_)
                      · refine g_iconst (v := 0) C dX6_count_144 (by decide) ?_
                        refine g_cut [0] rfl ?_
                        exact HJ_23 _ hf
                      · refine g_iconst (v := 1) C dX6_count_140 (by decide) ?_
                        refine g_goto C 145 dX6_count_141 (by decide) ?_
                        refine g_cut [0] rfl ?_
                        exact HJ_23 _ hf
                    · rw [if_neg hs_10] at hf
                      refine g_tabOut C 176 dX6_count_1 (by have ehs_1 := sw_ne (n := 0) (by decide) hs_1; have ehs_2 := sw_ne (n := 1) (by decide) hs_2; have ehs_3 := sw_ne (n := 2) (by decide) hs_3; have ehs_4 := sw_ne (n := 3) (by decide) hs_4; have ehs_5 := sw_ne (n := 4) (by decide) hs_5; have ehs_6 := sw_ne (n := 5) (by decide) hs_6; have ehs_7 := sw_ne (n := 6) (by decide) hs_7; have ehs_8 := sw_ne (n := 7) (by decide) hs_8; have ehs_9 := sw_ne (n := 8) (by decide) hs_9; have ehs_10 := sw_ne (n := 9) (by decide) hs_10; omega) (by decide) ?_
                      refine g_iconst (v := (-1)) C dX6_count_176 (by decide) ?_
                      exact g_iretR C Kf hR dX6_count_177 hf
abbrev rmX6_isText : Room := { frames := 1, cells := 0, slots := 0, locals := 25 }
set_option maxHeartbeats 4000000 in
set_option maxRecDepth 100000 in
theorem mX6_isText {K : Kx} (hK0 : isKM K) (l : Launch) (σ : St) (x0 : Int32)  (r : Int32) (hf : f6_isText x0 = some r) : mC K l yX6_isText cX6_isText 1 (some .boolean) rmX6_isText [.int x0] σ (some (.int r)) σ := by
  refine g_entry (own := RX6) rfl (by decide +kernel) (Nat.le_of_ble_eq_true rfl) (fun X hX C Kf hR => ?_)
  subst hX
  unfold f6_isText at hf
  show gG X σ 0 [(0, .int x0)] []
  refine g_iload_n C 0 dX6_isText_0 rfl ?_
  refine g_i2l C dX6_isText_1 ?_
  refine g_lconst (v := 0) C dX6_isText_2 (by decide) ?_
  refine g_ldc2 (v := 3) C dX6_isText_3 kl_X6_73 ?_
  obtain ⟨r_2, h_1, hf⟩ := b1_some hf
  refine g_cS_i C Kf [.long (x0.toInt64), .long 0, .long 3] (mX6_in hK0 X.1.2.1 σ (x0.toInt64) 0 3 r_2 h_1) mi_X6_in km_X6_69 ⟨rfl, rfl, by decide, by decide⟩ rfl rfl (Nat.le_of_ble_eq_true rfl) dX6_isText_6 ?_
  exact g_zretRB C Kf hR dX6_isText_9 hf
abbrev rmX6_kindOf : Room := { frames := 0, cells := 0, slots := 0, locals := 0 }
set_option maxHeartbeats 4000000 in
set_option maxRecDepth 100000 in
theorem mX6_kindOf {K : Kx} (hK0 : isKM K) (l : Launch) (σ : St) (x0 : Int32)  (r : Int32) (hf : f6_kindOf x0 = some r) : mC K l yX6_kindOf cX6_kindOf 1 (some .int) rmX6_kindOf [.int x0] σ (some (.int r)) σ := by
  refine g_entry (own := RX6) rfl (by decide +kernel) (Nat.le_of_ble_eq_true rfl) (fun X hX C Kf hR => ?_)
  subst hX
  unfold f6_kindOf at hf
  show gG X σ 0 [(0, .int x0)] []
  refine g_iload_n C 0 dX6_kindOf_0 rfl ?_
  by_cases hs_1 : x0 = 99
  · rw [if_pos hs_1] at hf
    refine g_lookV (off := 59) C 60 hs_1 dX6_kindOf_1 (by decide) (by decide +kernel) (by decide) ?_
    refine g_iconst (v := 0) C dX6_kindOf_60 (by decide) ?_
    exact g_iretR C Kf hR dX6_kindOf_61 hf
  · rw [if_neg hs_1] at hf
    by_cases hs_2 : x0 = 100
    · rw [if_pos hs_2] at hf
      refine g_lookV (off := 65) C 66 hs_2 dX6_kindOf_1 (by decide) (by decide +kernel) (by decide) ?_
      refine g_iconst (v := 3) C dX6_kindOf_66 (by decide) ?_
      exact g_iretR C Kf hR dX6_kindOf_67 hf
    · rw [if_neg hs_2] at hf
      by_cases hs_3 : x0 = 109
      · rw [if_pos hs_3] at hf
        refine g_lookV (off := 69) C 70 hs_3 dX6_kindOf_1 (by decide) (by decide +kernel) (by decide) ?_
        refine g_iconst (v := 5) C dX6_kindOf_70 (by decide) ?_
        exact g_iretR C Kf hR dX6_kindOf_71 hf
      · rw [if_neg hs_3] at hf
        by_cases hs_4 : x0 = 116
        · rw [if_pos hs_4] at hf
          refine g_lookV (off := 67) C 68 hs_4 dX6_kindOf_1 (by decide) (by decide +kernel) (by decide) ?_
          refine g_iconst (v := 4) C dX6_kindOf_68 (by decide) ?_
          exact g_iretR C Kf hR dX6_kindOf_69 hf
        · rw [if_neg hs_4] at hf
          by_cases hs_5 : x0 = 119
          · rw [if_pos hs_5] at hf
            refine g_lookV (off := 63) C 64 hs_5 dX6_kindOf_1 (by decide) (by decide +kernel) (by decide) ?_
            refine g_iconst (v := 2) C dX6_kindOf_64 (by decide) ?_
            exact g_iretR C Kf hR dX6_kindOf_65 hf
          · rw [if_neg hs_5] at hf
            by_cases hs_6 : x0 = 120
            · rw [if_pos hs_6] at hf
              refine g_lookV (off := 61) C 62 hs_6 dX6_kindOf_1 (by decide) (by decide +kernel) (by decide) ?_
              refine g_iconst (v := 1) C dX6_kindOf_62 (by decide) ?_
              exact g_iretR C Kf hR dX6_kindOf_63 hf
            · rw [if_neg hs_6] at hf
              refine g_look (off := 71) C 72 dX6_kindOf_1 (by decide) (by have ehs_1 := (sw_ne (n := 99) (by decide) hs_1).symm; have ehs_2 := (sw_ne (n := 100) (by decide) hs_2).symm; have ehs_3 := (sw_ne (n := 109) (by decide) hs_3).symm; have ehs_4 := (sw_ne (n := 116) (by decide) hs_4).symm; have ehs_5 := (sw_ne (n := 119) (by decide) hs_5).symm; have ehs_6 := (sw_ne (n := 120) (by decide) hs_6).symm; simp [Op.lookupswitch.offset, ehs_1, ehs_2, ehs_3, ehs_4, ehs_5, ehs_6]) (by decide) ?_
              refine g_bipush (v := (-9)) C dX6_kindOf_72 (by decide) ?_
              exact g_iretR C Kf hR dX6_kindOf_74 hf
abbrev rmX6_reads : Room := { frames := 1, cells := 0, slots := 0, locals := 25 }
set_option maxHeartbeats 4000000 in
set_option maxRecDepth 100000 in
theorem wL6_reads_77 {X : Gx St} {K : Kx} (hK0 : isKM K) (σ : St) (x1 : Int32) (x2 : Int32) (r : Int32) (σ' : St) (C : gF X cX6_reads RX6 (some .int) 6 rmX6_reads) (Kf : kF X K) (hR : gR X K (some (.int r)) σ') (k : Int32 → St → Option (Int32 × St)) (Hk : ∀ (x3_20 : Int32) (σ_26 : St), k x3_20 σ_26 = some (r, σ') → gG X σ_26 151 [(0, .ref (K.2.1 0)), (1, .int x1), (2, .int x2), (3, .int x3_20)] []) : ∀ (n : Nat) (x3_17 : Int32) (x5_18 : Int32) (σ_19 : St), L6_reads_77 x1 x2 k n x3_17 x5_18 σ_19 = some (r, σ') → gG X σ_19 77 [(0, .ref (K.2.1 0)), (1, .int x1), (2, .int x2), (3, .int x3_17), (5, .int x5_18)] [] := by
  intro n
  induction n with
  | zero => intro _ _ _ hf; unfold L6_reads_77 at hf; cases hf
  | succ n ih =>
  intro x3_17 x5_18 σ_19 hf
  unfold L6_reads_77 at hf
  refine g_iload C 4 dX6_reads_77 rfl ?_
  refine g_iconst (v := 3) C dX6_reads_79 (by decide) ?_
  refine g_icmp_ge C 151 dX6_reads_80 (by decide) hf (fun hf => ?_) (fun hf => ?_)
  · refine g_cut [0, 1, 2, 3] rfl ?_
    exact Hk _ _ hf
  · refine g_iinc (d := 1) C 3 (fun x3_21 => [(3, .int x3_21), (0, .ref (K.2.1 0)), (1, .int x1), (2, .int x2), (5, .int x5_18)]) dX6_reads_83 rfl (by decide) (by decide) (fun _ => rfl) hf (fun x3_21 hf => ?_)
    refine g_iload_n C 0 dX6_reads_86 rfl ?_
    refine g_iload_n C 3 dX6_reads_87 rfl ?_
    refine g_icmp_eq C 115 dX6_reads_88 (by decide) hf (fun hf => ?_) (fun hf => ?_)
    · refine g_iload_n C 0 dX6_reads_115 rfl ?_
      exact g_iretP C Kf hR dX6_reads_116 hf
    · refine g_aload_n C 1 dX6_reads_91 rfl ?_
      refine g_getR C Kf cl_X6 (qF_X6_3 hK0) (by decide) dX6_reads_92 kf_X6_19 ?_
      refine g_bipush (v := 60) C dX6_reads_95 (by decide) ?_
      refine g_iload_n C 2 dX6_reads_97 rfl ?_
      refine g_imul C dX6_reads_98 ?_
      refine g_iload_n C 0 dX6_reads_99 rfl ?_
      refine g_iadd C dX6_reads_100 ?_
      refine g_iald C Kf (qAM_4 hK0) dX6_reads_101 hf (fun hf => ?_)
      refine g_i2l C dX6_reads_102 ?_
      refine g_ldc2 (v := 48) C dX6_reads_103 kl_X6_95 ?_
      refine g_ldc2 (v := 57) C dX6_reads_106 kl_X6_97 ?_
      obtain ⟨r_23, h_22, hf⟩ := b1_some hf
      refine g_cS_i C Kf [.long ((σ_19.1 4 ((60 * x1) + x3_21).toNatClampNeg).toInt64), .long 48, .long 57] (mX6_in hK0 X.1.2.1 σ_19 ((σ_19.1 4 ((60 * x1) + x3_21).toNatClampNeg).toInt64) 48 57 r_23 h_22) mi_X6_in km_X6_69 ⟨rfl, rfl, by decide, by decide⟩ rfl rfl (Nat.le_of_ble_eq_true rfl) dX6_reads_109 ?_
      refine g_if_ne C 117 dX6_reads_112 (by decide) hf (fun hf => ?_) (fun hf => ?_)
      · refine g_aload_n C 1 dX6_reads_117 rfl ?_
        refine g_getR C Kf cl_X6 (qF_X6_19 hK0) (by decide) dX6_reads_118 kf_X6_51 ?_
        refine g_iconst (v := 3) C dX6_reads_121 (by decide) ?_
        refine g_aload_n C 1 dX6_reads_122 rfl ?_
        refine g_getI C Kf cl_X6 (qF_X6_17 hK0) (by decide) dX6_reads_123 kf_X6_89 ?_
        refine g_imul C dX6_reads_126 ?_
        refine g_iload C 4 dX6_reads_127 rfl ?_
        refine g_iadd C dX6_reads_129 ?_
        refine g_aload_n C 1 dX6_reads_130 rfl ?_
        refine g_getR C Kf cl_X6 (qF_X6_3 hK0) (by decide) dX6_reads_131 kf_X6_19 ?_
        refine g_bipush (v := 60) C dX6_reads_134 (by decide) ?_
        refine g_iload_n C 2 dX6_reads_136 rfl ?_
        refine g_imul C dX6_reads_137 ?_
        refine g_iload_n C 0 dX6_reads_138 rfl ?_
        refine g_iadd C dX6_reads_139 ?_
        refine g_iald C Kf (qAM_4 hK0) dX6_reads_140 hf (fun hf => ?_)
        refine g_bipush (v := 48) C dX6_reads_141 (by decide) ?_
        refine g_isub C dX6_reads_143 ?_
        refine g_iast C Kf (qAM_13 hK0) dX6_reads_144 hf (fun σ_24 hf => ?_)
        refine g_iinc (d := 1) C 4 (fun x5_25 => [(5, .int x5_25), (3, .int x3_21), (0, .ref (K.2.1 0)), (1, .int x1), (2, .int x2)]) dX6_reads_145 rfl (by decide) (by decide) (fun _ => rfl) hf (fun x5_25 hf => ?_)
        refine g_goto C 77 dX6_reads_148 (by decide) ?_
        refine g_cut [2, 3, 4, 1, 0] rfl ?_
        exact ih _ _ _ hf
      · refine g_iload_n C 0 dX6_reads_115 rfl ?_
        exact g_iretP C Kf hR dX6_reads_116 hf
set_option maxHeartbeats 4000000 in
set_option maxRecDepth 100000 in
theorem wL6_reads_14 {X : Gx St} {K : Kx} (hK0 : isKM K) (σ : St) (x1 : Int32) (x2 : Int32) (r : Int32) (σ' : St) (C : gF X cX6_reads RX6 (some .int) 6 rmX6_reads) (Kf : kF X K) (hR : gR X K (some (.int r)) σ') (k : St → Option (Int32 × St)) (Hk : ∀ (σ_30 : St), k σ_30 = some (r, σ') → gG X σ_30 167 [(0, .ref (K.2.1 0)), (2, .int x2)] []) : ∀ (n : Nat) (x3_3 : Int32) (σ_4 : St), L6_reads_14 x1 x2 k n x3_3 σ_4 = some (r, σ') → gG X σ_4 14 [(0, .ref (K.2.1 0)), (1, .int x1), (2, .int x2), (3, .int x3_3)] [] := by
  intro n
  induction n with
  | zero => intro _ _ hf; unfold L6_reads_14 at hf; cases hf
  | succ n ih =>
  intro x3_3 σ_4 hf
  unfold L6_reads_14 at hf
  refine g_iload_n C 3 dX6_reads_14 rfl ?_
  refine g_iload_n C 2 dX6_reads_15 rfl ?_
  refine g_icmp_ge C 167 dX6_reads_16 (by decide) hf (fun hf => ?_) (fun hf => ?_)
  · refine g_cut [0, 2] rfl ?_
    exact Hk _ hf
  · refine g_aload_n C 0 dX6_reads_19 rfl ?_
    refine g_getR C Kf cl_X6 (qF_X6_3 hK0) (by decide) dX6_reads_20 kf_X6_19 ?_
    refine g_bipush (v := 60) C dX6_reads_23 (by decide) ?_
    refine g_iload_n C 1 dX6_reads_25 rfl ?_
    refine g_imul C dX6_reads_26 ?_
    refine g_iload_n C 3 dX6_reads_27 rfl ?_
    refine g_iadd C dX6_reads_28 ?_
    refine g_iald C Kf (qAM_4 hK0) dX6_reads_29 hf (fun hf => ?_)
    refine g_istoreB C (fun x4_5 => [(4, .int x4_5), (0, .ref (K.2.1 0)), (1, .int x1), (2, .int x2), (3, .int x3_3)]) dX6_reads_30 (by decide) (fun _ => rfl) hf (fun x4_5 hf => ?_)
    refine g_iload C 0 dX6_reads_32 rfl ?_
    refine g_bipush (v := 32) C dX6_reads_34 (by decide) ?_
    refine g_jn hf (fun j_8 ej_10 hf => ?_)
    have HJ_9 : ∀ (x3_6 : Int32) (σ_7 : St), j_8 x3_6 σ_7 = some (r, σ') → gG X σ_7 161 [(0, .ref (K.2.1 0)), (1, .int x1), (2, .int x2), (3, .int x3_6)] [] := by
      intro x3_6 σ_7 hf
      rw [ej_10] at hf
      refine g_iinc (d := 1) C 3 (fun x3_11 => [(3, .int x3_11), (0, .ref (K.2.1 0)), (1, .int x1), (2, .int x2)]) dX6_reads_161 rfl (by decide) (by decide) (fun _ => rfl) hf (fun x3_11 hf => ?_)
      refine g_goto C 14 dX6_reads_164 (by decide) ?_
      refine g_cut [1, 2, 3, 0] rfl ?_
      exact ih _ _ hf
    refine g_icmp_eq C 161 dX6_reads_36 (by decide) hf (fun hf => ?_) (fun hf => ?_)
    · refine g_cut [1, 2, 3, 4] rfl ?_
      exact HJ_9 _ _ hf
    · refine g_aload_n C 1 dX6_reads_39 rfl ?_
      refine g_getI C Kf cl_X6 (qF_X6_17 hK0) (by decide) dX6_reads_40 kf_X6_89 ?_
      refine g_bipush (v := 6) C dX6_reads_43 (by decide) ?_
      refine g_icmp_eq C 58 dX6_reads_45 (by decide) hf (fun hf => ?_) (fun hf => ?_)
      · refine g_iload_n C 4 dX6_reads_58 rfl ?_
        exact g_iretP C Kf hR dX6_reads_59 hf
      · refine g_iload C 0 dX6_reads_48 rfl ?_
        obtain ⟨r_13, h_12, hf⟩ := b1_some hf
        refine g_cS_i C Kf [.int x4_5] (mX6_kindOf hK0 X.1.2.1 σ_4 x4_5 r_13 h_12) mi_X6_kindOf km_X6_92 ⟨rfl, rfl, by decide, by decide⟩ rfl rfl (Nat.le_of_ble_eq_true rfl) dX6_reads_50 ?_
        refine g_bipush (v := (-9)) C dX6_reads_53 (by decide) ?_
        refine g_icmp_ne C 60 dX6_reads_55 (by decide) hf (fun hf => ?_) (fun hf => ?_)
        · refine g_aload_n C 1 dX6_reads_60 rfl ?_
          refine g_getR C Kf cl_X6 (qF_X6_18 hK0) (by decide) dX6_reads_61 kf_X6_48 ?_
          refine g_aload_n C 1 dX6_reads_64 rfl ?_
          refine g_getI C Kf cl_X6 (qF_X6_17 hK0) (by decide) dX6_reads_65 kf_X6_89 ?_
          refine g_iload C 0 dX6_reads_68 rfl ?_
          obtain ⟨r_15, h_14, hf⟩ := b1_some hf
          refine g_cS_i C Kf [.int x4_5] (mX6_kindOf hK0 X.1.2.1 σ_4 x4_5 r_15 h_14) mi_X6_kindOf km_X6_92 ⟨rfl, rfl, by decide, by decide⟩ rfl rfl (Nat.le_of_ble_eq_true rfl) dX6_reads_70 ?_
          refine g_iast C Kf (qAM_12 hK0) dX6_reads_73 hf (fun σ_16 hf => ?_)
          refine g_iconst (v := 0) C dX6_reads_74 (by decide) ?_
          refine g_istore C [(5, .int 0), (4, .int x4_5), (0, .ref (K.2.1 0)), (1, .int x1), (2, .int x2), (3, .int x3_3)] dX6_reads_75 (by decide) rfl ?_
          refine g_cut [2, 3, 4, 5, 0] rfl ?_
          refine wL6_reads_77 hK0 σ_16 x1 x2 _ _ C Kf hR _ (fun x3_27 σ_28 hf => ?_) _ _ _ _ hf
          refine g_aload_n C 0 dX6_reads_151 rfl ?_
          refine g_dup C dX6_reads_152 rfl ?_
          refine g_getI C Kf cl_X6 (qF_X6_17 hK0) (by decide) dX6_reads_153 kf_X6_89 ?_
          refine g_iconst (v := 1) C dX6_reads_156 (by decide) ?_
          refine g_iadd C dX6_reads_157 ?_
          refine g_putI C Kf cl_X6 (qF_X6_17 hK0) (by decide) rfl rfl rfl dX6_reads_158 kf_X6_89 hf (fun σ_29 hf => ?_)
          exact HJ_9 _ _ hf
        · refine g_iload_n C 4 dX6_reads_58 rfl ?_
          exact g_iretP C Kf hR dX6_reads_59 hf
set_option maxHeartbeats 4000000 in
set_option maxRecDepth 100000 in
theorem mX6_reads {K : Kx} (hK0 : isKM K) (l : Launch) (σ : St) (x1 : Int32)  (r : Int32) (σ' : St) (hf : f6_reads σ x1 = some (r, σ')) : mC K l yX6_reads cX6_reads 6 (some .int) rmX6_reads [.ref (K.2.1 0), .int x1] σ (some (.int r)) σ' := by
  refine g_entry (own := RX6) rfl (by decide +kernel) (Nat.le_of_ble_eq_true rfl) (fun X hX C Kf hR => ?_)
  subst hX
  unfold f6_reads at hf
  show gG X σ 0 [(0, .ref (K.2.1 0)), (1, .int x1)] []
  refine g_aload_n C 0 dX6_reads_0 rfl ?_
  refine g_getR C Kf cl_X6 (qF_X6_2 hK0) (by decide) dX6_reads_1 kf_X6_16 ?_
  refine g_iload_n C 1 dX6_reads_4 rfl ?_
  refine g_iald C Kf (qAM_3 hK0) dX6_reads_5 hf (fun hf => ?_)
  refine g_istore_nB C (fun x2_1 => [(2, .int x2_1), (0, .ref (K.2.1 0)), (1, .int x1)]) dX6_reads_6 rfl (by decide) (fun _ => rfl) hf (fun x2_1 hf => ?_)
  refine g_iconst (v := 0) C dX6_reads_7 (by decide) ?_
  refine g_istore_n C [(3, .int 0), (2, .int x2_1), (0, .ref (K.2.1 0)), (1, .int x1)] dX6_reads_8 rfl (by decide) rfl ?_
  refine g_aload_n C 2 dX6_reads_9 rfl ?_
  refine g_iconst (v := 0) C dX6_reads_10 (by decide) ?_
  refine g_putI C Kf cl_X6 (qF_X6_17 hK0) (by decide) rfl rfl rfl dX6_reads_11 kf_X6_89 hf (fun σ_2 hf => ?_)
  refine g_cut [2, 3, 1, 0] rfl ?_
  refine wL6_reads_14 hK0 σ_2 x1 x2_1 _ _ C Kf hR _ (fun σ_31 hf => ?_) _ _ _ hf
  refine g_aload_n C 0 dX6_reads_167 rfl ?_
  refine g_getI C Kf cl_X6 (qF_X6_17 hK0) (by decide) dX6_reads_168 kf_X6_89 ?_
  refine g_iconst (v := 2) C dX6_reads_171 (by decide) ?_
  refine g_icmp_ge C 179 dX6_reads_172 (by decide) hf (fun hf => ?_) (fun hf => ?_)
  · refine g_bipush (v := (-9)) C dX6_reads_179 (by decide) ?_
    exact g_iretP C Kf hR dX6_reads_181 hf
  · refine g_iload_n C 1 dX6_reads_175 rfl ?_
    refine g_goto C 181 dX6_reads_176 (by decide) ?_
    exact g_iretP C Kf hR dX6_reads_181 hf
abbrev rmX6_deck : Room := { frames := 2, cells := 0, slots := 0, locals := 50 }
set_option maxHeartbeats 4000000 in
set_option maxRecDepth 100000 in
theorem wL6_deck_62 {X : Gx St} {K : Kx} (hK0 : isKM K) (σ : St) (r : Int32) (σ' : St) (C : gF X cX6_deck RX6 (some .int) 3 rmX6_deck) (Kf : kF X K) (hR : gR X K (some (.int r)) σ') (k : St → Option (Int32 × St)) (Hk : ∀ (σ_13 : St), k σ_13 = some (r, σ') → gG X σ_13 81 [(0, .ref (K.2.1 0))] []) : ∀ (n : Nat) (x2_9 : Int32) (σ_10 : St), L6_deck_62 k n x2_9 σ_10 = some (r, σ') → gG X σ_10 62 [(0, .ref (K.2.1 0)), (2, .int x2_9)] [] := by
  intro n
  induction n with
  | zero => intro _ _ hf; unfold L6_deck_62 at hf; cases hf
  | succ n ih =>
  intro x2_9 σ_10 hf
  unfold L6_deck_62 at hf
  refine g_iload_n C 1 dX6_deck_62 rfl ?_
  refine g_bipush (v := 6) C dX6_deck_63 (by decide) ?_
  refine g_icmp_ge C 81 dX6_deck_65 (by decide) hf (fun hf => ?_) (fun hf => ?_)
  · refine g_cut [0] rfl ?_
    exact Hk _ hf
  · refine g_aload_n C 0 dX6_deck_68 rfl ?_
    refine g_getR C Kf cl_X6 (qF_X6_6 hK0) (by decide) dX6_deck_69 kf_X6_25 ?_
    refine g_iload_n C 1 dX6_deck_72 rfl ?_
    refine g_iload_n C 1 dX6_deck_73 rfl ?_
    refine g_iast C Kf (qAM_6 hK0) dX6_deck_74 hf (fun σ_11 hf => ?_)
    refine g_iinc (d := 1) C 1 (fun x2_12 => [(2, .int x2_12), (0, .ref (K.2.1 0))]) dX6_deck_75 rfl (by decide) (by decide) (fun _ => rfl) hf (fun x2_12 hf => ?_)
    refine g_goto C 62 dX6_deck_78 (by decide) ?_
    refine g_cut [1, 0] rfl ?_
    exact ih _ _ hf
set_option maxHeartbeats 4000000 in
set_option maxRecDepth 100000 in
theorem wL6_deck_112 {X : Gx St} {K : Kx} (hK0 : isKM K) (σ : St) (r : Int32) (σ' : St) (C : gF X cX6_deck RX6 (some .int) 3 rmX6_deck) (Kf : kF X K) (hR : gR X K (some (.int r)) σ') (k : St → Option (Int32 × St)) (Hk : ∀ (σ_23 : St), k σ_23 = some (r, σ') → gG X σ_23 130 [(0, .ref (K.2.1 0))] []) : ∀ (n : Nat) (x2_19 : Int32) (σ_20 : St), L6_deck_112 k n x2_19 σ_20 = some (r, σ') → gG X σ_20 112 [(0, .ref (K.2.1 0)), (2, .int x2_19)] [] := by
  intro n
  induction n with
  | zero => intro _ _ hf; unfold L6_deck_112 at hf; cases hf
  | succ n ih =>
  intro x2_19 σ_20 hf
  unfold L6_deck_112 at hf
  refine g_iload_n C 1 dX6_deck_112 rfl ?_
  refine g_iconst (v := 3) C dX6_deck_113 (by decide) ?_
  refine g_icmp_ge C 130 dX6_deck_114 (by decide) hf (fun hf => ?_) (fun hf => ?_)
  · refine g_cut [0] rfl ?_
    exact Hk _ hf
  · refine g_aload_n C 0 dX6_deck_117 rfl ?_
    refine g_getR C Kf cl_X6 (qF_X6_11 hK0) (by decide) dX6_deck_118 kf_X6_37 ?_
    refine g_iload_n C 1 dX6_deck_121 rfl ?_
    refine g_iconst (v := 0) C dX6_deck_122 (by decide) ?_
    refine g_zast C Kf (qZM_10 hK0) rfl dX6_deck_123 hf (fun σ_21 hf => ?_)
    refine g_iinc (d := 1) C 1 (fun x2_22 => [(2, .int x2_22), (0, .ref (K.2.1 0))]) dX6_deck_124 rfl (by decide) (by decide) (fun _ => rfl) hf (fun x2_22 hf => ?_)
    refine g_goto C 112 dX6_deck_127 (by decide) ?_
    refine g_cut [1, 0] rfl ?_
    exact ih _ _ hf
set_option maxHeartbeats 4000000 in
set_option maxRecDepth 100000 in
theorem mX6_deck {K : Kx} (hK0 : isKM K) (l : Launch) (σ : St) (x1 : Int32)  (r : Int32) (σ' : St) (hf : f6_deck σ x1 = some (r, σ')) : mC K l yX6_deck cX6_deck 3 (some .int) rmX6_deck [.ref (K.2.1 0), .int x1] σ (some (.int r)) σ' := by
  refine g_entry (own := RX6) rfl (by decide +kernel) (Nat.le_of_ble_eq_true rfl) (fun X hX C Kf hR => ?_)
  subst hX
  unfold f6_deck at hf
  show gG X σ 0 [(0, .ref (K.2.1 0)), (1, .int x1)] []
  refine g_iload_n C 1 dX6_deck_0 rfl ?_
  obtain ⟨r_2, h_1, hf⟩ := b1_some hf
  refine g_cS_i C Kf [.int x1] (mX6_isText hK0 X.1.2.1 σ x1 r_2 h_1) mi_X6_isText km_X6_86 ⟨rfl, rfl, by decide, by decide⟩ rfl rfl (Nat.le_of_ble_eq_true rfl) dX6_deck_1 ?_
  refine g_if_ne C 9 dX6_deck_4 (by decide) hf (fun hf => ?_) (fun hf => ?_)
  · refine g_aload_n C 0 dX6_deck_9 rfl ?_
    refine g_getR C Kf cl_X6 (qF_X6_2 hK0) (by decide) dX6_deck_10 kf_X6_16 ?_
    refine g_iload_n C 1 dX6_deck_13 rfl ?_
    refine g_iald C Kf (qAM_3 hK0) dX6_deck_14 hf (fun hf => ?_)
    refine g_if_ge C 24 dX6_deck_15 (by decide) hf (fun hf => ?_) (fun hf => ?_)
    · refine g_aload_n C 0 dX6_deck_24 rfl ?_
      refine g_iload_n C 1 dX6_deck_25 rfl ?_
      obtain ⟨r_4, σ_5, h_3, hf⟩ := b2_some hf
      refine g_cV_i C Kf [.int x1] (mX6_reads hK0 X.1.2.1 σ x1 r_4 σ_5 h_3) mi_X6_reads (qO_X6 hK0) rfl km_X6_99 ⟨rfl, rfl, by decide, by decide⟩ rfl rfl (Nat.le_of_ble_eq_true rfl) dX6_deck_26 ?_
      refine g_bipush (v := (-9)) C dX6_deck_29 (by decide) ?_
      refine g_icmp_eq C 37 dX6_deck_31 (by decide) hf (fun hf => ?_) (fun hf => ?_)
      · refine g_aload_n C 0 dX6_deck_37 rfl ?_
        refine g_aload_n C 0 dX6_deck_38 rfl ?_
        refine g_getI C Kf cl_X6 (qF_X6_17 hK0) (by decide) dX6_deck_39 kf_X6_89 ?_
        refine g_putI C Kf cl_X6 (qF_X6_4 hK0) (by decide) rfl rfl rfl dX6_deck_42 kf_X6_102 hf (fun σ_6 hf => ?_)
        refine g_aload_n C 0 dX6_deck_45 rfl ?_
        refine g_getR C Kf cl_X6 (qF_X6_18 hK0) (by decide) dX6_deck_46 kf_X6_48 ?_
        refine g_iconst (v := 0) C dX6_deck_49 (by decide) ?_
        refine g_aload_n C 0 dX6_deck_50 rfl ?_
        refine g_getR C Kf cl_X6 (qF_X6_5 hK0) (by decide) dX6_deck_51 kf_X6_22 ?_
        refine g_iconst (v := 0) C dX6_deck_54 (by decide) ?_
        refine g_bipush (v := 6) C dX6_deck_55 (by decide) ?_
        obtain ⟨σ_8, h_7, hf⟩ := b1_some hf
        refine g_cS_v C Kf [.ref (K.2.1 12), .int 0, .ref (K.2.1 5), .int 0, .int 6] (mX6_copies hK0 X.1.2.1 σ_6 12 0 5 0 6 (by decide) (by decide) σ_8 h_7) mi_X6_copies km_X6_105 ⟨rfl, rfl, by decide, by decide⟩ rfl rfl (Nat.le_of_ble_eq_true rfl) dX6_deck_57 ?_
        refine g_iconst (v := 0) C dX6_deck_60 (by decide) ?_
        refine g_istore_n C [(2, .int 0), (0, .ref (K.2.1 0)), (1, .int x1)] dX6_deck_61 rfl (by decide) rfl ?_
        refine g_cut [1, 0] rfl ?_
        refine wL6_deck_62 hK0 σ_8 _ _ C Kf hR _ (fun σ_14 hf => ?_) _ _ _ hf
        refine g_aload_n C 0 dX6_deck_81 rfl ?_
        refine g_getR C Kf cl_X6 (qF_X6_19 hK0) (by decide) dX6_deck_82 kf_X6_51 ?_
        refine g_iconst (v := 0) C dX6_deck_85 (by decide) ?_
        refine g_aload_n C 0 dX6_deck_86 rfl ?_
        refine g_getR C Kf cl_X6 (qF_X6_6 hK0) (by decide) dX6_deck_87 kf_X6_25 ?_
        refine g_bipush (v := 6) C dX6_deck_90 (by decide) ?_
        refine g_bipush (v := 18) C dX6_deck_92 (by decide) ?_
        obtain ⟨σ_16, h_15, hf⟩ := b1_some hf
        refine g_cS_v C Kf [.ref (K.2.1 13), .int 0, .ref (K.2.1 6), .int 6, .int 18] (mX6_copies hK0 X.1.2.1 σ_14 13 0 6 6 18 (by decide) (by decide) σ_16 h_15) mi_X6_copies km_X6_105 ⟨rfl, rfl, by decide, by decide⟩ rfl rfl (Nat.le_of_ble_eq_true rfl) dX6_deck_94 ?_
        refine g_aload_n C 0 dX6_deck_97 rfl ?_
        refine g_getR C Kf cl_X6 (qF_X6_6 hK0) (by decide) dX6_deck_98 kf_X6_25 ?_
        refine g_bipush (v := 24) C dX6_deck_101 (by decide) ?_
        refine g_iconst (v := 0) C dX6_deck_103 (by decide) ?_
        refine g_iastL C Kf 24 (by decide) (by unfold vp_in; decide) (qAM_6 hK0) dX6_deck_104 hf (fun σ_17 hf => ?_)
        refine g_aload_n C 0 dX6_deck_105 rfl ?_
        refine g_iconst (v := 0) C dX6_deck_106 (by decide) ?_
        refine g_putI C Kf cl_X6 (qF_X6_9 hK0) (by decide) rfl rfl rfl dX6_deck_107 kf_X6_109 hf (fun σ_18 hf => ?_)
        refine g_iconst (v := 0) C dX6_deck_110 (by decide) ?_
        refine g_istore_n C [(2, .int 0), (0, .ref (K.2.1 0))] dX6_deck_111 rfl (by decide) rfl ?_
        refine g_cut [1, 0] rfl ?_
        refine wL6_deck_112 hK0 σ_18 _ _ C Kf hR _ (fun σ_24 hf => ?_) _ _ _ hf
        refine g_aload_n C 0 dX6_deck_130 rfl ?_
        refine g_getI C Kf cl_X6 (qF_X6_4 hK0) (by decide) dX6_deck_131 kf_X6_102 ?_
        exact g_iretP C Kf hR dX6_deck_134 hf
      · refine g_bipush (v := (-4)) C dX6_deck_34 (by decide) ?_
        exact g_iretP C Kf hR dX6_deck_36 hf
    · refine g_aload_n C 0 dX6_deck_18 rfl ?_
      refine g_iconst (v := 1) C dX6_deck_19 (by decide) ?_
      obtain ⟨r_26, σ_27, h_25, hf⟩ := b2_some hf
      refine g_cV_i C Kf [.int 1] (mX6_found hK0 X.1.2.1 σ 1 r_26 σ_27 h_25) mi_X6_found (qO_X6 hK0) rfl km_X6_79 ⟨rfl, rfl, by decide, by decide⟩ rfl rfl (Nat.le_of_ble_eq_true rfl) dX6_deck_20 ?_
      exact g_iretP C Kf hR dX6_deck_23 hf
  · refine g_iconst (v := (-1)) C dX6_deck_7 (by decide) ?_
    exact g_iretP C Kf hR dX6_deck_8 hf
abbrev rmX6_digest : Room := { frames := 3, cells := 0, slots := 0, locals := 70 }
set_option maxHeartbeats 4000000 in
set_option maxRecDepth 100000 in
theorem wL6_digest_6 {X : Gx St} {K : Kx} (hK0 : isKM K) (σ : St) (r : Int64) (C : gF X cX6_digest RX6 (some .long) 5 rmX6_digest) (Kf : kF X K) (hR : gR X K (some (.long r)) σ) (k : Int64 → Option (Int64)) (Hk : ∀ (x1_3 : Int64), k x1_3 = some r → gG X σ 31 [(0, .ref (K.2.1 0)), (1, .long x1_3)] []) : ∀ (n : Nat) (x1_1 : Int64) (x3_2 : Int32), L6_digest_6 σ k n x1_1 x3_2 = some r → gG X σ 6 [(0, .ref (K.2.1 0)), (1, .long x1_1), (3, .int x3_2)] [] := by
  intro n
  induction n with
  | zero => intro _ _ hf; unfold L6_digest_6 at hf; cases hf
  | succ n ih =>
  intro x1_1 x3_2 hf
  unfold L6_digest_6 at hf
  refine g_iload_n C 2 dX6_digest_6 rfl ?_
  refine g_bipush (v := 10) C dX6_digest_7 (by decide) ?_
  refine g_icmp_ge C 31 dX6_digest_9 (by decide) hf (fun hf => ?_) (fun hf => ?_)
  · refine g_cut [0, 1] rfl ?_
    exact Hk _ hf
  · refine g_ldc2 (v := 31) C dX6_digest_12 kl_X6_249 ?_
    refine g_lload_n C 1 dX6_digest_15 rfl ?_
    refine g_lmul C dX6_digest_16 ?_
    refine g_aload_n C 0 dX6_digest_17 rfl ?_
    refine g_iload_n C 2 dX6_digest_18 rfl ?_
    obtain ⟨r_5, h_4, hf⟩ := b1_some hf
    refine g_cV_i C Kf [.int x3_2] (mX6_count hK0 X.1.2.1 σ x3_2 r_5 h_4) mi_X6_count (qO_X6 hK0) rfl km_X6_251 ⟨rfl, rfl, by decide, by decide⟩ rfl rfl (Nat.le_of_ble_eq_true rfl) dX6_digest_19 ?_
    refine g_i2l C dX6_digest_22 ?_
    refine g_ladd C dX6_digest_23 ?_
    refine g_lstore_nB C (fun x1_6 => [(1, .long x1_6), (0, .ref (K.2.1 0)), (3, .int x3_2)]) dX6_digest_24 rfl (by decide) (fun _ => rfl) hf (fun x1_6 hf => ?_)
    refine g_iinc (d := 1) C 2 (fun x3_7 => [(3, .int x3_7), (1, .long x1_6), (0, .ref (K.2.1 0))]) dX6_digest_25 rfl (by decide) (by decide) (fun _ => rfl) hf (fun x3_7 hf => ?_)
    refine g_goto C 6 dX6_digest_28 (by decide) ?_
    refine g_cut [2, 1, 0] rfl ?_
    exact ih _ _ hf
set_option maxHeartbeats 4000000 in
set_option maxRecDepth 100000 in
theorem wL6_digest_58 {X : Gx St} {K : Kx} (hK0 : isKM K) (σ : St) (x3 : Int32) (r : Int64) (C : gF X cX6_digest RX6 (some .long) 5 rmX6_digest) (Kf : kF X K) (hR : gR X K (some (.long r)) σ) (k : Int64 → Option (Int64)) (Hk : ∀ (x1_15 : Int64), k x1_15 = some r → gG X σ 92 [(0, .ref (K.2.1 0)), (1, .long x1_15), (3, .int x3)] []) : ∀ (n : Nat) (x1_13 : Int64) (x4_14 : Int32), L6_digest_58 σ x3 k n x1_13 x4_14 = some r → gG X σ 58 [(0, .ref (K.2.1 0)), (1, .long x1_13), (3, .int x3), (4, .int x4_14)] [] := by
  intro n
  induction n with
  | zero => intro _ _ hf; unfold L6_digest_58 at hf; cases hf
  | succ n ih =>
  intro x1_13 x4_14 hf
  unfold L6_digest_58 at hf
  refine g_iload C 3 dX6_digest_58 rfl ?_
  refine g_iconst (v := 3) C dX6_digest_60 (by decide) ?_
  refine g_icmp_ge C 92 dX6_digest_61 (by decide) hf (fun hf => ?_) (fun hf => ?_)
  · refine g_cut [0, 1, 2] rfl ?_
    exact Hk _ hf
  · refine g_ldc2 (v := 31) C dX6_digest_64 kl_X6_249 ?_
    refine g_lload_n C 1 dX6_digest_67 rfl ?_
    refine g_lmul C dX6_digest_68 ?_
    refine g_aload_n C 0 dX6_digest_69 rfl ?_
    refine g_getR C Kf cl_X6 (qF_X6_6 hK0) (by decide) dX6_digest_70 kf_X6_25 ?_
    refine g_bipush (v := 6) C dX6_digest_73 (by decide) ?_
    refine g_iconst (v := 3) C dX6_digest_75 (by decide) ?_
    refine g_iload_n C 2 dX6_digest_76 rfl ?_
    refine g_imul C dX6_digest_77 ?_
    refine g_iadd C dX6_digest_78 ?_
    refine g_iload C 3 dX6_digest_79 rfl ?_
    refine g_iadd C dX6_digest_81 ?_
    refine g_iald C Kf (qAM_6 hK0) dX6_digest_82 hf (fun hf => ?_)
    refine g_i2l C dX6_digest_83 ?_
    refine g_ladd C dX6_digest_84 ?_
    refine g_lstore_nB C (fun x1_16 => [(1, .long x1_16), (0, .ref (K.2.1 0)), (3, .int x3), (4, .int x4_14)]) dX6_digest_85 rfl (by decide) (fun _ => rfl) hf (fun x1_16 hf => ?_)
    refine g_iinc (d := 1) C 3 (fun x4_17 => [(4, .int x4_17), (1, .long x1_16), (0, .ref (K.2.1 0)), (3, .int x3)]) dX6_digest_86 rfl (by decide) (by decide) (fun _ => rfl) hf (fun x4_17 hf => ?_)
    refine g_goto C 58 dX6_digest_89 (by decide) ?_
    refine g_cut [2, 1, 3, 0] rfl ?_
    exact ih _ _ hf
set_option maxHeartbeats 4000000 in
set_option maxRecDepth 100000 in
theorem wL6_digest_111 {X : Gx St} {K : Kx} (hK0 : isKM K) (σ : St) (x3 : Int32) (r : Int64) (C : gF X cX6_digest RX6 (some .long) 5 rmX6_digest) (Kf : kF X K) (hR : gR X K (some (.long r)) σ) (k : Int64 → Option (Int64)) (Hk : ∀ (x1_24 : Int64), k x1_24 = some r → gG X σ 142 [(0, .ref (K.2.1 0)), (1, .long x1_24), (3, .int x3)] []) : ∀ (n : Nat) (x1_22 : Int64) (x4_23 : Int32), L6_digest_111 σ x3 k n x1_22 x4_23 = some r → gG X σ 111 [(0, .ref (K.2.1 0)), (1, .long x1_22), (3, .int x3), (4, .int x4_23)] [] := by
  intro n
  induction n with
  | zero => intro _ _ hf; unfold L6_digest_111 at hf; cases hf
  | succ n ih =>
  intro x1_22 x4_23 hf
  unfold L6_digest_111 at hf
  refine g_iload C 3 dX6_digest_111 rfl ?_
  refine g_iconst (v := 3) C dX6_digest_113 (by decide) ?_
  refine g_icmp_ge C 142 dX6_digest_114 (by decide) hf (fun hf => ?_) (fun hf => ?_)
  · refine g_cut [0, 1, 2] rfl ?_
    exact Hk _ hf
  · refine g_ldc2 (v := 31) C dX6_digest_117 kl_X6_249 ?_
    refine g_lload_n C 1 dX6_digest_120 rfl ?_
    refine g_lmul C dX6_digest_121 ?_
    refine g_aload_n C 0 dX6_digest_122 rfl ?_
    refine g_aload_n C 0 dX6_digest_123 rfl ?_
    refine g_getR C Kf cl_X6 (qF_X6_6 hK0) (by decide) dX6_digest_124 kf_X6_25 ?_
    refine g_iload_n C 2 dX6_digest_127 rfl ?_
    refine g_iload C 3 dX6_digest_128 rfl ?_
    obtain ⟨r_26, h_25, hf⟩ := b1_some hf
    refine g_cV_i C Kf [.ref (K.2.1 6), .int x3, .int x4_23] (mX6_readOn hK0 X.1.2.1 σ 6 x3 x4_23 (by decide) r_26 h_25) mi_X6_readOn (qO_X6 hK0) rfl km_X6_126 ⟨rfl, rfl, by decide, by decide⟩ rfl rfl (Nat.le_of_ble_eq_true rfl) dX6_digest_130 ?_
    refine g_i2l C dX6_digest_133 ?_
    refine g_ladd C dX6_digest_134 ?_
    refine g_lstore_nB C (fun x1_27 => [(1, .long x1_27), (0, .ref (K.2.1 0)), (3, .int x3), (4, .int x4_23)]) dX6_digest_135 rfl (by decide) (fun _ => rfl) hf (fun x1_27 hf => ?_)
    refine g_iinc (d := 1) C 3 (fun x4_28 => [(4, .int x4_28), (1, .long x1_27), (0, .ref (K.2.1 0)), (3, .int x3)]) dX6_digest_136 rfl (by decide) (by decide) (fun _ => rfl) hf (fun x4_28 hf => ?_)
    refine g_goto C 111 dX6_digest_139 (by decide) ?_
    refine g_cut [2, 1, 3, 0] rfl ?_
    exact ih _ _ hf
set_option maxHeartbeats 4000000 in
set_option maxRecDepth 100000 in
theorem wL6_digest_33 {X : Gx St} {K : Kx} (hK0 : isKM K) (σ : St) (r : Int64) (C : gF X cX6_digest RX6 (some .long) 5 rmX6_digest) (Kf : kF X K) (hR : gR X K (some (.long r)) σ) (k : Int64 → Option (Int64)) (Hk : ∀ (x1_11 : Int64), k x1_11 = some r → gG X σ 148 [(0, .ref (K.2.1 0)), (1, .long x1_11)] []) : ∀ (n : Nat) (x1_9 : Int64) (x3_10 : Int32), L6_digest_33 σ k n x1_9 x3_10 = some r → gG X σ 33 [(0, .ref (K.2.1 0)), (1, .long x1_9), (3, .int x3_10)] [] := by
  intro n
  induction n with
  | zero => intro _ _ hf; unfold L6_digest_33 at hf; cases hf
  | succ n ih =>
  intro x1_9 x3_10 hf
  unfold L6_digest_33 at hf
  refine g_iload_n C 2 dX6_digest_33 rfl ?_
  refine g_aload_n C 0 dX6_digest_34 rfl ?_
  refine g_getI C Kf cl_X6 (qF_X6_4 hK0) (by decide) dX6_digest_35 kf_X6_102 ?_
  refine g_icmp_ge C 148 dX6_digest_38 (by decide) hf (fun hf => ?_) (fun hf => ?_)
  · refine g_cut [0, 1] rfl ?_
    exact Hk _ hf
  · refine g_ldc2 (v := 31) C dX6_digest_41 kl_X6_249 ?_
    refine g_lload_n C 1 dX6_digest_44 rfl ?_
    refine g_lmul C dX6_digest_45 ?_
    refine g_aload_n C 0 dX6_digest_46 rfl ?_
    refine g_getR C Kf cl_X6 (qF_X6_5 hK0) (by decide) dX6_digest_47 kf_X6_22 ?_
    refine g_iload_n C 2 dX6_digest_50 rfl ?_
    refine g_iald C Kf (qAM_5 hK0) dX6_digest_51 hf (fun hf => ?_)
    refine g_i2l C dX6_digest_52 ?_
    refine g_ladd C dX6_digest_53 ?_
    refine g_lstore_nB C (fun x1_12 => [(1, .long x1_12), (0, .ref (K.2.1 0)), (3, .int x3_10)]) dX6_digest_54 rfl (by decide) (fun _ => rfl) hf (fun x1_12 hf => ?_)
    refine g_iconst (v := 0) C dX6_digest_55 (by decide) ?_
    refine g_istore C [(4, .int 0), (1, .long x1_12), (0, .ref (K.2.1 0)), (3, .int x3_10)] dX6_digest_56 (by decide) rfl ?_
    refine g_cut [2, 1, 3, 0] rfl ?_
    refine wL6_digest_58 hK0 σ x3_10 _ C Kf hR _ (fun x1_18 hf => ?_) _ _ _ hf
    refine g_ldc2 (v := 31) C dX6_digest_92 kl_X6_249 ?_
    refine g_lload_n C 1 dX6_digest_95 rfl ?_
    refine g_lmul C dX6_digest_96 ?_
    refine g_aload_n C 0 dX6_digest_97 rfl ?_
    refine g_getR C Kf cl_X6 (qF_X6_6 hK0) (by decide) dX6_digest_98 kf_X6_25 ?_
    refine g_iload_n C 2 dX6_digest_101 rfl ?_
    obtain ⟨r_20, h_19, hf⟩ := b1_some hf
    refine g_cS_i C Kf [.ref (K.2.1 6), .int x3_10] (mX6_placeOf hK0 X.1.2.1 σ 6 x3_10 (by decide) r_20 h_19) mi_X6_placeOf km_X6_139 ⟨rfl, rfl, by decide, by decide⟩ rfl rfl (Nat.le_of_ble_eq_true rfl) dX6_digest_102 ?_
    refine g_i2l C dX6_digest_105 ?_
    refine g_ladd C dX6_digest_106 ?_
    refine g_lstore_nB C (fun x1_21 => [(1, .long x1_21), (0, .ref (K.2.1 0)), (3, .int x3_10)]) dX6_digest_107 rfl (by decide) (fun _ => rfl) hf (fun x1_21 hf => ?_)
    refine g_iconst (v := 0) C dX6_digest_108 (by decide) ?_
    refine g_istore C [(4, .int 0), (1, .long x1_21), (0, .ref (K.2.1 0)), (3, .int x3_10)] dX6_digest_109 (by decide) rfl ?_
    refine g_cut [2, 1, 3, 0] rfl ?_
    refine wL6_digest_111 hK0 σ x3_10 _ C Kf hR _ (fun x1_29 hf => ?_) _ _ _ hf
    refine g_iinc (d := 1) C 2 (fun x3_30 => [(3, .int x3_30), (0, .ref (K.2.1 0)), (1, .long x1_29)]) dX6_digest_142 rfl (by decide) (by decide) (fun _ => rfl) hf (fun x3_30 hf => ?_)
    refine g_goto C 33 dX6_digest_145 (by decide) ?_
    refine g_cut [1, 2, 0] rfl ?_
    exact ih _ _ hf
set_option maxHeartbeats 4000000 in
set_option maxRecDepth 100000 in
theorem wL6_digest_150 {X : Gx St} {K : Kx} (hK0 : isKM K) (σ : St) (r : Int64) (C : gF X cX6_digest RX6 (some .long) 5 rmX6_digest) (Kf : kF X K) (hR : gR X K (some (.long r)) σ) (k : Int64 → Option (Int64)) (Hk : ∀ (x1_34 : Int64), k x1_34 = some r → gG X σ 195 [(0, .ref (K.2.1 0)), (1, .long x1_34)] []) : ∀ (n : Nat) (x1_32 : Int64) (x3_33 : Int32), L6_digest_150 σ k n x1_32 x3_33 = some r → gG X σ 150 [(0, .ref (K.2.1 0)), (1, .long x1_32), (3, .int x3_33)] [] := by
  intro n
  induction n with
  | zero => intro _ _ hf; unfold L6_digest_150 at hf; cases hf
  | succ n ih =>
  intro x1_32 x3_33 hf
  unfold L6_digest_150 at hf
  refine g_iload_n C 2 dX6_digest_150 rfl ?_
  refine g_iconst (v := 3) C dX6_digest_151 (by decide) ?_
  refine g_icmp_ge C 195 dX6_digest_152 (by decide) hf (fun hf => ?_) (fun hf => ?_)
  · refine g_cut [0, 1] rfl ?_
    exact Hk _ hf
  · refine g_ldc2 (v := 31) C dX6_digest_155 kl_X6_249 ?_
    refine g_lload_n C 1 dX6_digest_158 rfl ?_
    refine g_lmul C dX6_digest_159 ?_
    refine g_aload_n C 0 dX6_digest_160 rfl ?_
    refine g_getR C Kf cl_X6 (qF_X6_11 hK0) (by decide) dX6_digest_161 kf_X6_37 ?_
    refine g_iload_n C 2 dX6_digest_164 rfl ?_
    refine g_zald C Kf (qZM_10 hK0) dX6_digest_165 hf (fun hf => ?_)
    refine g_jn hf (fun j_36 ej_38 hf => ?_)
    have HJ_37 : ∀ (y_35 : Int32), j_36 y_35 = some r → gG X σ 186 [(0, .ref (K.2.1 0)), (3, .int x3_33)] [.int y_35, .long (31 * x1_32)] := by
      intro y_35 hf
      rw [ej_38] at hf
      refine g_i2l C dX6_digest_186 ?_
      refine g_ladd C dX6_digest_187 ?_
      refine g_lstore_nB C (fun x1_39 => [(1, .long x1_39), (0, .ref (K.2.1 0)), (3, .int x3_33)]) dX6_digest_188 rfl (by decide) (fun _ => rfl) hf (fun x1_39 hf => ?_)
      refine g_iinc (d := 1) C 2 (fun x3_40 => [(3, .int x3_40), (1, .long x1_39), (0, .ref (K.2.1 0))]) dX6_digest_189 rfl (by decide) (by decide) (fun _ => rfl) hf (fun x3_40 hf => ?_)
      refine g_goto C 150 dX6_digest_192 (by decide) ?_
      refine g_cut [2, 1, 0] rfl ?_
      exact ih _ _ hf
    refine g_if_eq C 185 dX6_digest_166 (by decide) hf (fun hf => ?_) (fun hf => ?_)
    · refine g_iconst (v := (-1)) C dX6_digest_185 (by decide) ?_
      refine g_cut [0, 2] rfl ?_
      exact HJ_37 _ hf
    · refine g_aload_n C 0 dX6_digest_169 rfl ?_
      refine g_getR C Kf cl_X6 (qF_X6_10 hK0) (by decide) dX6_digest_170 kf_X6_34 ?_
      refine g_sipush (v := 1026) C dX6_digest_173 (by decide) ?_
      refine g_iload_n C 2 dX6_digest_176 rfl ?_
      refine g_imul C dX6_digest_177 ?_
      refine g_bipush (v := 25) C dX6_digest_178 (by decide) ?_
      refine g_iadd C dX6_digest_180 ?_
      refine g_iald C Kf (qAM_9 hK0) dX6_digest_181 hf (fun hf => ?_)
      refine g_goto C 186 dX6_digest_182 (by decide) ?_
      refine g_cut [0, 2] rfl ?_
      exact HJ_37 _ hf
set_option maxHeartbeats 4000000 in
set_option maxRecDepth 100000 in
theorem wL6_digest_220 {X : Gx St} {K : Kx} (hK0 : isKM K) (σ : St) (x3 : Int32) (r : Int64) (C : gF X cX6_digest RX6 (some .long) 5 rmX6_digest) (Kf : kF X K) (hR : gR X K (some (.long r)) σ) (k : Int64 → Option (Int64)) (Hk : ∀ (x1_48 : Int64), k x1_48 = some r → gG X σ 257 [(0, .ref (K.2.1 0)), (1, .long x1_48), (3, .int x3)] []) : ∀ (n : Nat) (x1_46 : Int64) (x4_47 : Int32), L6_digest_220 σ x3 k n x1_46 x4_47 = some r → gG X σ 220 [(0, .ref (K.2.1 0)), (1, .long x1_46), (3, .int x3), (4, .int x4_47)] [] := by
  intro n
  induction n with
  | zero => intro _ _ hf; unfold L6_digest_220 at hf; cases hf
  | succ n ih =>
  intro x1_46 x4_47 hf
  unfold L6_digest_220 at hf
  refine g_iload C 3 dX6_digest_220 rfl ?_
  refine g_aload_n C 0 dX6_digest_222 rfl ?_
  refine g_getR C Kf cl_X6 (qF_X6_0 hK0) (by decide) dX6_digest_223 kf_X6_7 ?_
  refine g_iload_n C 2 dX6_digest_226 rfl ?_
  refine g_iald C Kf (qAM_1 hK0) dX6_digest_227 hf (fun hf => ?_)
  refine g_icmp_ge C 257 dX6_digest_228 (by decide) hf (fun hf => ?_) (fun hf => ?_)
  · refine g_cut [0, 1, 2] rfl ?_
    exact Hk _ hf
  · refine g_ldc2 (v := 31) C dX6_digest_231 kl_X6_249 ?_
    refine g_lload_n C 1 dX6_digest_234 rfl ?_
    refine g_lmul C dX6_digest_235 ?_
    refine g_aload_n C 0 dX6_digest_236 rfl ?_
    refine g_getR C Kf cl_X6 (qF_X6_1 hK0) (by decide) dX6_digest_237 kf_X6_13 ?_
    refine g_bipush (v := 40) C dX6_digest_240 (by decide) ?_
    refine g_iload_n C 2 dX6_digest_242 rfl ?_
    refine g_imul C dX6_digest_243 ?_
    refine g_iload C 3 dX6_digest_244 rfl ?_
    refine g_iadd C dX6_digest_246 ?_
    refine g_iald C Kf (qAM_2 hK0) dX6_digest_247 hf (fun hf => ?_)
    refine g_i2l C dX6_digest_248 ?_
    refine g_ladd C dX6_digest_249 ?_
    refine g_lstore_nB C (fun x1_49 => [(1, .long x1_49), (0, .ref (K.2.1 0)), (3, .int x3), (4, .int x4_47)]) dX6_digest_250 rfl (by decide) (fun _ => rfl) hf (fun x1_49 hf => ?_)
    refine g_iinc (d := 1) C 3 (fun x4_50 => [(4, .int x4_50), (1, .long x1_49), (0, .ref (K.2.1 0)), (3, .int x3)]) dX6_digest_251 rfl (by decide) (by decide) (fun _ => rfl) hf (fun x4_50 hf => ?_)
    refine g_goto C 220 dX6_digest_254 (by decide) ?_
    refine g_cut [2, 1, 3, 0] rfl ?_
    exact ih _ _ hf
set_option maxHeartbeats 4000000 in
set_option maxRecDepth 100000 in
theorem wL6_digest_197 {X : Gx St} {K : Kx} (hK0 : isKM K) (σ : St) (r : Int64) (C : gF X cX6_digest RX6 (some .long) 5 rmX6_digest) (Kf : kF X K) (hR : gR X K (some (.long r)) σ) (k : Int64 → Option (Int64)) (Hk : ∀ (x1_44 : Int64), k x1_44 = some r → gG X σ 263 [(0, .ref (K.2.1 0)), (1, .long x1_44)] []) : ∀ (n : Nat) (x1_42 : Int64) (x3_43 : Int32), L6_digest_197 σ k n x1_42 x3_43 = some r → gG X σ 197 [(0, .ref (K.2.1 0)), (1, .long x1_42), (3, .int x3_43)] [] := by
  intro n
  induction n with
  | zero => intro _ _ hf; unfold L6_digest_197 at hf; cases hf
  | succ n ih =>
  intro x1_42 x3_43 hf
  unfold L6_digest_197 at hf
  refine g_iload_n C 2 dX6_digest_197 rfl ?_
  refine g_bipush (v := 6) C dX6_digest_198 (by decide) ?_
  refine g_icmp_ge C 263 dX6_digest_200 (by decide) hf (fun hf => ?_) (fun hf => ?_)
  · refine g_cut [0, 1] rfl ?_
    exact Hk _ hf
  · refine g_ldc2 (v := 31) C dX6_digest_203 kl_X6_249 ?_
    refine g_lload_n C 1 dX6_digest_206 rfl ?_
    refine g_lmul C dX6_digest_207 ?_
    refine g_aload_n C 0 dX6_digest_208 rfl ?_
    refine g_getR C Kf cl_X6 (qF_X6_0 hK0) (by decide) dX6_digest_209 kf_X6_7 ?_
    refine g_iload_n C 2 dX6_digest_212 rfl ?_
    refine g_iald C Kf (qAM_1 hK0) dX6_digest_213 hf (fun hf => ?_)
    refine g_i2l C dX6_digest_214 ?_
    refine g_ladd C dX6_digest_215 ?_
    refine g_lstore_nB C (fun x1_45 => [(1, .long x1_45), (0, .ref (K.2.1 0)), (3, .int x3_43)]) dX6_digest_216 rfl (by decide) (fun _ => rfl) hf (fun x1_45 hf => ?_)
    refine g_iconst (v := 0) C dX6_digest_217 (by decide) ?_
    refine g_istore C [(4, .int 0), (1, .long x1_45), (0, .ref (K.2.1 0)), (3, .int x3_43)] dX6_digest_218 (by decide) rfl ?_
    refine g_cut [2, 1, 3, 0] rfl ?_
    refine wL6_digest_220 hK0 σ x3_43 _ C Kf hR _ (fun x1_51 hf => ?_) _ _ _ hf
    refine g_iinc (d := 1) C 2 (fun x3_52 => [(3, .int x3_52), (0, .ref (K.2.1 0)), (1, .long x1_51)]) dX6_digest_257 rfl (by decide) (by decide) (fun _ => rfl) hf (fun x3_52 hf => ?_)
    refine g_goto C 197 dX6_digest_260 (by decide) ?_
    refine g_cut [1, 2, 0] rfl ?_
    exact ih _ _ hf
set_option maxHeartbeats 4000000 in
set_option maxRecDepth 100000 in
theorem wL6_digest_287 {X : Gx St} {K : Kx} (hK0 : isKM K) (σ : St) (x3 : Int32) (r : Int64) (C : gF X cX6_digest RX6 (some .long) 5 rmX6_digest) (Kf : kF X K) (hR : gR X K (some (.long r)) σ) (k : Int64 → Option (Int64)) (Hk : ∀ (x1_60 : Int64), k x1_60 = some r → gG X σ 324 [(0, .ref (K.2.1 0)), (1, .long x1_60), (3, .int x3)] []) : ∀ (n : Nat) (x1_58 : Int64) (x4_59 : Int32), L6_digest_287 σ x3 k n x1_58 x4_59 = some r → gG X σ 287 [(0, .ref (K.2.1 0)), (1, .long x1_58), (3, .int x3), (4, .int x4_59)] [] := by
  intro n
  induction n with
  | zero => intro _ _ hf; unfold L6_digest_287 at hf; cases hf
  | succ n ih =>
  intro x1_58 x4_59 hf
  unfold L6_digest_287 at hf
  refine g_iload C 3 dX6_digest_287 rfl ?_
  refine g_aload_n C 0 dX6_digest_289 rfl ?_
  refine g_getR C Kf cl_X6 (qF_X6_2 hK0) (by decide) dX6_digest_290 kf_X6_16 ?_
  refine g_iload_n C 2 dX6_digest_293 rfl ?_
  refine g_iald C Kf (qAM_3 hK0) dX6_digest_294 hf (fun hf => ?_)
  refine g_icmp_ge C 324 dX6_digest_295 (by decide) hf (fun hf => ?_) (fun hf => ?_)
  · refine g_cut [0, 1, 2] rfl ?_
    exact Hk _ hf
  · refine g_ldc2 (v := 31) C dX6_digest_298 kl_X6_249 ?_
    refine g_lload_n C 1 dX6_digest_301 rfl ?_
    refine g_lmul C dX6_digest_302 ?_
    refine g_aload_n C 0 dX6_digest_303 rfl ?_
    refine g_getR C Kf cl_X6 (qF_X6_3 hK0) (by decide) dX6_digest_304 kf_X6_19 ?_
    refine g_bipush (v := 60) C dX6_digest_307 (by decide) ?_
    refine g_iload_n C 2 dX6_digest_309 rfl ?_
    refine g_imul C dX6_digest_310 ?_
    refine g_iload C 3 dX6_digest_311 rfl ?_
    refine g_iadd C dX6_digest_313 ?_
    refine g_iald C Kf (qAM_4 hK0) dX6_digest_314 hf (fun hf => ?_)
    refine g_i2l C dX6_digest_315 ?_
    refine g_ladd C dX6_digest_316 ?_
    refine g_lstore_nB C (fun x1_61 => [(1, .long x1_61), (0, .ref (K.2.1 0)), (3, .int x3), (4, .int x4_59)]) dX6_digest_317 rfl (by decide) (fun _ => rfl) hf (fun x1_61 hf => ?_)
    refine g_iinc (d := 1) C 3 (fun x4_62 => [(4, .int x4_62), (1, .long x1_61), (0, .ref (K.2.1 0)), (3, .int x3)]) dX6_digest_318 rfl (by decide) (by decide) (fun _ => rfl) hf (fun x4_62 hf => ?_)
    refine g_goto C 287 dX6_digest_321 (by decide) ?_
    refine g_cut [2, 1, 3, 0] rfl ?_
    exact ih _ _ hf
set_option maxHeartbeats 4000000 in
set_option maxRecDepth 100000 in
theorem wL6_digest_265 {X : Gx St} {K : Kx} (hK0 : isKM K) (σ : St) (r : Int64) (C : gF X cX6_digest RX6 (some .long) 5 rmX6_digest) (Kf : kF X K) (hR : gR X K (some (.long r)) σ) (k : Int64 → Option (Int64)) (Hk : ∀ (x1_56 : Int64), k x1_56 = some r → gG X σ 330 [(1, .long x1_56)] []) : ∀ (n : Nat) (x1_54 : Int64) (x3_55 : Int32), L6_digest_265 σ k n x1_54 x3_55 = some r → gG X σ 265 [(0, .ref (K.2.1 0)), (1, .long x1_54), (3, .int x3_55)] [] := by
  intro n
  induction n with
  | zero => intro _ _ hf; unfold L6_digest_265 at hf; cases hf
  | succ n ih =>
  intro x1_54 x3_55 hf
  unfold L6_digest_265 at hf
  refine g_iload_n C 2 dX6_digest_265 rfl ?_
  refine g_iconst (v := 4) C dX6_digest_266 (by decide) ?_
  refine g_icmp_ge C 330 dX6_digest_267 (by decide) hf (fun hf => ?_) (fun hf => ?_)
  · refine g_cut [1] rfl ?_
    exact Hk _ hf
  · refine g_ldc2 (v := 31) C dX6_digest_270 kl_X6_249 ?_
    refine g_lload_n C 1 dX6_digest_273 rfl ?_
    refine g_lmul C dX6_digest_274 ?_
    refine g_aload_n C 0 dX6_digest_275 rfl ?_
    refine g_getR C Kf cl_X6 (qF_X6_2 hK0) (by decide) dX6_digest_276 kf_X6_16 ?_
    refine g_iload_n C 2 dX6_digest_279 rfl ?_
    refine g_iald C Kf (qAM_3 hK0) dX6_digest_280 hf (fun hf => ?_)
    refine g_i2l C dX6_digest_281 ?_
    refine g_ladd C dX6_digest_282 ?_
    refine g_lstore_nB C (fun x1_57 => [(1, .long x1_57), (0, .ref (K.2.1 0)), (3, .int x3_55)]) dX6_digest_283 rfl (by decide) (fun _ => rfl) hf (fun x1_57 hf => ?_)
    refine g_iconst (v := 0) C dX6_digest_284 (by decide) ?_
    refine g_istore C [(4, .int 0), (1, .long x1_57), (0, .ref (K.2.1 0)), (3, .int x3_55)] dX6_digest_285 (by decide) rfl ?_
    refine g_cut [2, 1, 3, 0] rfl ?_
    refine wL6_digest_287 hK0 σ x3_55 _ C Kf hR _ (fun x1_63 hf => ?_) _ _ _ hf
    refine g_iinc (d := 1) C 2 (fun x3_64 => [(3, .int x3_64), (0, .ref (K.2.1 0)), (1, .long x1_63)]) dX6_digest_324 rfl (by decide) (by decide) (fun _ => rfl) hf (fun x3_64 hf => ?_)
    refine g_goto C 265 dX6_digest_327 (by decide) ?_
    refine g_cut [1, 2, 0] rfl ?_
    exact ih _ _ hf
set_option maxHeartbeats 4000000 in
set_option maxRecDepth 100000 in
theorem mX6_digest {K : Kx} (hK0 : isKM K) (l : Launch) (σ : St)   (r : Int64) (hf : f6_digest σ = some r) : mC K l yX6_digest cX6_digest 5 (some .long) rmX6_digest [.ref (K.2.1 0)] σ (some (.long r)) σ := by
  refine g_entry (own := RX6) rfl (by decide +kernel) (Nat.le_of_ble_eq_true rfl) (fun X hX C Kf hR => ?_)
  subst hX
  unfold f6_digest at hf
  show gG X σ 0 [(0, .ref (K.2.1 0))] []
  refine g_ldc2 (v := 17) C dX6_digest_0 kl_X6_247 ?_
  refine g_lstore_n C [(1, .long 17), (0, .ref (K.2.1 0))] dX6_digest_3 rfl (by decide) rfl ?_
  refine g_iconst (v := 0) C dX6_digest_4 (by decide) ?_
  refine g_istore_n C [(3, .int 0), (1, .long 17), (0, .ref (K.2.1 0))] dX6_digest_5 rfl (by decide) rfl ?_
  refine g_cut [2, 1, 0] rfl ?_
  refine wL6_digest_6 hK0 σ _ C Kf hR _ (fun x1_8 hf => ?_) _ _ _ hf
  refine g_iconst (v := 0) C dX6_digest_31 (by decide) ?_
  refine g_istore_n C [(3, .int 0), (0, .ref (K.2.1 0)), (1, .long x1_8)] dX6_digest_32 rfl (by decide) rfl ?_
  refine g_cut [1, 2, 0] rfl ?_
  refine wL6_digest_33 hK0 σ _ C Kf hR _ (fun x1_31 hf => ?_) _ _ _ hf
  refine g_iconst (v := 0) C dX6_digest_148 (by decide) ?_
  refine g_istore_n C [(3, .int 0), (0, .ref (K.2.1 0)), (1, .long x1_31)] dX6_digest_149 rfl (by decide) rfl ?_
  refine g_cut [1, 2, 0] rfl ?_
  refine wL6_digest_150 hK0 σ _ C Kf hR _ (fun x1_41 hf => ?_) _ _ _ hf
  refine g_iconst (v := 0) C dX6_digest_195 (by decide) ?_
  refine g_istore_n C [(3, .int 0), (0, .ref (K.2.1 0)), (1, .long x1_41)] dX6_digest_196 rfl (by decide) rfl ?_
  refine g_cut [1, 2, 0] rfl ?_
  refine wL6_digest_197 hK0 σ _ C Kf hR _ (fun x1_53 hf => ?_) _ _ _ hf
  refine g_iconst (v := 0) C dX6_digest_263 (by decide) ?_
  refine g_istore_n C [(3, .int 0), (0, .ref (K.2.1 0)), (1, .long x1_53)] dX6_digest_264 rfl (by decide) rfl ?_
  refine g_cut [1, 2, 0] rfl ?_
  refine wL6_digest_265 hK0 σ _ C Kf hR _ (fun x1_65 hf => ?_) _ _ _ hf
  refine g_lload_n C 0 dX6_digest_330 rfl ?_
  exact g_lretR C Kf hR dX6_digest_331 hf
abbrev rmX6_leadBy : Room := { frames := 5, cells := 0, slots := 0, locals := 121 }
set_option maxHeartbeats 4000000 in
set_option maxRecDepth 100000 in
theorem wL6_leadBy_10 {X : Gx St} {K : Kx} (hK0 : isKM K) (σ : St) (x1 : Int32) (x2 : Int32) (x4 : Int32) (r : Int32) (σ' : St) (C : gF X cX6_leadBy RX6 (some .int) 7 rmX6_leadBy) (Kf : kF X K) (hR : gR X K (some (.int r)) σ') (k : St → Option (Int32 × St)) (Hk : ∀ (σ_14 : St), k σ_14 = some (r, σ') → gG X σ_14 49 [(0, .ref (K.2.1 0)), (1, .int x1), (2, .int x2)] []) : ∀ (n : Nat) (x5_3 : Int32) (x6_4 : Int32) (σ_5 : St), L6_leadBy_10 x1 x2 x4 k n x5_3 x6_4 σ_5 = some (r, σ') → gG X σ_5 10 [(0, .ref (K.2.1 0)), (1, .int x1), (2, .int x2), (4, .int x4), (5, .int x5_3), (6, .int x6_4)] [] := by
  intro n
  induction n with
  | zero => intro _ _ _ hf; unfold L6_leadBy_10 at hf; cases hf
  | succ n ih =>
  intro x5_3 x6_4 σ_5 hf
  unfold L6_leadBy_10 at hf
  refine g_iload C 5 dX6_leadBy_10 rfl ?_
  refine g_iload C 3 dX6_leadBy_12 rfl ?_
  refine g_icmp_ge C 49 dX6_leadBy_14 (by decide) hf (fun hf => ?_) (fun hf => ?_)
  · refine g_cut [0, 1, 2] rfl ?_
    exact Hk _ hf
  · refine g_iload C 4 dX6_leadBy_17 rfl ?_
    refine g_iconst (v := 4) C dX6_leadBy_19 (by decide) ?_
    refine g_irem0 C dX6_leadBy_20 (by decide) ?_
    refine g_iconst (v := 3) C dX6_leadBy_21 (by decide) ?_
    refine g_jn hf (fun j_7 ej_9 hf => ?_)
    have HJ_8 : ∀ (σ_6 : St), j_7 σ_6 = some (r, σ') → gG X σ_6 37 [(0, .ref (K.2.1 0)), (1, .int x1), (2, .int x2), (4, .int x4), (5, .int x5_3), (6, .int x6_4)] [] := by
      intro σ_6 hf
      rw [ej_9] at hf
      refine g_iload C 4 dX6_leadBy_37 rfl ?_
      refine g_iconst (v := 4) C dX6_leadBy_39 (by decide) ?_
      refine g_idiv0 C dX6_leadBy_40 (by decide) ?_
      refine g_istoreB C (fun x5_10 => [(5, .int x5_10), (0, .ref (K.2.1 0)), (1, .int x1), (2, .int x2), (4, .int x4), (6, .int x6_4)]) dX6_leadBy_41 (by decide) (fun _ => rfl) hf (fun x5_10 hf => ?_)
      refine g_iinc (d := 1) C 5 (fun x6_11 => [(6, .int x6_11), (5, .int x5_10), (0, .ref (K.2.1 0)), (1, .int x1), (2, .int x2), (4, .int x4)]) dX6_leadBy_43 rfl (by decide) (by decide) (fun _ => rfl) hf (fun x6_11 hf => ?_)
      refine g_goto C 10 dX6_leadBy_46 (by decide) ?_
      refine g_cut [2, 3, 4, 5, 1, 0] rfl ?_
      exact ih _ _ _ hf
    refine g_icmp_ge C 37 dX6_leadBy_22 (by decide) hf (fun hf => ?_) (fun hf => ?_)
    · exact HJ_8 _ hf
    · refine g_aload_n C 0 dX6_leadBy_25 rfl ?_
      refine g_aload_n C 0 dX6_leadBy_26 rfl ?_
      refine g_getR C Kf cl_X6 (qF_X6_7 hK0) (by decide) dX6_leadBy_27 kf_X6_28 ?_
      refine g_iload C 4 dX6_leadBy_30 rfl ?_
      refine g_iconst (v := 4) C dX6_leadBy_32 (by decide) ?_
      refine g_irem0 C dX6_leadBy_33 (by decide) ?_
      obtain ⟨σ_13, h_12, hf⟩ := b1_some hf
      refine g_cV_v C Kf [.ref (K.2.1 7), .int (x5_3 - x5_3 / 4 * 4)] (mX6_passes hK0 X.1.2.1 σ_5 7 (x5_3 - x5_3 / 4 * 4) (by decide) σ_13 h_12) mi_X6_passes (qO_X6 hK0) rfl km_X6_149 ⟨rfl, rfl, by decide, by decide⟩ rfl rfl (Nat.le_of_ble_eq_true rfl) dX6_leadBy_34 ?_
      exact HJ_8 _ hf
set_option maxHeartbeats 4000000 in
set_option maxRecDepth 100000 in
theorem mX6_leadBy {K : Kx} (hK0 : isKM K) (l : Launch) (σ : St) (x1 : Int32) (x2 : Int32) (x3 : Int32) (x4 : Int32)  (r : Int32) (σ' : St) (hf : f6_leadBy σ x1 x2 x3 x4 = some (r, σ')) : mC K l yX6_leadBy cX6_leadBy 7 (some .int) rmX6_leadBy [.ref (K.2.1 0), .int x1, .int x2, .int x3, .int x4] σ (some (.int r)) σ' := by
  refine g_entry (own := RX6) rfl (by decide +kernel) (Nat.le_of_ble_eq_true rfl) (fun X hX C Kf hR => ?_)
  subst hX
  unfold f6_leadBy at hf
  show gG X σ 0 [(0, .ref (K.2.1 0)), (1, .int x1), (2, .int x2), (3, .int x3), (4, .int x4)] []
  refine g_aload_n C 0 dX6_leadBy_0 rfl ?_
  obtain ⟨σ_2, h_1, hf⟩ := b1_some hf
  refine g_cV_v C Kf [] (mX6_laysAside hK0 X.1.2.1 σ σ_2 h_1) mi_X6_laysAside (qO_X6 hK0) rfl km_X6_167 ⟨rfl, rfl, by decide, by decide⟩ rfl rfl (Nat.le_of_ble_eq_true rfl) dX6_leadBy_1 ?_
  refine g_iload_n C 3 dX6_leadBy_4 rfl ?_
  refine g_istore C [(5, .int x3), (0, .ref (K.2.1 0)), (1, .int x1), (2, .int x2), (3, .int x3), (4, .int x4)] dX6_leadBy_5 (by decide) rfl ?_
  refine g_iconst (v := 0) C dX6_leadBy_7 (by decide) ?_
  refine g_istore C [(6, .int 0), (5, .int x3), (0, .ref (K.2.1 0)), (1, .int x1), (2, .int x2), (3, .int x3), (4, .int x4)] dX6_leadBy_8 (by decide) rfl ?_
  refine g_cut [2, 3, 4, 6, 1, 0] rfl ?_
  refine wL6_leadBy_10 hK0 σ_2 x1 x2 x4 _ _ C Kf hR _ (fun σ_15 hf => ?_) _ _ _ _ hf
  refine g_aload_n C 0 dX6_leadBy_49 rfl ?_
  refine g_getR C Kf cl_X6 (qF_X6_7 hK0) (by decide) dX6_leadBy_50 kf_X6_28 ?_
  refine g_iload_n C 2 dX6_leadBy_53 rfl ?_
  obtain ⟨r_17, h_16, hf⟩ := b1_some hf
  refine g_cS_i C Kf [.ref (K.2.1 7), .int x2] (mX6_placeOf hK0 X.1.2.1 σ_15 7 x2 (by decide) r_17 h_16) mi_X6_placeOf km_X6_139 ⟨rfl, rfl, by decide, by decide⟩ rfl rfl (Nat.le_of_ble_eq_true rfl) dX6_leadBy_54 ?_
  refine g_aload_n C 0 dX6_leadBy_57 rfl ?_
  refine g_getR C Kf cl_X6 (qF_X6_7 hK0) (by decide) dX6_leadBy_58 kf_X6_28 ?_
  refine g_iload_n C 1 dX6_leadBy_61 rfl ?_
  obtain ⟨r_19, h_18, hf⟩ := b1_some hf
  refine g_cS_i C Kf [.ref (K.2.1 7), .int x1] (mX6_placeOf hK0 X.1.2.1 σ_15 7 x1 (by decide) r_19 h_18) mi_X6_placeOf km_X6_139 ⟨rfl, rfl, by decide, by decide⟩ rfl rfl (Nat.le_of_ble_eq_true rfl) dX6_leadBy_62 ?_
  refine g_isub C dX6_leadBy_65 ?_
  exact g_iretP C Kf hR dX6_leadBy_66 hf
abbrev rmX6_duel : Room := { frames := 6, cells := 0, slots := 0, locals := 147 }
set_option maxHeartbeats 4000000 in
set_option maxRecDepth 100000 in
theorem wL6_duel_41 {X : Gx St} {K : Kx} (hK0 : isKM K) (σ : St) (x1 : Int32) (x2 : Int32) (x3 : Int32) (r : Int32) (σ' : St) (C : gF X cX6_duel RX6 (some .int) 10 rmX6_duel) (Kf : kF X K) (hR : gR X K (some (.int r)) σ') (k : Int32 → Option (Int32 × St)) (Hk : ∀ (x4_9 : Int32), k x4_9 = some (r, σ') → gG X σ 61 [(0, .ref (K.2.1 0)), (1, .int x1), (2, .int x2), (3, .int x3), (4, .int x4_9)] []) : ∀ (n : Nat) (x4_7 : Int32) (x5_8 : Int32), L6_duel_41 σ x1 x2 x3 k n x4_7 x5_8 = some (r, σ') → gG X σ 41 [(0, .ref (K.2.1 0)), (1, .int x1), (2, .int x2), (3, .int x3), (4, .int x4_7), (5, .int x5_8)] [] := by
  intro n
  induction n with
  | zero => intro _ _ hf; unfold L6_duel_41 at hf; cases hf
  | succ n ih =>
  intro x4_7 x5_8 hf
  unfold L6_duel_41 at hf
  refine g_iload C 5 dX6_duel_41 rfl ?_
  refine g_iconst (v := 2) C dX6_duel_43 (by decide) ?_
  refine g_iload_n C 3 dX6_duel_44 rfl ?_
  refine g_imul C dX6_duel_45 ?_
  refine g_icmp_ge C 61 dX6_duel_46 (by decide) hf (fun hf => ?_) (fun hf => ?_)
  · refine g_cut [0, 1, 2, 3, 4] rfl ?_
    exact Hk _ hf
  · refine g_iload C 4 dX6_duel_49 rfl ?_
    refine g_iconst (v := 4) C dX6_duel_51 (by decide) ?_
    refine g_imul C dX6_duel_52 ?_
    refine g_istoreB C (fun x4_10 => [(4, .int x4_10), (0, .ref (K.2.1 0)), (1, .int x1), (2, .int x2), (3, .int x3), (5, .int x5_8)]) dX6_duel_53 (by decide) (fun _ => rfl) hf (fun x4_10 hf => ?_)
    refine g_iinc (d := 1) C 5 (fun x5_11 => [(5, .int x5_11), (4, .int x4_10), (0, .ref (K.2.1 0)), (1, .int x1), (2, .int x2), (3, .int x3)]) dX6_duel_55 rfl (by decide) (by decide) (fun _ => rfl) hf (fun x5_11 hf => ?_)
    refine g_goto C 41 dX6_duel_58 (by decide) ?_
    refine g_cut [2, 3, 4, 5, 1, 0] rfl ?_
    exact ih _ _ hf
set_option maxHeartbeats 4000000 in
set_option maxRecDepth 100000 in
theorem wL6_duel_64 {X : Gx St} {K : Kx} (hK0 : isKM K) (σ : St) (x1 : Int32) (x2 : Int32) (x3 : Int32) (x4 : Int32) (r : Int32) (σ' : St) (C : gF X cX6_duel RX6 (some .int) 10 rmX6_duel) (Kf : kF X K) (hR : gR X K (some (.int r)) σ') (k : St → Option (Int32 × St)) (Hk : ∀ (σ_20 : St), k σ_20 = some (r, σ') → gG X σ_20 95 [(0, .ref (K.2.1 0)), (4, .int x4)] []) : ∀ (n : Nat) (x5_13 : Int32) (σ_14 : St), L6_duel_64 x1 x2 x3 x4 k n x5_13 σ_14 = some (r, σ') → gG X σ_14 64 [(0, .ref (K.2.1 0)), (1, .int x1), (2, .int x2), (3, .int x3), (4, .int x4), (5, .int x5_13)] [] := by
  intro n
  induction n with
  | zero => intro _ _ hf; unfold L6_duel_64 at hf; cases hf
  | succ n ih =>
  intro x5_13 σ_14 hf
  unfold L6_duel_64 at hf
  refine g_iload C 5 dX6_duel_64 rfl ?_
  refine g_iload C 4 dX6_duel_66 rfl ?_
  refine g_icmp_ge C 95 dX6_duel_68 (by decide) hf (fun hf => ?_) (fun hf => ?_)
  · refine g_cut [0, 4] rfl ?_
    exact Hk _ hf
  · refine g_aload_n C 0 dX6_duel_71 rfl ?_
    refine g_getR C Kf cl_X6 (qF_X6_21 hK0) (by decide) dX6_duel_72 kf_X6_57 ?_
    refine g_iload C 5 dX6_duel_75 rfl ?_
    refine g_aload_n C 0 dX6_duel_77 rfl ?_
    refine g_iload_n C 1 dX6_duel_78 rfl ?_
    refine g_iload_n C 2 dX6_duel_79 rfl ?_
    refine g_iload C 5 dX6_duel_80 rfl ?_
    refine g_iconst (v := 2) C dX6_duel_82 (by decide) ?_
    refine g_iload_n C 3 dX6_duel_83 rfl ?_
    refine g_imul C dX6_duel_84 ?_
    obtain ⟨r_16, σ_17, h_15, hf⟩ := b2_some hf
    refine g_cV_i C Kf [.int x1, .int x2, .int x5_13, .int (2 * x3)] (mX6_leadBy hK0 X.1.2.1 σ_14 x1 x2 x5_13 (2 * x3) r_16 σ_17 h_15) mi_X6_leadBy (qO_X6 hK0) rfl km_X6_205 ⟨rfl, rfl, by decide, by decide⟩ rfl rfl (Nat.le_of_ble_eq_true rfl) dX6_duel_85 ?_
    refine g_iast C Kf (qAM_15 hK0) dX6_duel_88 hf (fun σ_18 hf => ?_)
    refine g_iinc (d := 1) C 5 (fun x5_19 => [(5, .int x5_19), (0, .ref (K.2.1 0)), (1, .int x1), (2, .int x2), (3, .int x3), (4, .int x4)]) dX6_duel_89 rfl (by decide) (by decide) (fun _ => rfl) hf (fun x5_19 hf => ?_)
    refine g_goto C 64 dX6_duel_92 (by decide) ?_
    refine g_cut [1, 2, 3, 4, 5, 0] rfl ?_
    exact ih _ _ hf
set_option maxHeartbeats 4000000 in
set_option maxRecDepth 100000 in
theorem wL6_duel_132 {X : Gx St} {K : Kx} (hK0 : isKM K) (σ : St) (x4 : Int32) (x5 : Int32) (x6 : Int32) (r : Int32) (σ' : St) (C : gF X cX6_duel RX6 (some .int) 10 rmX6_duel) (Kf : kF X K) (hR : gR X K (some (.int r)) σ') (k : Int32 → Option (Int32 × St)) (Hk : ∀ (x7_31 : Int32), k x7_31 = some (r, σ') → gG X σ 185 [(0, .ref (K.2.1 0)), (4, .int x4), (5, .int x5), (6, .int x6), (7, .int x7_31)] []) : ∀ (n : Nat) (x7_29 : Int32) (x8_30 : Int32), L6_duel_132 σ x4 x5 x6 k n x7_29 x8_30 = some (r, σ') → gG X σ 132 [(0, .ref (K.2.1 0)), (4, .int x4), (5, .int x5), (6, .int x6), (7, .int x7_29), (8, .int x8_30)] [] := by
  intro n
  induction n with
  | zero => intro _ _ hf; unfold L6_duel_132 at hf; cases hf
  | succ n ih =>
  intro x7_29 x8_30 hf
  unfold L6_duel_132 at hf
  refine g_iload C 5 dX6_duel_132 rfl ?_
  refine g_iconst (v := 4) C dX6_duel_134 (by decide) ?_
  refine g_icmp_ge C 185 dX6_duel_135 (by decide) hf (fun hf => ?_) (fun hf => ?_)
  · refine g_cut [0, 1, 2, 3, 4] rfl ?_
    exact Hk _ hf
  · refine g_aload_n C 0 dX6_duel_138 rfl ?_
    refine g_getR C Kf cl_X6 (qF_X6_21 hK0) (by decide) dX6_duel_139 kf_X6_57 ?_
    refine g_iload C 3 dX6_duel_142 rfl ?_
    refine g_iload C 1 dX6_duel_144 rfl ?_
    refine g_iload C 5 dX6_duel_146 rfl ?_
    refine g_imul C dX6_duel_148 ?_
    refine g_iadd C dX6_duel_149 ?_
    refine g_iald C Kf (qAM_15 hK0) dX6_duel_150 hf (fun hf => ?_)
    refine g_istoreB C (fun x9_32 => [(9, .int x9_32), (0, .ref (K.2.1 0)), (4, .int x4), (5, .int x5), (6, .int x6), (7, .int x7_29), (8, .int x8_30)]) dX6_duel_151 (by decide) (fun _ => rfl) hf (fun x9_32 hf => ?_)
    refine g_iload C 0 dX6_duel_153 rfl ?_
    refine g_iload C 5 dX6_duel_155 rfl ?_
    refine g_jn hf (fun j_34 ej_36 hf => ?_)
    have HJ_35 : ∀ (y_33 : Int32), j_34 y_33 = some (r, σ') → gG X σ 165 [(0, .ref (K.2.1 0)), (4, .int x4), (5, .int x5), (6, .int x6), (7, .int x7_29), (8, .int x8_30), (9, .int x9_32)] [.int y_33] := by
      intro y_33 hf
      rw [ej_36] at hf
      refine g_iload C 2 dX6_duel_165 rfl ?_
      refine g_jn hf (fun j_38 ej_40 hf => ?_)
      have HJ_39 : ∀ (y_37 : Int32), j_38 y_37 = some (r, σ') → gG X σ 177 [(0, .ref (K.2.1 0)), (4, .int x4), (5, .int x5), (6, .int x6), (8, .int x8_30)] [.int y_37] := by
        intro y_37 hf
        rw [ej_40] at hf
        refine g_istore C [(7, .int y_37), (0, .ref (K.2.1 0)), (4, .int x4), (5, .int x5), (6, .int x6), (8, .int x8_30)] dX6_duel_177 (by decide) rfl ?_
        refine g_iinc (d := 1) C 5 (fun x8_41 => [(8, .int x8_41), (7, .int y_37), (0, .ref (K.2.1 0)), (4, .int x4), (5, .int x5), (6, .int x6)]) dX6_duel_179 rfl (by decide) (by decide) (fun _ => rfl) hf (fun x8_41 hf => ?_)
        refine g_goto C 132 dX6_duel_182 (by decide) ?_
        refine g_cut [2, 3, 4, 5, 1, 0] rfl ?_
        exact ih _ _ hf
      refine g_icmp_eq C 175 dX6_duel_167 (by decide) hf (fun hf => ?_) (fun hf => ?_)
      · refine g_iload C 4 dX6_duel_175 rfl ?_
        refine g_cut [0, 1, 2, 3, 5] rfl ?_
        exact HJ_39 _ hf
      · refine g_iload C 6 dX6_duel_170 rfl ?_
        refine g_goto C 177 dX6_duel_172 (by decide) ?_
        refine g_cut [0, 1, 2, 3, 5] rfl ?_
        exact HJ_39 _ hf
    refine g_icmp_le C 164 dX6_duel_157 (by decide) hf (fun hf => ?_) (fun hf => ?_)
    · refine g_iconst (v := 0) C dX6_duel_164 (by decide) ?_
      refine g_cut [1, 2, 3, 4, 5, 6, 0] rfl ?_
      exact HJ_35 _ hf
    · refine g_iconst (v := 1) C dX6_duel_160 (by decide) ?_
      refine g_goto C 165 dX6_duel_161 (by decide) ?_
      refine g_cut [1, 2, 3, 4, 5, 6, 0] rfl ?_
      exact HJ_35 _ hf
set_option maxHeartbeats 4000000 in
set_option maxRecDepth 100000 in
theorem wL6_duel_113 {X : Gx St} {K : Kx} (hK0 : isKM K) (σ : St) (x4 : Int32) (x5 : Int32) (r : Int32) (σ' : St) (C : gF X cX6_duel RX6 (some .int) 10 rmX6_duel) (Kf : kF X K) (hR : gR X K (some (.int r)) σ') (k : St → Option (Int32 × St)) (Hk : ∀ (σ_45 : St), k σ_45 = some (r, σ') → gG X σ_45 200 [(0, .ref (K.2.1 0)), (4, .int x4), (5, .int x5)] []) : ∀ (n : Nat) (x6_26 : Int32) (σ_27 : St), L6_duel_113 x4 x5 k n x6_26 σ_27 = some (r, σ') → gG X σ_27 113 [(0, .ref (K.2.1 0)), (4, .int x4), (5, .int x5), (6, .int x6_26)] [] := by
  intro n
  induction n with
  | zero => intro _ _ hf; unfold L6_duel_113 at hf; cases hf
  | succ n ih =>
  intro x6_26 σ_27 hf
  unfold L6_duel_113 at hf
  refine g_iload C 3 dX6_duel_113 rfl ?_
  refine g_iload C 1 dX6_duel_115 rfl ?_
  refine g_icmp_ge C 200 dX6_duel_117 (by decide) hf (fun hf => ?_) (fun hf => ?_)
  · refine g_cut [0, 1, 2] rfl ?_
    exact Hk _ hf
  · refine g_aload_n C 0 dX6_duel_120 rfl ?_
    refine g_getR C Kf cl_X6 (qF_X6_21 hK0) (by decide) dX6_duel_121 kf_X6_57 ?_
    refine g_iload C 3 dX6_duel_124 rfl ?_
    refine g_iald C Kf (qAM_15 hK0) dX6_duel_126 hf (fun hf => ?_)
    refine g_istoreB C (fun x7_28 => [(7, .int x7_28), (0, .ref (K.2.1 0)), (4, .int x4), (5, .int x5), (6, .int x6_26)]) dX6_duel_127 (by decide) (fun _ => rfl) hf (fun x7_28 hf => ?_)
    refine g_iconst (v := 1) C dX6_duel_129 (by decide) ?_
    refine g_istore C [(8, .int 1), (7, .int x7_28), (0, .ref (K.2.1 0)), (4, .int x4), (5, .int x5), (6, .int x6_26)] dX6_duel_130 (by decide) rfl ?_
    refine g_cut [2, 3, 4, 5, 1, 0] rfl ?_
    refine wL6_duel_132 hK0 σ_27 x4 x5 x6_26 _ _ C Kf hR _ (fun x7_42 hf => ?_) _ _ _ hf
    refine g_aload_n C 0 dX6_duel_185 rfl ?_
    refine g_getR C Kf cl_X6 (qF_X6_21 hK0) (by decide) dX6_duel_186 kf_X6_57 ?_
    refine g_iload C 3 dX6_duel_189 rfl ?_
    refine g_iload C 4 dX6_duel_191 rfl ?_
    refine g_iast C Kf (qAM_15 hK0) dX6_duel_193 hf (fun σ_43 hf => ?_)
    refine g_iinc (d := 1) C 3 (fun x6_44 => [(6, .int x6_44), (0, .ref (K.2.1 0)), (4, .int x4), (5, .int x5), (7, .int x7_42)]) dX6_duel_194 rfl (by decide) (by decide) (fun _ => rfl) hf (fun x6_44 hf => ?_)
    refine g_goto C 113 dX6_duel_197 (by decide) ?_
    refine g_cut [1, 2, 3, 0] rfl ?_
    exact ih _ _ hf
set_option maxHeartbeats 4000000 in
set_option maxRecDepth 100000 in
theorem wL6_duel_98 {X : Gx St} {K : Kx} (hK0 : isKM K) (σ : St) (r : Int32) (σ' : St) (C : gF X cX6_duel RX6 (some .int) 10 rmX6_duel) (Kf : kF X K) (hR : gR X K (some (.int r)) σ') (k : St → Option (Int32 × St)) (Hk : ∀ (σ_51 : St), k σ_51 = some (r, σ') → gG X σ_51 215 [(0, .ref (K.2.1 0))] []) : ∀ (n : Nat) (x4_22 : Int32) (x5_23 : Int32) (σ_24 : St), L6_duel_98 k n x4_22 x5_23 σ_24 = some (r, σ') → gG X σ_24 98 [(0, .ref (K.2.1 0)), (4, .int x4_22), (5, .int x5_23)] [] := by
  intro n
  induction n with
  | zero => intro _ _ _ hf; unfold L6_duel_98 at hf; cases hf
  | succ n ih =>
  intro x4_22 x5_23 σ_24 hf
  unfold L6_duel_98 at hf
  refine g_iload C 1 dX6_duel_98 rfl ?_
  refine g_iconst (v := 1) C dX6_duel_100 (by decide) ?_
  refine g_icmp_le C 215 dX6_duel_101 (by decide) hf (fun hf => ?_) (fun hf => ?_)
  · refine g_cut [0] rfl ?_
    exact Hk _ hf
  · refine g_iload C 1 dX6_duel_104 rfl ?_
    refine g_iconst (v := 4) C dX6_duel_106 (by decide) ?_
    refine g_idiv0 C dX6_duel_107 (by decide) ?_
    refine g_istoreB C (fun x4_25 => [(4, .int x4_25), (0, .ref (K.2.1 0)), (5, .int x5_23)]) dX6_duel_108 (by decide) (fun _ => rfl) hf (fun x4_25 hf => ?_)
    refine g_iconst (v := 0) C dX6_duel_110 (by decide) ?_
    refine g_istore C [(6, .int 0), (4, .int x4_25), (0, .ref (K.2.1 0)), (5, .int x5_23)] dX6_duel_111 (by decide) rfl ?_
    refine g_cut [2, 1, 3, 0] rfl ?_
    refine wL6_duel_113 hK0 σ_24 x4_25 x5_23 _ _ C Kf hR _ (fun σ_46 hf => ?_) _ _ _ hf
    refine g_iload C 2 dX6_duel_200 rfl ?_
    refine g_jn hf (fun j_48 ej_50 hf => ?_)
    have HJ_49 : ∀ (y_47 : Int32), j_48 y_47 = some (r, σ') → gG X σ_46 210 [(0, .ref (K.2.1 0)), (4, .int x4_25)] [.int y_47] := by
      intro y_47 hf
      rw [ej_50] at hf
      refine g_istore C [(5, .int y_47), (0, .ref (K.2.1 0)), (4, .int x4_25)] dX6_duel_210 (by decide) rfl ?_
      refine g_goto C 98 dX6_duel_212 (by decide) ?_
      refine g_cut [1, 2, 0] rfl ?_
      exact ih _ _ _ hf
    refine g_if_ne C 209 dX6_duel_202 (by decide) hf (fun hf => ?_) (fun hf => ?_)
    · refine g_iconst (v := 0) C dX6_duel_209 (by decide) ?_
      refine g_cut [0, 1] rfl ?_
      exact HJ_49 _ hf
    · refine g_iconst (v := 1) C dX6_duel_205 (by decide) ?_
      refine g_goto C 210 dX6_duel_206 (by decide) ?_
      refine g_cut [0, 1] rfl ?_
      exact HJ_49 _ hf
set_option maxHeartbeats 4000000 in
set_option maxRecDepth 100000 in
theorem mX6_duel {K : Kx} (hK0 : isKM K) (l : Launch) (σ : St) (x1 : Int32) (x2 : Int32) (x3 : Int32)  (r : Int32) (σ' : St) (hf : f6_duel σ x1 x2 x3 = some (r, σ')) : mC K l yX6_duel cX6_duel 10 (some .int) rmX6_duel [.ref (K.2.1 0), .int x1, .int x2, .int x3] σ (some (.int r)) σ' := by
  refine g_entry (own := RX6) rfl (by decide +kernel) (Nat.le_of_ble_eq_true rfl) (fun X hX C Kf hR => ?_)
  subst hX
  unfold f6_duel at hf
  show gG X σ 0 [(0, .ref (K.2.1 0)), (1, .int x1), (2, .int x2), (3, .int x3)] []
  refine g_aload_n C 0 dX6_duel_0 rfl ?_
  refine g_iload_n C 1 dX6_duel_1 rfl ?_
  obtain ⟨r_2, h_1, hf⟩ := b1_some hf
  refine g_cV_i C Kf [.int x1] (mX6_isCard hK0 X.1.2.1 σ x1 r_2 h_1) mi_X6_isCard (qO_X6 hK0) rfl km_X6_134 ⟨rfl, rfl, by decide, by decide⟩ rfl rfl (Nat.le_of_ble_eq_true rfl) dX6_duel_2 ?_
  refine g_if_eq C 33 dX6_duel_5 (by decide) hf (fun hf => ?_) (fun hf => ?_)
  · refine g_iconst (v := (-1)) C dX6_duel_33 (by decide) ?_
    exact g_iretP C Kf hR dX6_duel_34 hf
  · refine g_aload_n C 0 dX6_duel_8 rfl ?_
    refine g_iload_n C 2 dX6_duel_9 rfl ?_
    obtain ⟨r_4, h_3, hf⟩ := b1_some hf
    refine g_cV_i C Kf [.int x2] (mX6_isCard hK0 X.1.2.1 σ x2 r_4 h_3) mi_X6_isCard (qO_X6 hK0) rfl km_X6_134 ⟨rfl, rfl, by decide, by decide⟩ rfl rfl (Nat.le_of_ble_eq_true rfl) dX6_duel_10 ?_
    refine g_if_eq C 33 dX6_duel_13 (by decide) hf (fun hf => ?_) (fun hf => ?_)
    · refine g_iconst (v := (-1)) C dX6_duel_33 (by decide) ?_
      exact g_iretP C Kf hR dX6_duel_34 hf
    · refine g_iload_n C 1 dX6_duel_16 rfl ?_
      refine g_iload_n C 2 dX6_duel_17 rfl ?_
      refine g_icmp_eq C 33 dX6_duel_18 (by decide) hf (fun hf => ?_) (fun hf => ?_)
      · refine g_iconst (v := (-1)) C dX6_duel_33 (by decide) ?_
        exact g_iretP C Kf hR dX6_duel_34 hf
      · refine g_iload_n C 3 dX6_duel_21 rfl ?_
        refine g_i2l C dX6_duel_22 ?_
        refine g_lconst (v := 0) C dX6_duel_23 (by decide) ?_
        refine g_ldc2 (v := 3) C dX6_duel_24 kl_X6_73 ?_
        obtain ⟨r_6, h_5, hf⟩ := b1_some hf
        refine g_cS_i C Kf [.long (x3.toInt64), .long 0, .long 3] (mX6_in hK0 X.1.2.1 σ (x3.toInt64) 0 3 r_6 h_5) mi_X6_in km_X6_69 ⟨rfl, rfl, by decide, by decide⟩ rfl rfl (Nat.le_of_ble_eq_true rfl) dX6_duel_27 ?_
        refine g_if_ne C 35 dX6_duel_30 (by decide) hf (fun hf => ?_) (fun hf => ?_)
        · refine g_iconst (v := 1) C dX6_duel_35 (by decide) ?_
          refine g_istore C [(4, .int 1), (0, .ref (K.2.1 0)), (1, .int x1), (2, .int x2), (3, .int x3)] dX6_duel_36 (by decide) rfl ?_
          refine g_iconst (v := 0) C dX6_duel_38 (by decide) ?_
          refine g_istore C [(5, .int 0), (4, .int 1), (0, .ref (K.2.1 0)), (1, .int x1), (2, .int x2), (3, .int x3)] dX6_duel_39 (by decide) rfl ?_
          refine g_cut [2, 3, 4, 5, 1, 0] rfl ?_
          refine wL6_duel_41 hK0 σ x1 x2 x3 _ _ C Kf hR _ (fun x4_12 hf => ?_) _ _ _ hf
          refine g_iconst (v := 0) C dX6_duel_61 (by decide) ?_
          refine g_istore C [(5, .int 0), (0, .ref (K.2.1 0)), (1, .int x1), (2, .int x2), (3, .int x3), (4, .int x4_12)] dX6_duel_62 (by decide) rfl ?_
          refine g_cut [1, 2, 3, 4, 5, 0] rfl ?_
          refine wL6_duel_64 hK0 σ x1 x2 x3 x4_12 _ _ C Kf hR _ (fun σ_21 hf => ?_) _ _ _ hf
          refine g_iconst (v := 1) C dX6_duel_95 (by decide) ?_
          refine g_istore C [(5, .int 1), (0, .ref (K.2.1 0)), (4, .int x4_12)] dX6_duel_96 (by decide) rfl ?_
          refine g_cut [1, 2, 0] rfl ?_
          refine wL6_duel_98 hK0 σ_21 _ _ C Kf hR _ (fun σ_52 hf => ?_) _ _ _ _ hf
          refine g_aload_n C 0 dX6_duel_215 rfl ?_
          refine g_aload_n C 0 dX6_duel_216 rfl ?_
          refine g_getR C Kf cl_X6 (qF_X6_21 hK0) (by decide) dX6_duel_217 kf_X6_57 ?_
          refine g_iconst (v := 0) C dX6_duel_220 (by decide) ?_
          refine g_ialdL C Kf 0 (by decide) (by unfold vp_in; decide) (qAM_15 hK0) dX6_duel_221 ?_
          obtain ⟨r_54, σ_55, h_53, hf⟩ := b2_some hf
          refine g_cV_i C Kf [.int (σ_52.1 15 0)] (mX6_tell hK0 X.1.2.1 σ_52 (σ_52.1 15 0) r_54 σ_55 h_53) mi_X6_tell (qO_X6 hK0) rfl km_X6_83 ⟨rfl, rfl, by decide, by decide⟩ rfl rfl (Nat.le_of_ble_eq_true rfl) dX6_duel_222 ?_
          exact g_iretP C Kf hR dX6_duel_225 hf
        · refine g_iconst (v := (-1)) C dX6_duel_33 (by decide) ?_
          exact g_iretP C Kf hR dX6_duel_34 hf
abbrev rmX6_fault : Room := { frames := 2, cells := 0, slots := 0, locals := 50 }
set_option maxHeartbeats 4000000 in
set_option maxRecDepth 100000 in
theorem mX6_fault {K : Kx} (hK0 : isKM K) (l : Launch) (σ : St) (x1 : Int32)  (r : Int32) (σ' : St) (hf : f6_fault σ x1 = some (r, σ')) : mC K l yX6_fault cX6_fault 2 (some .int) rmX6_fault [.ref (K.2.1 0), .int x1] σ (some (.int r)) σ' := by
  refine g_entry (own := RX6) rfl (by decide +kernel) (Nat.le_of_ble_eq_true rfl) (fun X hX C Kf hR => ?_)
  subst hX
  unfold f6_fault at hf
  show gG X σ 0 [(0, .ref (K.2.1 0)), (1, .int x1)] []
  refine g_iload_n C 1 dX6_fault_0 rfl ?_
  obtain ⟨r_2, h_1, hf⟩ := b1_some hf
  refine g_cS_i C Kf [.int x1] (mX6_isText hK0 X.1.2.1 σ x1 r_2 h_1) mi_X6_isText km_X6_86 ⟨rfl, rfl, by decide, by decide⟩ rfl rfl (Nat.le_of_ble_eq_true rfl) dX6_fault_1 ?_
  refine g_if_ne C 9 dX6_fault_4 (by decide) hf (fun hf => ?_) (fun hf => ?_)
  · refine g_aload_n C 0 dX6_fault_9 rfl ?_
    refine g_getR C Kf cl_X6 (qF_X6_2 hK0) (by decide) dX6_fault_10 kf_X6_16 ?_
    refine g_iload_n C 1 dX6_fault_13 rfl ?_
    refine g_iald C Kf (qAM_3 hK0) dX6_fault_14 hf (fun hf => ?_)
    refine g_if_ge C 26 dX6_fault_15 (by decide) hf (fun hf => ?_) (fun hf => ?_)
    · refine g_aload_n C 0 dX6_fault_26 rfl ?_
      refine g_iload_n C 1 dX6_fault_27 rfl ?_
      obtain ⟨r_4, σ_5, h_3, hf⟩ := b2_some hf
      refine g_cV_i C Kf [.int x1] (mX6_reads hK0 X.1.2.1 σ x1 r_4 σ_5 h_3) mi_X6_reads (qO_X6 hK0) rfl km_X6_99 ⟨rfl, rfl, by decide, by decide⟩ rfl rfl (Nat.le_of_ble_eq_true rfl) dX6_fault_28 ?_
      exact g_iretP C Kf hR dX6_fault_31 hf
    · refine g_aload_n C 0 dX6_fault_18 rfl ?_
      refine g_iconst (v := 1) C dX6_fault_19 (by decide) ?_
      obtain ⟨r_7, σ_8, h_6, hf⟩ := b2_some hf
      refine g_cV_i C Kf [.int 1] (mX6_found hK0 X.1.2.1 σ 1 r_7 σ_8 h_6) mi_X6_found (qO_X6 hK0) rfl km_X6_79 ⟨rfl, rfl, by decide, by decide⟩ rfl rfl (Nat.le_of_ble_eq_true rfl) dX6_fault_20 ?_
      refine g_goto C 31 dX6_fault_23 (by decide) ?_
      exact g_iretP C Kf hR dX6_fault_31 hf
  · refine g_iconst (v := (-1)) C dX6_fault_7 (by decide) ?_
    exact g_iretP C Kf hR dX6_fault_8 hf
abbrev rmX6_isOrdered : Room := { frames := 3, cells := 0, slots := 0, locals := 70 }
set_option maxHeartbeats 4000000 in
set_option maxRecDepth 100000 in
theorem wL6_isOrdered_5 {X : Gx St} {K : Kx} (hK0 : isKM K) (σ : St) (a1 : Nat) (ha1 : 0 < lnM a1) (x2 : Int32) (r : Int32) (C : gF X cX6_isOrdered RX6 (some .boolean) 5 rmX6_isOrdered) (Kf : kF X K) (hR : gR X K (some (.int r)) σ) (k : Int32 → Option (Int32)) (Hk : ∀ (x3_3 : Int32), k x3_3 = some r → gG X σ 55 [(3, .int x3_3)] []) : ∀ (n : Nat) (x3_1 : Int32) (x4_2 : Int32), L6_isOrdered_5 σ a1 x2 k n x3_1 x4_2 = some r → gG X σ 5 [(0, .ref (K.2.1 0)), (1, .ref (K.2.1 a1)), (2, .int x2), (3, .int x3_1), (4, .int x4_2)] [] := by
  intro n
  induction n with
  | zero => intro _ _ hf; unfold L6_isOrdered_5 at hf; cases hf
  | succ n ih =>
  intro x3_1 x4_2 hf
  unfold L6_isOrdered_5 at hf
  refine g_iload C 4 dX6_isOrdered_5 rfl ?_
  refine g_aload_n C 0 dX6_isOrdered_7 rfl ?_
  refine g_getI C Kf cl_X6 (qF_X6_4 hK0) (by decide) dX6_isOrdered_8 kf_X6_102 ?_
  refine g_icmp_ge C 55 dX6_isOrdered_11 (by decide) hf (fun hf => ?_) (fun hf => ?_)
  · refine g_cut [3] rfl ?_
    exact Hk _ hf
  · refine g_iload_n C 3 dX6_isOrdered_14 rfl ?_
    refine g_jn hf (fun j_5 ej_7 hf => ?_)
    have HJ_6 : ∀ (y_4 : Int32), j_5 y_4 = some r → gG X σ 48 [(0, .ref (K.2.1 0)), (1, .ref (K.2.1 a1)), (2, .int x2), (4, .int x4_2)] [.int y_4] := by
      intro y_4 hf
      rw [ej_7] at hf
      refine g_istore_n C [(3, .int y_4), (0, .ref (K.2.1 0)), (1, .ref (K.2.1 a1)), (2, .int x2), (4, .int x4_2)] dX6_isOrdered_48 rfl (by decide) rfl ?_
      refine g_iinc (d := 1) C 4 (fun x4_8 => [(4, .int x4_8), (3, .int y_4), (0, .ref (K.2.1 0)), (1, .ref (K.2.1 a1)), (2, .int x2)]) dX6_isOrdered_49 rfl (by decide) (by decide) (fun _ => rfl) hf (fun x4_8 hf => ?_)
      refine g_goto C 5 dX6_isOrdered_52 (by decide) ?_
      refine g_cut [2, 3, 4, 1, 0] rfl ?_
      exact ih _ _ hf
    refine g_jn hf (fun j_9 ej_11 hf => ?_)
    have HJ_10 : j_9 = some r → gG X σ 47 [(0, .ref (K.2.1 0)), (1, .ref (K.2.1 a1)), (2, .int x2), (4, .int x4_2)] [] := by
      intro hf
      rw [ej_11] at hf
      refine g_iconst (v := 0) C dX6_isOrdered_47 (by decide) ?_
      exact HJ_6 _ hf
    refine g_if_eq C 47 dX6_isOrdered_15 (by decide) hf (fun hf => ?_) (fun hf => ?_)
    · refine g_cut [0, 1, 2, 4] rfl ?_
      exact HJ_10 hf
    · refine g_aload_n C 0 dX6_isOrdered_18 rfl ?_
      refine g_aload_n C 1 dX6_isOrdered_19 rfl ?_
      refine g_aload_n C 1 dX6_isOrdered_20 rfl ?_
      refine g_iload C 4 dX6_isOrdered_21 rfl ?_
      refine g_iconst (v := 1) C dX6_isOrdered_23 (by decide) ?_
      refine g_isub C dX6_isOrdered_24 ?_
      refine g_iald C Kf (qAM hK0 ha1) dX6_isOrdered_25 hf (fun hf => ?_)
      refine g_iload_n C 2 dX6_isOrdered_26 rfl ?_
      obtain ⟨r_13, h_12, hf⟩ := b1_some hf
      refine g_cV_i C Kf [.ref (K.2.1 a1), .int (σ.1 a1 (x4_2 - 1).toNatClampNeg), .int x2] (mX6_readOn hK0 X.1.2.1 σ a1 (σ.1 a1 (x4_2 - 1).toNatClampNeg) x2 (ha1) r_13 h_12) mi_X6_readOn (qO_X6 hK0) rfl km_X6_126 ⟨rfl, rfl, by decide, by decide⟩ rfl rfl (Nat.le_of_ble_eq_true rfl) dX6_isOrdered_27 ?_
      refine g_aload_n C 0 dX6_isOrdered_30 rfl ?_
      refine g_aload_n C 1 dX6_isOrdered_31 rfl ?_
      refine g_aload_n C 1 dX6_isOrdered_32 rfl ?_
      refine g_iload C 4 dX6_isOrdered_33 rfl ?_
      refine g_iald C Kf (qAM hK0 ha1) dX6_isOrdered_35 hf (fun hf => ?_)
      refine g_iload_n C 2 dX6_isOrdered_36 rfl ?_
      obtain ⟨r_15, h_14, hf⟩ := b1_some hf
      refine g_cV_i C Kf [.ref (K.2.1 a1), .int (σ.1 a1 x4_2.toNatClampNeg), .int x2] (mX6_readOn hK0 X.1.2.1 σ a1 (σ.1 a1 x4_2.toNatClampNeg) x2 (ha1) r_15 h_14) mi_X6_readOn (qO_X6 hK0) rfl km_X6_126 ⟨rfl, rfl, by decide, by decide⟩ rfl rfl (Nat.le_of_ble_eq_true rfl) dX6_isOrdered_37 ?_
      refine g_icmp_gt C 47 dX6_isOrdered_40 (by decide) hf (fun hf => ?_) (fun hf => ?_)
      · refine g_cut [0, 1, 2, 4] rfl ?_
        exact HJ_10 hf
      · refine g_iconst (v := 1) C dX6_isOrdered_43 (by decide) ?_
        refine g_goto C 48 dX6_isOrdered_44 (by decide) ?_
        refine g_cut [0, 1, 2, 4] rfl ?_
        exact HJ_6 _ hf
set_option maxHeartbeats 4000000 in
set_option maxRecDepth 100000 in
theorem mX6_isOrdered {K : Kx} (hK0 : isKM K) (l : Launch) (σ : St) (a1 : Nat) (x2 : Int32) (ha1 : 0 < lnM a1) (r : Int32) (hf : f6_isOrdered σ a1 x2 = some r) : mC K l yX6_isOrdered cX6_isOrdered 5 (some .boolean) rmX6_isOrdered [.ref (K.2.1 0), .ref (K.2.1 a1), .int x2] σ (some (.int r)) σ := by
  refine g_entry (own := RX6) rfl (by decide +kernel) (Nat.le_of_ble_eq_true rfl) (fun X hX C Kf hR => ?_)
  subst hX
  unfold f6_isOrdered at hf
  show gG X σ 0 [(0, .ref (K.2.1 0)), (1, .ref (K.2.1 a1)), (2, .int x2)] []
  refine g_iconst (v := 1) C dX6_isOrdered_0 (by decide) ?_
  refine g_istore_n C [(3, .int 1), (0, .ref (K.2.1 0)), (1, .ref (K.2.1 a1)), (2, .int x2)] dX6_isOrdered_1 rfl (by decide) rfl ?_
  refine g_iconst (v := 1) C dX6_isOrdered_2 (by decide) ?_
  refine g_istore C [(4, .int 1), (3, .int 1), (0, .ref (K.2.1 0)), (1, .ref (K.2.1 a1)), (2, .int x2)] dX6_isOrdered_3 (by decide) rfl ?_
  refine g_cut [2, 3, 4, 1, 0] rfl ?_
  refine wL6_isOrdered_5 hK0 σ a1 ha1 x2 _ C Kf hR _ (fun x3_16 hf => ?_) _ _ _ hf
  refine g_iload_n C 0 dX6_isOrdered_55 rfl ?_
  exact g_zretRB C Kf hR dX6_isOrdered_56 hf
abbrev rmX6_lays : Room := { frames := 0, cells := 0, slots := 0, locals := 0 }
set_option maxHeartbeats 4000000 in
set_option maxRecDepth 100000 in
theorem wL6_lays_9 {X : Gx St} {K : Kx} (hK0 : isKM K) (σ : St) (x1 : Int32) (σ' : St) (C : gF X cX6_lays RX6 none 4 rmX6_lays) (Kf : kF X K) (hR : gR X K none σ') (k : St → Option (St)) (Hk : ∀ (σ_6 : St), k σ_6 = some σ' → gG X σ_6 33 [] []) : ∀ (n : Nat) (x3_2 : Int32) (σ_3 : St), L6_lays_9 x1 k n x3_2 σ_3 = some σ' → gG X σ_3 9 [(0, .ref (K.2.1 0)), (1, .int x1), (3, .int x3_2)] [] := by
  intro n
  induction n with
  | zero => intro _ _ hf; unfold L6_lays_9 at hf; cases hf
  | succ n ih =>
  intro x3_2 σ_3 hf
  unfold L6_lays_9 at hf
  refine g_iload_n C 2 dX6_lays_9 rfl ?_
  refine g_bipush (v := 40) C dX6_lays_10 (by decide) ?_
  refine g_icmp_ge C 33 dX6_lays_12 (by decide) hf (fun hf => ?_) (fun hf => ?_)
  · refine g_cut [] rfl ?_
    exact Hk _ hf
  · refine g_aload_n C 0 dX6_lays_15 rfl ?_
    refine g_getR C Kf cl_X6 (qF_X6_1 hK0) (by decide) dX6_lays_16 kf_X6_13 ?_
    refine g_bipush (v := 40) C dX6_lays_19 (by decide) ?_
    refine g_iload_n C 1 dX6_lays_21 rfl ?_
    refine g_imul C dX6_lays_22 ?_
    refine g_iload_n C 2 dX6_lays_23 rfl ?_
    refine g_iadd C dX6_lays_24 ?_
    refine g_iconst (v := 0) C dX6_lays_25 (by decide) ?_
    refine g_iast C Kf (qAM_2 hK0) dX6_lays_26 hf (fun σ_4 hf => ?_)
    refine g_iinc (d := 1) C 2 (fun x3_5 => [(3, .int x3_5), (0, .ref (K.2.1 0)), (1, .int x1)]) dX6_lays_27 rfl (by decide) (by decide) (fun _ => rfl) hf (fun x3_5 hf => ?_)
    refine g_goto C 9 dX6_lays_30 (by decide) ?_
    refine g_cut [1, 2, 0] rfl ?_
    exact ih _ _ hf
set_option maxHeartbeats 4000000 in
set_option maxRecDepth 100000 in
theorem mX6_lays {K : Kx} (hK0 : isKM K) (l : Launch) (σ : St) (x1 : Int32) (x2 : Int32)  (σ' : St) (hf : f6_lays σ x1 x2 = some σ') : mC K l yX6_lays cX6_lays 4 none rmX6_lays [.ref (K.2.1 0), .int x1, .int x2] σ none σ' := by
  refine g_entry (own := RX6) rfl (by decide +kernel) (Nat.le_of_ble_eq_true rfl) (fun X hX C Kf hR => ?_)
  subst hX
  unfold f6_lays at hf
  show gG X σ 0 [(0, .ref (K.2.1 0)), (1, .int x1), (2, .int x2)] []
  refine g_aload_n C 0 dX6_lays_0 rfl ?_
  refine g_getR C Kf cl_X6 (qF_X6_0 hK0) (by decide) dX6_lays_1 kf_X6_7 ?_
  refine g_iload_n C 1 dX6_lays_4 rfl ?_
  refine g_iload_n C 2 dX6_lays_5 rfl ?_
  refine g_iast C Kf (qAM_1 hK0) dX6_lays_6 hf (fun σ_1 hf => ?_)
  refine g_iconst (v := 0) C dX6_lays_7 (by decide) ?_
  refine g_istore_n C [(3, .int 0), (0, .ref (K.2.1 0)), (1, .int x1), (2, .int x2)] dX6_lays_8 rfl (by decide) rfl ?_
  refine g_cut [1, 2, 0] rfl ?_
  refine wL6_lays_9 hK0 σ_1 x1 _ C Kf hR _ (fun σ_7 hf => ?_) _ _ _ hf
  exact g_vretP C Kf hR dX6_lays_33 hf
