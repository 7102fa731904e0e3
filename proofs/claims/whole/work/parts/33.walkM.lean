abbrev rmX6_next : Room := { frames := 4, cells := 0, slots := 0, locals := 96 }
set_option maxHeartbeats 4000000 in
set_option maxRecDepth 100000 in
theorem wL6_next_85 {X : Gx St} {K : Kx} (hK0 : isKM K) (σ : St) (x1 : Int32) (x4 : Int32) (x5 : Int32) (x6 : Int32) (x7 : Int32) (x8 : Int32) (x9 : Int32) (r : Int32) (σ' : St) (C : gF X cX6_next RX6 (some .int) 12 rmX6_next) (Kf : kF X K) (hR : gR X K (some (.int r)) σ') (k : Int32 → Option (Int32 × St)) (Hk : ∀ (x10_20 : Int32), k x10_20 = some (r, σ') → gG X σ 147 [(0, .ref (K.2.1 0)), (1, .int x1), (4, .int x4), (5, .int x5), (6, .int x6), (7, .int x7), (8, .int x8), (9, .int x9), (10, .int x10_20)] []) : ∀ (n : Nat) (x10_18 : Int32) (x11_19 : Int32), L6_next_85 σ x1 x4 x5 x6 x7 x8 x9 k n x10_18 x11_19 = some (r, σ') → gG X σ 85 [(0, .ref (K.2.1 0)), (1, .int x1), (4, .int x4), (5, .int x5), (6, .int x6), (7, .int x7), (8, .int x8), (9, .int x9), (10, .int x10_18), (11, .int x11_19)] [] := by
  intro n
  induction n with
  | zero => intro _ _ hf; unfold L6_next_85 at hf; cases hf
  | succ n ih =>
  intro x10_18 x11_19 hf
  unfold L6_next_85 at hf
  refine g_iload C 9 dX6_next_85 rfl ?_
  refine g_bipush (v := 6) C dX6_next_87 (by decide) ?_
  refine g_icmp_ge C 147 dX6_next_89 (by decide) hf (fun hf => ?_) (fun hf => ?_)
  · refine g_cut [0, 1, 2, 3, 4, 5, 6, 7, 8] rfl ?_
    exact Hk _ hf
  · refine g_iload C 8 dX6_next_92 rfl ?_
    refine g_iload C 2 dX6_next_94 rfl ?_
    refine g_iload C 9 dX6_next_96 rfl ?_
    obtain ⟨r_22, h_21, hf⟩ := b1_some hf
    refine g_cS_i C Kf [.int x4, .int x11_19] (mX6_has hK0 X.1.2.1 σ x4 x11_19 r_22 h_21) mi_X6_has km_X6_122 ⟨rfl, rfl, by decide, by decide⟩ rfl rfl (Nat.le_of_ble_eq_true rfl) dX6_next_98 ?_
    refine g_jn hf (fun j_24 ej_26 hf => ?_)
    have HJ_25 : ∀ (y_23 : Int32), j_24 y_23 = some (r, σ') → gG X σ 138 [(0, .ref (K.2.1 0)), (1, .int x1), (4, .int x4), (5, .int x5), (6, .int x6), (7, .int x7), (8, .int x8), (9, .int x9), (11, .int x11_19)] [.int y_23, .int x10_18] := by
      intro y_23 hf
      rw [ej_26] at hf
      refine g_iadd C dX6_next_138 ?_
      refine g_istoreB C (fun x10_27 => [(10, .int x10_27), (0, .ref (K.2.1 0)), (1, .int x1), (4, .int x4), (5, .int x5), (6, .int x6), (7, .int x7), (8, .int x8), (9, .int x9), (11, .int x11_19)]) dX6_next_139 (by decide) (fun _ => rfl) hf (fun x10_27 hf => ?_)
      refine g_iinc (d := 1) C 9 (fun x11_28 => [(11, .int x11_28), (10, .int x10_27), (0, .ref (K.2.1 0)), (1, .int x1), (4, .int x4), (5, .int x5), (6, .int x6), (7, .int x7), (8, .int x8), (9, .int x9)]) dX6_next_141 rfl (by decide) (by decide) (fun _ => rfl) hf (fun x11_28 hf => ?_)
      refine g_goto C 85 dX6_next_144 (by decide) ?_
      refine g_cut [2, 3, 4, 5, 6, 7, 8, 9, 1, 0] rfl ?_
      exact ih _ _ hf
    refine g_jn hf (fun j_29 ej_31 hf => ?_)
    have HJ_30 : j_29 = some (r, σ') → gG X σ 137 [(0, .ref (K.2.1 0)), (1, .int x1), (4, .int x4), (5, .int x5), (6, .int x6), (7, .int x7), (8, .int x8), (9, .int x9), (11, .int x11_19)] [.int x10_18] := by
      intro hf
      rw [ej_31] at hf
      refine g_iconst (v := 0) C dX6_next_137 (by decide) ?_
      exact HJ_25 _ hf
    refine g_if_eq C 137 dX6_next_101 (by decide) hf (fun hf => ?_) (fun hf => ?_)
    · refine g_cut [0, 1, 2, 3, 4, 5, 6, 7, 9] rfl ?_
      exact HJ_30 hf
    · refine g_aload_n C 0 dX6_next_104 rfl ?_
      refine g_getR C Kf cl_X6 (qF_X6_6 hK0) (by decide) dX6_next_105 kf_X6_25 ?_
      refine g_bipush (v := 6) C dX6_next_108 (by decide) ?_
      refine g_iconst (v := 3) C dX6_next_110 (by decide) ?_
      refine g_iload_n C 1 dX6_next_111 rfl ?_
      refine g_imul C dX6_next_112 ?_
      refine g_iadd C dX6_next_113 ?_
      refine g_iload C 9 dX6_next_114 rfl ?_
      refine g_iload C 5 dX6_next_116 rfl ?_
      refine g_aload_n C 0 dX6_next_118 rfl ?_
      refine g_getR C Kf cl_X6 (qF_X6_6 hK0) (by decide) dX6_next_119 kf_X6_25 ?_
      refine g_bipush (v := 24) C dX6_next_122 (by decide) ?_
      refine g_ialdL C Kf 24 (by decide) (by unfold vp_in; decide) (qAM_6 hK0) dX6_next_124 ?_
      obtain ⟨r_33, h_32, hf⟩ := b1_some hf
      refine g_cS_i C Kf [.ref (K.2.1 6), .int (6 + (3 * x1)), .int x11_19, .int x7, .int (σ.1 6 24)] (mX6_readsBy hK0 X.1.2.1 σ 6 (6 + (3 * x1)) x11_19 x7 (σ.1 6 24) (by decide) r_33 h_32) mi_X6_readsBy km_X6_118 ⟨rfl, rfl, by decide, by decide⟩ rfl rfl (Nat.le_of_ble_eq_true rfl) dX6_next_125 ?_
      refine g_iload C 7 dX6_next_128 rfl ?_
      refine g_icmp_ne C 137 dX6_next_130 (by decide) hf (fun hf => ?_) (fun hf => ?_)
      · refine g_cut [0, 1, 2, 3, 4, 5, 6, 7, 9] rfl ?_
        exact HJ_30 hf
      · refine g_iconst (v := 1) C dX6_next_133 (by decide) ?_
        refine g_goto C 138 dX6_next_134 (by decide) ?_
        refine g_cut [0, 1, 2, 3, 4, 5, 6, 7, 9] rfl ?_
        exact HJ_25 _ hf
set_option maxHeartbeats 4000000 in
set_option maxRecDepth 100000 in
theorem wL6_next_72 {X : Gx St} {K : Kx} (hK0 : isKM K) (σ : St) (x1 : Int32) (x4 : Int32) (x5 : Int32) (x6 : Int32) (x7 : Int32) (r : Int32) (σ' : St) (C : gF X cX6_next RX6 (some .int) 12 rmX6_next) (Kf : kF X K) (hR : gR X K (some (.int r)) σ') (k : Int32 → Option (Int32 × St)) (Hk : ∀ (x8_17 : Int32), k x8_17 = some (r, σ') → gG X σ 162 [(0, .ref (K.2.1 0)), (1, .int x1), (4, .int x4), (5, .int x5), (6, .int x6), (7, .int x7), (8, .int x8_17)] []) : ∀ (n : Nat) (x8_15 : Int32) (x9_16 : Int32), L6_next_72 σ x1 x4 x5 x6 x7 k n x8_15 x9_16 = some (r, σ') → gG X σ 72 [(0, .ref (K.2.1 0)), (1, .int x1), (4, .int x4), (5, .int x5), (6, .int x6), (7, .int x7), (8, .int x8_15), (9, .int x9_16)] [] := by
  intro n
  induction n with
  | zero => intro _ _ hf; unfold L6_next_72 at hf; cases hf
  | succ n ih =>
  intro x8_15 x9_16 hf
  unfold L6_next_72 at hf
  refine g_iload C 7 dX6_next_72 rfl ?_
  refine g_bipush (v := 11) C dX6_next_74 (by decide) ?_
  refine g_icmp_ge C 162 dX6_next_76 (by decide) hf (fun hf => ?_) (fun hf => ?_)
  · refine g_cut [0, 1, 2, 3, 4, 5, 6] rfl ?_
    exact Hk _ hf
  · refine g_iconst (v := 0) C dX6_next_79 (by decide) ?_
    refine g_istore C [(10, .int 0), (0, .ref (K.2.1 0)), (1, .int x1), (4, .int x4), (5, .int x5), (6, .int x6), (7, .int x7), (8, .int x8_15), (9, .int x9_16)] dX6_next_80 (by decide) rfl ?_
    refine g_iconst (v := 0) C dX6_next_82 (by decide) ?_
    refine g_istore C [(11, .int 0), (10, .int 0), (0, .ref (K.2.1 0)), (1, .int x1), (4, .int x4), (5, .int x5), (6, .int x6), (7, .int x7), (8, .int x8_15), (9, .int x9_16)] dX6_next_83 (by decide) rfl ?_
    refine g_cut [2, 3, 4, 5, 6, 7, 8, 9, 1, 0] rfl ?_
    refine wL6_next_85 hK0 σ x1 x4 x5 x6 x7 x8_15 x9_16 _ _ C Kf hR _ (fun x10_34 hf => ?_) _ _ _ hf
    refine g_iload C 6 dX6_next_147 rfl ?_
    refine g_iload C 8 dX6_next_149 rfl ?_
    obtain ⟨r_36, h_35, hf⟩ := b1_some hf
    refine g_cS_i C Kf [.int x8_15, .int x10_34] (mX6_more hK0 X.1.2.1 σ x8_15 x10_34 r_36 h_35) mi_X6_more km_X6_114 ⟨rfl, rfl, by decide, by decide⟩ rfl rfl (Nat.le_of_ble_eq_true rfl) dX6_next_151 ?_
    refine g_istore C [(8, .int r_36), (0, .ref (K.2.1 0)), (1, .int x1), (4, .int x4), (5, .int x5), (6, .int x6), (7, .int x7), (9, .int x9_16), (10, .int x10_34)] dX6_next_154 (by decide) rfl ?_
    refine g_iinc (d := 1) C 7 (fun x9_37 => [(9, .int x9_37), (8, .int r_36), (0, .ref (K.2.1 0)), (1, .int x1), (4, .int x4), (5, .int x5), (6, .int x6), (7, .int x7), (10, .int x10_34)]) dX6_next_156 rfl (by decide) (by decide) (fun _ => rfl) hf (fun x9_37 hf => ?_)
    refine g_goto C 72 dX6_next_159 (by decide) ?_
    refine g_cut [2, 3, 4, 5, 6, 7, 1, 0] rfl ?_
    exact ih _ _ hf
set_option maxHeartbeats 4000000 in
set_option maxRecDepth 100000 in
theorem wL6_next_60 {X : Gx St} {K : Kx} (hK0 : isKM K) (σ : St) (x1 : Int32) (x4 : Int32) (r : Int32) (σ' : St) (C : gF X cX6_next RX6 (some .int) 12 rmX6_next) (Kf : kF X K) (hR : gR X K (some (.int r)) σ') (k : Int32 → Int32 → Option (Int32 × St)) (Hk : ∀ (x5_13 : Int32) (x6_14 : Int32), k x5_13 x6_14 = some (r, σ') → gG X σ 200 [(0, .ref (K.2.1 0)), (5, .int x5_13), (6, .int x6_14)] []) : ∀ (n : Nat) (x5_10 : Int32) (x6_11 : Int32) (x7_12 : Int32), L6_next_60 σ x1 x4 k n x5_10 x6_11 x7_12 = some (r, σ') → gG X σ 60 [(0, .ref (K.2.1 0)), (1, .int x1), (4, .int x4), (5, .int x5_10), (6, .int x6_11), (7, .int x7_12)] [] := by
  intro n
  induction n with
  | zero => intro _ _ _ hf; unfold L6_next_60 at hf; cases hf
  | succ n ih =>
  intro x5_10 x6_11 x7_12 hf
  unfold L6_next_60 at hf
  refine g_iload C 5 dX6_next_60 rfl ?_
  refine g_iconst (v := 3) C dX6_next_62 (by decide) ?_
  refine g_icmp_ge C 200 dX6_next_63 (by decide) hf (fun hf => ?_) (fun hf => ?_)
  · refine g_cut [0, 3, 4] rfl ?_
    exact Hk _ _ hf
  · refine g_iconst (v := 0) C dX6_next_66 (by decide) ?_
    refine g_istore C [(8, .int 0), (0, .ref (K.2.1 0)), (1, .int x1), (4, .int x4), (5, .int x5_10), (6, .int x6_11), (7, .int x7_12)] dX6_next_67 (by decide) rfl ?_
    refine g_iconst (v := 0) C dX6_next_69 (by decide) ?_
    refine g_istore C [(9, .int 0), (8, .int 0), (0, .ref (K.2.1 0)), (1, .int x1), (4, .int x4), (5, .int x5_10), (6, .int x6_11), (7, .int x7_12)] dX6_next_70 (by decide) rfl ?_
    refine g_cut [2, 3, 4, 5, 6, 7, 1, 0] rfl ?_
    refine wL6_next_72 hK0 σ x1 x4 x5_10 x6_11 x7_12 _ _ C Kf hR _ (fun x8_38 hf => ?_) _ _ _ hf
    refine g_iload C 6 dX6_next_162 rfl ?_
    refine g_iload C 4 dX6_next_164 rfl ?_
    refine g_jn hf (fun j_40 ej_42 hf => ?_)
    have HJ_41 : ∀ (y_39 : Int32), j_40 y_39 = some (r, σ') → gG X σ 176 [(0, .ref (K.2.1 0)), (1, .int x1), (4, .int x4), (6, .int x6_11), (7, .int x7_12), (8, .int x8_38)] [.int y_39] := by
      intro y_39 hf
      rw [ej_42] at hf
      refine g_istore C [(5, .int y_39), (0, .ref (K.2.1 0)), (1, .int x1), (4, .int x4), (6, .int x6_11), (7, .int x7_12), (8, .int x8_38)] dX6_next_176 (by decide) rfl ?_
      refine g_iload C 6 dX6_next_178 rfl ?_
      refine g_iload C 4 dX6_next_180 rfl ?_
      refine g_jn hf (fun j_44 ej_46 hf => ?_)
      have HJ_45 : ∀ (y_43 : Int32), j_44 y_43 = some (r, σ') → gG X σ 192 [(0, .ref (K.2.1 0)), (1, .int x1), (4, .int x4), (5, .int y_39), (7, .int x7_12)] [.int y_43] := by
        intro y_43 hf
        rw [ej_46] at hf
        refine g_istore C [(6, .int y_43), (0, .ref (K.2.1 0)), (1, .int x1), (4, .int x4), (5, .int y_39), (7, .int x7_12)] dX6_next_192 (by decide) rfl ?_
        refine g_iinc (d := 1) C 5 (fun x7_47 => [(7, .int x7_47), (6, .int y_43), (0, .ref (K.2.1 0)), (1, .int x1), (4, .int x4), (5, .int y_39)]) dX6_next_194 rfl (by decide) (by decide) (fun _ => rfl) hf (fun x7_47 hf => ?_)
        refine g_goto C 60 dX6_next_197 (by decide) ?_
        refine g_cut [2, 3, 4, 5, 1, 0] rfl ?_
        exact ih _ _ _ hf
      refine g_icmp_ge C 190 dX6_next_182 (by decide) hf (fun hf => ?_) (fun hf => ?_)
      · refine g_iload C 4 dX6_next_190 rfl ?_
        refine g_cut [1, 2, 3, 0, 5] rfl ?_
        exact HJ_45 _ hf
      · refine g_iload C 6 dX6_next_185 rfl ?_
        refine g_goto C 192 dX6_next_187 (by decide) ?_
        refine g_cut [1, 2, 3, 0, 5] rfl ?_
        exact HJ_45 _ hf
    refine g_icmp_ge C 174 dX6_next_166 (by decide) hf (fun hf => ?_) (fun hf => ?_)
    · refine g_iload C 3 dX6_next_174 rfl ?_
      refine g_cut [0, 1, 2, 4, 5, 6] rfl ?_
      exact HJ_41 _ hf
    · refine g_iload C 5 dX6_next_169 rfl ?_
      refine g_goto C 176 dX6_next_171 (by decide) ?_
      refine g_cut [0, 1, 2, 4, 5, 6] rfl ?_
      exact HJ_41 _ hf
set_option maxHeartbeats 4000000 in
set_option maxRecDepth 100000 in
theorem mX6_next {K : Kx} (hK0 : isKM K) (l : Launch) (σ : St) (x1 : Int32) (x2 : Int32)  (r : Int32) (σ' : St) (hf : f6_next σ x1 x2 = some (r, σ')) : mC K l yX6_next cX6_next 12 (some .int) rmX6_next [.ref (K.2.1 0), .int x1, .int x2] σ (some (.int r)) σ' := by
  refine g_entry (own := RX6) rfl (by decide +kernel) (Nat.le_of_ble_eq_true rfl) (fun X hX C Kf hR => ?_)
  subst hX
  unfold f6_next at hf
  show gG X σ 0 [(0, .ref (K.2.1 0)), (1, .int x1), (2, .int x2)] []
  refine g_aload_n C 0 dX6_next_0 rfl ?_
  refine g_iload_n C 1 dX6_next_1 rfl ?_
  obtain ⟨r_2, h_1, hf⟩ := b1_some hf
  refine g_cV_i C Kf [.int x1] (mX6_isCard hK0 X.1.2.1 σ x1 r_2 h_1) mi_X6_isCard (qO_X6 hK0) rfl km_X6_134 ⟨rfl, rfl, by decide, by decide⟩ rfl rfl (Nat.le_of_ble_eq_true rfl) dX6_next_2 ?_
  refine g_if_eq C 15 dX6_next_5 (by decide) hf (fun hf => ?_) (fun hf => ?_)
  · refine g_iconst (v := (-1)) C dX6_next_15 (by decide) ?_
    exact g_iretP C Kf hR dX6_next_16 hf
  · refine g_iload_n C 2 dX6_next_8 rfl ?_
    obtain ⟨r_4, h_3, hf⟩ := b1_some hf
    refine g_cS_i C Kf [.int x2] (mX6_isRow hK0 X.1.2.1 σ x2 r_4 h_3) mi_X6_isRow km_X6_75 ⟨rfl, rfl, by decide, by decide⟩ rfl rfl (Nat.le_of_ble_eq_true rfl) dX6_next_9 ?_
    refine g_if_ne C 17 dX6_next_12 (by decide) hf (fun hf => ?_) (fun hf => ?_)
    · refine g_aload_n C 0 dX6_next_17 rfl ?_
      refine g_iload_n C 2 dX6_next_18 rfl ?_
      obtain ⟨r_6, h_5, hf⟩ := b1_some hf
      refine g_cV_i C Kf [.int x2] (mX6_pairs hK0 X.1.2.1 σ x2 r_6 h_5) mi_X6_pairs (qO_X6 hK0) rfl km_X6_188 ⟨rfl, rfl, by decide, by decide⟩ rfl rfl (Nat.le_of_ble_eq_true rfl) dX6_next_19 ?_
      refine g_istore_n C [(3, .int r_6), (0, .ref (K.2.1 0)), (1, .int x1), (2, .int x2)] dX6_next_22 rfl (by decide) rfl ?_
      refine g_iload_n C 0 dX6_next_23 rfl ?_
      refine g_if_le C 33 dX6_next_24 (by decide) hf (fun hf => ?_) (fun hf => ?_)
      · refine g_aload_n C 1 dX6_next_33 rfl ?_
        refine g_iload_n C 2 dX6_next_34 rfl ?_
        refine g_iload_n C 3 dX6_next_35 rfl ?_
        obtain ⟨r_8, σ_9, h_7, hf⟩ := b2_some hf
        refine g_cV_i C Kf [.int x1, .int x2] (mX6_kindsBy hK0 X.1.2.1 σ x1 x2 r_8 σ_9 h_7) mi_X6_kindsBy (qO_X6 hK0) rfl km_X6_191 ⟨rfl, rfl, by decide, by decide⟩ rfl rfl (Nat.le_of_ble_eq_true rfl) dX6_next_36 ?_
        refine g_istore C [(4, .int r_8), (3, .int r_6), (0, .ref (K.2.1 0)), (1, .int x1), (2, .int x2)] dX6_next_39 (by decide) rfl ?_
        refine g_iload C 0 dX6_next_41 rfl ?_
        refine g_if_ne C 49 dX6_next_43 (by decide) hf (fun hf => ?_) (fun hf => ?_)
        · refine g_bipush (v := (-9)) C dX6_next_49 (by decide) ?_
          refine g_istore C [(5, .int ((-9))), (4, .int r_8), (3, .int r_6), (0, .ref (K.2.1 0)), (1, .int x1), (2, .int x2)] dX6_next_51 (by decide) rfl ?_
          refine g_bipush (v := 7) C dX6_next_53 (by decide) ?_
          refine g_istore C [(6, .int 7), (5, .int ((-9))), (4, .int r_8), (3, .int r_6), (0, .ref (K.2.1 0)), (1, .int x1), (2, .int x2)] dX6_next_55 (by decide) rfl ?_
          refine g_iconst (v := 0) C dX6_next_57 (by decide) ?_
          refine g_istore C [(7, .int 0), (6, .int 7), (5, .int ((-9))), (4, .int r_8), (3, .int r_6), (0, .ref (K.2.1 0)), (1, .int x1), (2, .int x2)] dX6_next_58 (by decide) rfl ?_
          refine g_cut [5, 6, 3, 2, 1, 0] rfl ?_
          refine wL6_next_60 hK0 σ_9 x1 r_8 _ _ C Kf hR _ (fun x5_48 x6_49 hf => ?_) _ _ _ _ hf
          refine g_aload_n C 0 dX6_next_200 rfl ?_
          refine g_iload C 1 dX6_next_201 rfl ?_
          refine g_iload C 2 dX6_next_203 rfl ?_
          obtain ⟨r_51, σ_52, h_50, hf⟩ := b2_some hf
          refine g_cV_i C Kf [.int x5_48, .int x6_49] (mX6_answer hK0 X.1.2.1 σ_9 x5_48 x6_49 r_51 σ_52 h_50) mi_X6_answer (qO_X6 hK0) rfl km_X6_194 ⟨rfl, rfl, by decide, by decide⟩ rfl rfl (Nat.le_of_ble_eq_true rfl) dX6_next_205 ?_
          exact g_iretP C Kf hR dX6_next_208 hf
        · refine g_bipush (v := (-9)) C dX6_next_46 (by decide) ?_
          exact g_iretP C Kf hR dX6_next_48 hf
      · refine g_aload_n C 1 dX6_next_27 rfl ?_
        refine g_iload_n C 0 dX6_next_28 rfl ?_
        obtain ⟨r_54, σ_55, h_53, hf⟩ := b2_some hf
        refine g_cV_i C Kf [.int r_6] (mX6_found hK0 X.1.2.1 σ r_6 r_54 σ_55 h_53) mi_X6_found (qO_X6 hK0) rfl km_X6_79 ⟨rfl, rfl, by decide, by decide⟩ rfl rfl (Nat.le_of_ble_eq_true rfl) dX6_next_29 ?_
        exact g_iretP C Kf hR dX6_next_32 hf
    · refine g_iconst (v := (-1)) C dX6_next_15 (by decide) ?_
      exact g_iretP C Kf hR dX6_next_16 hf
abbrev rmX6_odds : Room := { frames := 5, cells := 0, slots := 0, locals := 129 }
set_option maxHeartbeats 4000000 in
set_option maxRecDepth 100000 in
theorem mX6_odds {K : Kx} (hK0 : isKM K) (l : Launch) (σ : St) (x1 : Int32) (x2 : Int32) (x3 : Int32)  (r : Int32) (σ' : St) (hf : f6_odds σ x1 x2 x3 = some (r, σ')) : mC K l yX6_odds cX6_odds 4 (some .int) rmX6_odds [.ref (K.2.1 0), .int x1, .int x2, .int x3] σ (some (.int r)) σ' := by
  refine g_entry (own := RX6) rfl (by decide +kernel) (Nat.le_of_ble_eq_true rfl) (fun X hX C Kf hR => ?_)
  subst hX
  unfold f6_odds at hf
  show gG X σ 0 [(0, .ref (K.2.1 0)), (1, .int x1), (2, .int x2), (3, .int x3)] []
  refine g_aload_n C 0 dX6_odds_0 rfl ?_
  refine g_iload_n C 1 dX6_odds_1 rfl ?_
  refine g_iload_n C 2 dX6_odds_2 rfl ?_
  refine g_iload_n C 3 dX6_odds_3 rfl ?_
  refine g_iconst (v := 0) C dX6_odds_4 (by decide) ?_
  obtain ⟨r_2, σ_3, h_1, hf⟩ := b2_some hf
  refine g_cV_i C Kf [.int x1, .int x2, .int x3, .int 0] (mX6_chance hK0 X.1.2.1 σ x1 x2 x3 0 r_2 σ_3 h_1) mi_X6_chance (qO_X6 hK0) rfl km_X6_219 ⟨rfl, rfl, by decide, by decide⟩ rfl rfl (Nat.le_of_ble_eq_true rfl) dX6_odds_5 ?_
  exact g_iretP C Kf hR dX6_odds_8 hf
abbrev rmX6_on : Room := { frames := 2, cells := 0, slots := 0, locals := 45 }
set_option maxHeartbeats 4000000 in
set_option maxRecDepth 100000 in
theorem mX6_on {K : Kx} (hK0 : isKM K) (l : Launch) (σ : St) (x1 : Int32)  (r : Int32) (σ' : St) (hf : f6_on σ x1 = some (r, σ')) : mC K l yX6_on cX6_on 2 (some .int) rmX6_on [.ref (K.2.1 0), .int x1] σ (some (.int r)) σ' := by
  refine g_entry (own := RX6) rfl (by decide +kernel) (Nat.le_of_ble_eq_true rfl) (fun X hX C Kf hR => ?_)
  subst hX
  unfold f6_on at hf
  show gG X σ 0 [(0, .ref (K.2.1 0)), (1, .int x1)] []
  refine g_iload_n C 1 dX6_on_0 rfl ?_
  obtain ⟨r_2, h_1, hf⟩ := b1_some hf
  refine g_cS_i C Kf [.int x1] (mX6_isPlace hK0 X.1.2.1 σ x1 r_2 h_1) mi_X6_isPlace km_X6_162 ⟨rfl, rfl, by decide, by decide⟩ rfl rfl (Nat.le_of_ble_eq_true rfl) dX6_on_1 ?_
  refine g_if_ne C 9 dX6_on_4 (by decide) hf (fun hf => ?_) (fun hf => ?_)
  · refine g_aload_n C 0 dX6_on_9 rfl ?_
    refine g_getR C Kf cl_X6 (qF_X6_11 hK0) (by decide) dX6_on_10 kf_X6_37 ?_
    refine g_iload_n C 1 dX6_on_13 rfl ?_
    refine g_zald C Kf (qZM_10 hK0) dX6_on_14 hf (fun hf => ?_)
    refine g_if_ne C 24 dX6_on_15 (by decide) hf (fun hf => ?_) (fun hf => ?_)
    · refine g_aload_n C 0 dX6_on_24 rfl ?_
      refine g_getR C Kf cl_X6 (qF_X6_10 hK0) (by decide) dX6_on_25 kf_X6_34 ?_
      refine g_sipush (v := 1026) C dX6_on_28 (by decide) ?_
      refine g_iload_n C 1 dX6_on_31 rfl ?_
      refine g_imul C dX6_on_32 ?_
      refine g_aload_n C 0 dX6_on_33 rfl ?_
      refine g_getR C Kf cl_X6 (qF_X6_6 hK0) (by decide) dX6_on_34 kf_X6_25 ?_
      refine g_iconst (v := 0) C dX6_on_37 (by decide) ?_
      refine g_bipush (v := 25) C dX6_on_38 (by decide) ?_
      obtain ⟨σ_4, h_3, hf⟩ := b1_some hf
      refine g_cS_v C Kf [.ref (K.2.1 9), .int (1026 * x1), .ref (K.2.1 6), .int 0, .int 25] (mX6_copies hK0 X.1.2.1 σ 9 (1026 * x1) 6 0 25 (by decide) (by decide) σ_4 h_3) mi_X6_copies km_X6_105 ⟨rfl, rfl, by decide, by decide⟩ rfl rfl (Nat.le_of_ble_eq_true rfl) dX6_on_40 ?_
      refine g_aload_n C 0 dX6_on_43 rfl ?_
      refine g_aload_n C 0 dX6_on_44 rfl ?_
      refine g_getR C Kf cl_X6 (qF_X6_10 hK0) (by decide) dX6_on_45 kf_X6_34 ?_
      refine g_sipush (v := 1026) C dX6_on_48 (by decide) ?_
      refine g_iload_n C 1 dX6_on_51 rfl ?_
      refine g_imul C dX6_on_52 ?_
      refine g_bipush (v := 25) C dX6_on_53 (by decide) ?_
      refine g_iadd C dX6_on_55 ?_
      refine g_iald C Kf (qAM_9 hK0) dX6_on_56 hf (fun hf => ?_)
      refine g_putI C Kf cl_X6 (qF_X6_9 hK0) (by decide) rfl rfl rfl dX6_on_57 kf_X6_109 hf (fun σ_5 hf => ?_)
      refine g_aload_n C 0 dX6_on_60 rfl ?_
      refine g_getR C Kf cl_X6 (qF_X6_10 hK0) (by decide) dX6_on_61 kf_X6_34 ?_
      refine g_sipush (v := 1026) C dX6_on_64 (by decide) ?_
      refine g_iload_n C 1 dX6_on_67 rfl ?_
      refine g_imul C dX6_on_68 ?_
      refine g_bipush (v := 25) C dX6_on_69 (by decide) ?_
      refine g_iadd C dX6_on_71 ?_
      refine g_iconst (v := 1) C dX6_on_72 (by decide) ?_
      refine g_iadd C dX6_on_73 ?_
      refine g_aload_n C 0 dX6_on_74 rfl ?_
      refine g_getR C Kf cl_X6 (qF_X6_8 hK0) (by decide) dX6_on_75 kf_X6_31 ?_
      refine g_iconst (v := 0) C dX6_on_78 (by decide) ?_
      refine g_sipush (v := 1000) C dX6_on_79 (by decide) ?_
      obtain ⟨σ_7, h_6, hf⟩ := b1_some hf
      refine g_cS_v C Kf [.ref (K.2.1 9), .int (((1026 * x1) + 25) + 1), .ref (K.2.1 8), .int 0, .int 1000] (mX6_copies hK0 X.1.2.1 σ_5 9 (((1026 * x1) + 25) + 1) 8 0 1000 (by decide) (by decide) σ_7 h_6) mi_X6_copies km_X6_105 ⟨rfl, rfl, by decide, by decide⟩ rfl rfl (Nat.le_of_ble_eq_true rfl) dX6_on_82 ?_
      refine g_aload_n C 0 dX6_on_85 rfl ?_
      refine g_getI C Kf cl_X6 (qF_X6_9 hK0) (by decide) dX6_on_86 kf_X6_109 ?_
      exact g_iretP C Kf hR dX6_on_89 hf
    · refine g_aload_n C 0 dX6_on_18 rfl ?_
      refine g_iconst (v := 1) C dX6_on_19 (by decide) ?_
      obtain ⟨r_9, σ_10, h_8, hf⟩ := b2_some hf
      refine g_cV_i C Kf [.int 1] (mX6_found hK0 X.1.2.1 σ 1 r_9 σ_10 h_8) mi_X6_found (qO_X6 hK0) rfl km_X6_79 ⟨rfl, rfl, by decide, by decide⟩ rfl rfl (Nat.le_of_ble_eq_true rfl) dX6_on_20 ?_
      exact g_iretP C Kf hR dX6_on_23 hf
  · refine g_iconst (v := (-1)) C dX6_on_7 (by decide) ?_
    exact g_iretP C Kf hR dX6_on_8 hf
abbrev rmX6_order : Room := { frames := 6, cells := 0, slots := 0, locals := 149 }
set_option maxHeartbeats 4000000 in
set_option maxRecDepth 100000 in
theorem mX6_order {K : Kx} (hK0 : isKM K) (l : Launch) (σ : St) (x1 : Int32) (x2 : Int32)  (r : Int32) (σ' : St) (hf : f6_order σ x1 x2 = some (r, σ')) : mC K l yX6_order cX6_order 3 (some .int) rmX6_order [.ref (K.2.1 0), .int x1, .int x2] σ (some (.int r)) σ' := by
  refine g_entry (own := RX6) rfl (by decide +kernel) (Nat.le_of_ble_eq_true rfl) (fun X hX C Kf hR => ?_)
  subst hX
  unfold f6_order at hf
  show gG X σ 0 [(0, .ref (K.2.1 0)), (1, .int x1), (2, .int x2)] []
  refine g_iload_n C 1 dX6_order_0 rfl ?_
  obtain ⟨r_2, h_1, hf⟩ := b1_some hf
  refine g_cS_i C Kf [.int x1] (mX6_isColumn hK0 X.1.2.1 σ x1 r_2 h_1) mi_X6_isColumn km_X6_143 ⟨rfl, rfl, by decide, by decide⟩ rfl rfl (Nat.le_of_ble_eq_true rfl) dX6_order_1 ?_
  refine g_if_eq C 14 dX6_order_4 (by decide) hf (fun hf => ?_) (fun hf => ?_)
  · refine g_iconst (v := (-1)) C dX6_order_14 (by decide) ?_
    exact g_iretP C Kf hR dX6_order_15 hf
  · refine g_iload_n C 2 dX6_order_7 rfl ?_
    obtain ⟨r_4, h_3, hf⟩ := b1_some hf
    refine g_cS_i C Kf [.int x2] (mX6_isRow hK0 X.1.2.1 σ x2 r_4 h_3) mi_X6_isRow km_X6_75 ⟨rfl, rfl, by decide, by decide⟩ rfl rfl (Nat.le_of_ble_eq_true rfl) dX6_order_8 ?_
    refine g_if_ne C 16 dX6_order_11 (by decide) hf (fun hf => ?_) (fun hf => ?_)
    · refine g_aload_n C 0 dX6_order_16 rfl ?_
      refine g_getI C Kf cl_X6 (qF_X6_4 hK0) (by decide) dX6_order_17 kf_X6_102 ?_
      refine g_if_ne C 28 dX6_order_20 (by decide) hf (fun hf => ?_) (fun hf => ?_)
      · refine g_aload_n C 0 dX6_order_28 rfl ?_
        refine g_bipush (v := (-9)) C dX6_order_29 (by decide) ?_
        refine g_iload_n C 1 dX6_order_31 rfl ?_
        refine g_iload_n C 2 dX6_order_32 rfl ?_
        obtain ⟨r_6, σ_7, h_5, hf⟩ := b2_some hf
        refine g_cV_i C Kf [.int ((-9)), .int x1, .int x2] (mX6_firstRow hK0 X.1.2.1 σ ((-9) : Int32) x1 x2 r_6 σ_7 h_5) mi_X6_firstRow (qO_X6 hK0) rfl km_X6_178 ⟨rfl, rfl, by decide, by decide⟩ rfl rfl (Nat.le_of_ble_eq_true rfl) dX6_order_33 ?_
        exact g_iretP C Kf hR dX6_order_36 hf
      · refine g_bipush (v := (-4)) C dX6_order_23 (by decide) ?_
        refine g_goto C 36 dX6_order_25 (by decide) ?_
        exact g_iretP C Kf hR dX6_order_36 hf
    · refine g_iconst (v := (-1)) C dX6_order_14 (by decide) ?_
      exact g_iretP C Kf hR dX6_order_15 hf
abbrev rmX6_pass : Room := { frames := 5, cells := 0, slots := 0, locals := 121 }
set_option maxHeartbeats 4000000 in
set_option maxRecDepth 100000 in
theorem mX6_pass {K : Kx} (hK0 : isKM K) (l : Launch) (σ : St) (x1 : Int32)  (r : Int32) (σ' : St) (hf : f6_pass σ x1 = some (r, σ')) : mC K l yX6_pass cX6_pass 2 (some .int) rmX6_pass [.ref (K.2.1 0), .int x1] σ (some (.int r)) σ' := by
  refine g_entry (own := RX6) rfl (by decide +kernel) (Nat.le_of_ble_eq_true rfl) (fun X hX C Kf hR => ?_)
  subst hX
  unfold f6_pass at hf
  show gG X σ 0 [(0, .ref (K.2.1 0)), (1, .int x1)] []
  refine g_iload_n C 1 dX6_pass_0 rfl ?_
  obtain ⟨r_2, h_1, hf⟩ := b1_some hf
  refine g_cS_i C Kf [.int x1] (mX6_isColumn hK0 X.1.2.1 σ x1 r_2 h_1) mi_X6_isColumn km_X6_143 ⟨rfl, rfl, by decide, by decide⟩ rfl rfl (Nat.le_of_ble_eq_true rfl) dX6_pass_1 ?_
  refine g_if_ne C 9 dX6_pass_4 (by decide) hf (fun hf => ?_) (fun hf => ?_)
  · refine g_aload_n C 0 dX6_pass_9 rfl ?_
    refine g_getI C Kf cl_X6 (qF_X6_4 hK0) (by decide) dX6_pass_10 kf_X6_102 ?_
    refine g_if_ne C 19 dX6_pass_13 (by decide) hf (fun hf => ?_) (fun hf => ?_)
    · refine g_aload_n C 0 dX6_pass_19 rfl ?_
      refine g_getI C Kf cl_X6 (qF_X6_9 hK0) (by decide) dX6_pass_20 kf_X6_109 ?_
      refine g_bipush (v := 40) C dX6_pass_23 (by decide) ?_
      refine g_icmp_ne C 31 dX6_pass_25 (by decide) hf (fun hf => ?_) (fun hf => ?_)
      · refine g_aload_n C 0 dX6_pass_31 rfl ?_
        obtain ⟨σ_4, h_3, hf⟩ := b1_some hf
        refine g_cV_v C Kf [] (mX6_remembers hK0 X.1.2.1 σ σ_4 h_3) mi_X6_remembers (qO_X6 hK0) rfl km_X6_146 ⟨rfl, rfl, by decide, by decide⟩ rfl rfl (Nat.le_of_ble_eq_true rfl) dX6_pass_32 ?_
        refine g_aload_n C 0 dX6_pass_35 rfl ?_
        refine g_aload_n C 0 dX6_pass_36 rfl ?_
        refine g_getR C Kf cl_X6 (qF_X6_6 hK0) (by decide) dX6_pass_37 kf_X6_25 ?_
        refine g_iload_n C 1 dX6_pass_40 rfl ?_
        obtain ⟨σ_6, h_5, hf⟩ := b1_some hf
        refine g_cV_v C Kf [.ref (K.2.1 6), .int x1] (mX6_passes hK0 X.1.2.1 σ_4 6 x1 (by decide) σ_6 h_5) mi_X6_passes (qO_X6 hK0) rfl km_X6_149 ⟨rfl, rfl, by decide, by decide⟩ rfl rfl (Nat.le_of_ble_eq_true rfl) dX6_pass_41 ?_
        refine g_aload_n C 0 dX6_pass_44 rfl ?_
        refine g_getR C Kf cl_X6 (qF_X6_6 hK0) (by decide) dX6_pass_45 kf_X6_25 ?_
        refine g_iconst (v := 0) C dX6_pass_48 (by decide) ?_
        refine g_ialdL C Kf 0 (by decide) (by unfold vp_in; decide) (qAM_6 hK0) dX6_pass_49 ?_
        exact g_iretP C Kf hR dX6_pass_50 hf
      · refine g_bipush (v := (-2)) C dX6_pass_28 (by decide) ?_
        exact g_iretP C Kf hR dX6_pass_30 hf
    · refine g_bipush (v := (-4)) C dX6_pass_16 (by decide) ?_
      exact g_iretP C Kf hR dX6_pass_18 hf
  · refine g_iconst (v := (-1)) C dX6_pass_7 (by decide) ?_
    exact g_iretP C Kf hR dX6_pass_8 hf
abbrev rmX6_pocket : Room := { frames := 2, cells := 0, slots := 0, locals := 47 }
set_option maxHeartbeats 4000000 in
set_option maxRecDepth 100000 in
theorem mX6_pocket {K : Kx} (hK0 : isKM K) (l : Launch) (σ : St) (x1 : Int32) (x2 : Int32) (x3 : Int32)  (r : Int32) (hf : f6_pocket σ x1 x2 x3 = some r) : mC K l yX6_pocket cX6_pocket 4 (some .int) rmX6_pocket [.ref (K.2.1 0), .int x1, .int x2, .int x3] σ (some (.int r)) σ := by
  refine g_entry (own := RX6) rfl (by decide +kernel) (Nat.le_of_ble_eq_true rfl) (fun X hX C Kf hR => ?_)
  subst hX
  unfold f6_pocket at hf
  show gG X σ 0 [(0, .ref (K.2.1 0)), (1, .int x1), (2, .int x2), (3, .int x3)] []
  refine g_aload_n C 0 dX6_pocket_0 rfl ?_
  refine g_iload_n C 1 dX6_pocket_1 rfl ?_
  obtain ⟨r_2, h_1, hf⟩ := b1_some hf
  refine g_cV_i C Kf [.int x1] (mX6_isCard hK0 X.1.2.1 σ x1 r_2 h_1) mi_X6_isCard (qO_X6 hK0) rfl km_X6_134 ⟨rfl, rfl, by decide, by decide⟩ rfl rfl (Nat.le_of_ble_eq_true rfl) dX6_pocket_2 ?_
  refine g_if_eq C 51 dX6_pocket_5 (by decide) hf (fun hf => ?_) (fun hf => ?_)
  · refine g_iconst (v := (-1)) C dX6_pocket_51 (by decide) ?_
    exact g_iretR C Kf hR dX6_pocket_52 hf
  · refine g_iload_n C 2 dX6_pocket_8 rfl ?_
    obtain ⟨r_4, h_3, hf⟩ := b1_some hf
    refine g_cS_i C Kf [.int x2] (mX6_isColumn hK0 X.1.2.1 σ x2 r_4 h_3) mi_X6_isColumn km_X6_143 ⟨rfl, rfl, by decide, by decide⟩ rfl rfl (Nat.le_of_ble_eq_true rfl) dX6_pocket_9 ?_
    refine g_if_eq C 51 dX6_pocket_12 (by decide) hf (fun hf => ?_) (fun hf => ?_)
    · refine g_iconst (v := (-1)) C dX6_pocket_51 (by decide) ?_
      exact g_iretR C Kf hR dX6_pocket_52 hf
    · refine g_iload_n C 3 dX6_pocket_15 rfl ?_
      refine g_i2l C dX6_pocket_16 ?_
      refine g_lconst (v := 0) C dX6_pocket_17 (by decide) ?_
      refine g_ldc2 (v := 60) C dX6_pocket_18 kl_X6_165 ?_
      obtain ⟨r_6, h_5, hf⟩ := b1_some hf
      refine g_cS_i C Kf [.long (x3.toInt64), .long 0, .long 60] (mX6_in hK0 X.1.2.1 σ (x3.toInt64) 0 60 r_6 h_5) mi_X6_in km_X6_69 ⟨rfl, rfl, by decide, by decide⟩ rfl rfl (Nat.le_of_ble_eq_true rfl) dX6_pocket_21 ?_
      refine g_if_eq C 51 dX6_pocket_24 (by decide) hf (fun hf => ?_) (fun hf => ?_)
      · refine g_iconst (v := (-1)) C dX6_pocket_51 (by decide) ?_
        exact g_iretR C Kf hR dX6_pocket_52 hf
      · refine g_aload_n C 0 dX6_pocket_27 rfl ?_
        refine g_getR C Kf cl_X6 (qF_X6_6 hK0) (by decide) dX6_pocket_28 kf_X6_25 ?_
        refine g_bipush (v := 6) C dX6_pocket_31 (by decide) ?_
        refine g_iconst (v := 3) C dX6_pocket_33 (by decide) ?_
        refine g_iload_n C 1 dX6_pocket_34 rfl ?_
        refine g_imul C dX6_pocket_35 ?_
        refine g_iadd C dX6_pocket_36 ?_
        refine g_aload_n C 0 dX6_pocket_37 rfl ?_
        refine g_getR C Kf cl_X6 (qF_X6_5 hK0) (by decide) dX6_pocket_38 kf_X6_22 ?_
        refine g_iload_n C 1 dX6_pocket_41 rfl ?_
        refine g_iald C Kf (qAM_5 hK0) dX6_pocket_42 hf (fun hf => ?_)
        refine g_iload_n C 2 dX6_pocket_43 rfl ?_
        refine g_iload_n C 3 dX6_pocket_44 rfl ?_
        obtain ⟨r_8, h_7, hf⟩ := b1_some hf
        refine g_cS_i C Kf [.ref (K.2.1 6), .int (6 + (3 * x1)), .int (σ.1 5 x1.toNatClampNeg), .int x2, .int x3] (mX6_readsBy hK0 X.1.2.1 σ 6 (6 + (3 * x1)) (σ.1 5 x1.toNatClampNeg) x2 x3 (by decide) r_8 h_7) mi_X6_readsBy km_X6_118 ⟨rfl, rfl, by decide, by decide⟩ rfl rfl (Nat.le_of_ble_eq_true rfl) dX6_pocket_45 ?_
        refine g_goto C 52 dX6_pocket_48 (by decide) ?_
        exact g_iretR C Kf hR dX6_pocket_52 hf
abbrev rmX6_punch : Room := { frames := 2, cells := 0, slots := 0, locals := 46 }
set_option maxHeartbeats 4000000 in
set_option maxRecDepth 100000 in
theorem mX6_punch {K : Kx} (hK0 : isKM K) (l : Launch) (σ : St) (x1 : Int32) (x2 : Int32) (x3 : Int32)  (r : Int32) (σ' : St) (hf : f6_punch σ x1 x2 x3 = some (r, σ')) : mC K l yX6_punch cX6_punch 6 (some .int) rmX6_punch [.ref (K.2.1 0), .int x1, .int x2, .int x3] σ (some (.int r)) σ' := by
  refine g_entry (own := RX6) rfl (by decide +kernel) (Nat.le_of_ble_eq_true rfl) (fun X hX C Kf hR => ?_)
  subst hX
  unfold f6_punch at hf
  show gG X σ 0 [(0, .ref (K.2.1 0)), (1, .int x1), (2, .int x2), (3, .int x3)] []
  refine g_aload_n C 0 dX6_punch_0 rfl ?_
  refine g_iload_n C 1 dX6_punch_1 rfl ?_
  obtain ⟨r_2, h_1, hf⟩ := b1_some hf
  refine g_cV_i C Kf [.int x1] (mX6_isCard hK0 X.1.2.1 σ x1 r_2 h_1) mi_X6_isCard (qO_X6 hK0) rfl km_X6_134 ⟨rfl, rfl, by decide, by decide⟩ rfl rfl (Nat.le_of_ble_eq_true rfl) dX6_punch_2 ?_
  refine g_if_eq C 27 dX6_punch_5 (by decide) hf (fun hf => ?_) (fun hf => ?_)
  · refine g_iconst (v := (-1)) C dX6_punch_27 (by decide) ?_
    exact g_iretP C Kf hR dX6_punch_28 hf
  · refine g_iload_n C 2 dX6_punch_8 rfl ?_
    obtain ⟨r_4, h_3, hf⟩ := b1_some hf
    refine g_cS_i C Kf [.int x2] (mX6_isColumn hK0 X.1.2.1 σ x2 r_4 h_3) mi_X6_isColumn km_X6_143 ⟨rfl, rfl, by decide, by decide⟩ rfl rfl (Nat.le_of_ble_eq_true rfl) dX6_punch_9 ?_
    refine g_if_eq C 27 dX6_punch_12 (by decide) hf (fun hf => ?_) (fun hf => ?_)
    · refine g_iconst (v := (-1)) C dX6_punch_27 (by decide) ?_
      exact g_iretP C Kf hR dX6_punch_28 hf
    · refine g_iload_n C 3 dX6_punch_15 rfl ?_
      refine g_i2l C dX6_punch_16 ?_
      refine g_lconst (v := 0) C dX6_punch_17 (by decide) ?_
      refine g_ldc2 (v := 9) C dX6_punch_18 kl_X6_160 ?_
      obtain ⟨r_6, h_5, hf⟩ := b1_some hf
      refine g_cS_i C Kf [.long (x3.toInt64), .long 0, .long 9] (mX6_in hK0 X.1.2.1 σ (x3.toInt64) 0 9 r_6 h_5) mi_X6_in km_X6_69 ⟨rfl, rfl, by decide, by decide⟩ rfl rfl (Nat.le_of_ble_eq_true rfl) dX6_punch_21 ?_
      refine g_if_ne C 29 dX6_punch_24 (by decide) hf (fun hf => ?_) (fun hf => ?_)
      · refine g_bipush (v := 6) C dX6_punch_29 (by decide) ?_
        refine g_iconst (v := 3) C dX6_punch_31 (by decide) ?_
        refine g_iload_n C 1 dX6_punch_32 rfl ?_
        refine g_imul C dX6_punch_33 ?_
        refine g_iadd C dX6_punch_34 ?_
        refine g_iload_n C 2 dX6_punch_35 rfl ?_
        refine g_iadd C dX6_punch_36 ?_
        refine g_istoreB C (fun x4_7 => [(4, .int x4_7), (0, .ref (K.2.1 0)), (1, .int x1), (2, .int x2), (3, .int x3)]) dX6_punch_37 (by decide) (fun _ => rfl) hf (fun x4_7 hf => ?_)
        refine g_aload_n C 1 dX6_punch_39 rfl ?_
        refine g_getR C Kf cl_X6 (qF_X6_6 hK0) (by decide) dX6_punch_40 kf_X6_25 ?_
        refine g_iload C 0 dX6_punch_43 rfl ?_
        refine g_iald C Kf (qAM_6 hK0) dX6_punch_45 hf (fun hf => ?_)
        refine g_istoreB C (fun x5_8 => [(5, .int x5_8), (4, .int x4_7), (0, .ref (K.2.1 0)), (1, .int x1), (2, .int x2), (3, .int x3)]) dX6_punch_46 (by decide) (fun _ => rfl) hf (fun x5_8 hf => ?_)
        refine g_iload C 0 dX6_punch_48 rfl ?_
        refine g_iload_n C 5 dX6_punch_50 rfl ?_
        refine g_icmp_ne C 57 dX6_punch_51 (by decide) hf (fun hf => ?_) (fun hf => ?_)
        · refine g_aload_n C 2 dX6_punch_57 rfl ?_
          refine g_getI C Kf cl_X6 (qF_X6_9 hK0) (by decide) dX6_punch_58 kf_X6_109 ?_
          refine g_bipush (v := 40) C dX6_punch_61 (by decide) ?_
          refine g_icmp_ne C 69 dX6_punch_63 (by decide) hf (fun hf => ?_) (fun hf => ?_)
          · refine g_aload_n C 2 dX6_punch_69 rfl ?_
            obtain ⟨σ_10, h_9, hf⟩ := b1_some hf
            refine g_cV_v C Kf [] (mX6_remembers hK0 X.1.2.1 σ σ_10 h_9) mi_X6_remembers (qO_X6 hK0) rfl km_X6_146 ⟨rfl, rfl, by decide, by decide⟩ rfl rfl (Nat.le_of_ble_eq_true rfl) dX6_punch_70 ?_
            refine g_aload_n C 2 dX6_punch_73 rfl ?_
            refine g_getR C Kf cl_X6 (qF_X6_6 hK0) (by decide) dX6_punch_74 kf_X6_25 ?_
            refine g_iload C 1 dX6_punch_77 rfl ?_
            refine g_iload_n C 5 dX6_punch_79 rfl ?_
            refine g_iast C Kf (qAM_6 hK0) dX6_punch_80 hf (fun σ_11 hf => ?_)
            refine g_iload C 0 dX6_punch_81 rfl ?_
            exact g_iretP C Kf hR dX6_punch_83 hf
          · refine g_bipush (v := (-2)) C dX6_punch_66 (by decide) ?_
            exact g_iretP C Kf hR dX6_punch_68 hf
        · refine g_bipush (v := (-4)) C dX6_punch_54 (by decide) ?_
          exact g_iretP C Kf hR dX6_punch_56 hf
      · refine g_iconst (v := (-1)) C dX6_punch_27 (by decide) ?_
        exact g_iretP C Kf hR dX6_punch_28 hf
abbrev rmX6_put : Room := { frames := 2, cells := 0, slots := 0, locals := 45 }
set_option maxHeartbeats 4000000 in
set_option maxRecDepth 100000 in
theorem mX6_put {K : Kx} (hK0 : isKM K) (l : Launch) (σ : St) (x1 : Int32) (x2 : Int32) (x3 : Int32)  (r : Int32) (σ' : St) (hf : f6_put σ x1 x2 x3 = some (r, σ')) : mC K l yX6_put cX6_put 5 (some .int) rmX6_put [.ref (K.2.1 0), .int x1, .int x2, .int x3] σ (some (.int r)) σ' := by
  refine g_entry (own := RX6) rfl (by decide +kernel) (Nat.le_of_ble_eq_true rfl) (fun X hX C Kf hR => ?_)
  subst hX
  unfold f6_put at hf
  show gG X σ 0 [(0, .ref (K.2.1 0)), (1, .int x1), (2, .int x2), (3, .int x3)] []
  refine g_iload_n C 1 dX6_put_0 rfl ?_
  obtain ⟨r_2, h_1, hf⟩ := b1_some hf
  refine g_cS_i C Kf [.int x1] (mX6_isText hK0 X.1.2.1 σ x1 r_2 h_1) mi_X6_isText km_X6_86 ⟨rfl, rfl, by decide, by decide⟩ rfl rfl (Nat.le_of_ble_eq_true rfl) dX6_put_1 ?_
  refine g_if_ne C 9 dX6_put_4 (by decide) hf (fun hf => ?_) (fun hf => ?_)
  · refine g_aload_n C 0 dX6_put_9 rfl ?_
    refine g_getR C Kf cl_X6 (qF_X6_2 hK0) (by decide) dX6_put_10 kf_X6_16 ?_
    refine g_iload_n C 1 dX6_put_13 rfl ?_
    refine g_iald C Kf (qAM_3 hK0) dX6_put_14 hf (fun hf => ?_)
    refine g_if_ge C 24 dX6_put_15 (by decide) hf (fun hf => ?_) (fun hf => ?_)
    · refine g_iload_n C 2 dX6_put_24 rfl ?_
      refine g_i2l C dX6_put_25 ?_
      refine g_lconst (v := 0) C dX6_put_26 (by decide) ?_
      refine g_aload_n C 0 dX6_put_27 rfl ?_
      refine g_getR C Kf cl_X6 (qF_X6_2 hK0) (by decide) dX6_put_28 kf_X6_16 ?_
      refine g_iload_n C 1 dX6_put_31 rfl ?_
      refine g_iald C Kf (qAM_3 hK0) dX6_put_32 hf (fun hf => ?_)
      refine g_iconst (v := 1) C dX6_put_33 (by decide) ?_
      refine g_isub C dX6_put_34 ?_
      refine g_i2l C dX6_put_35 ?_
      obtain ⟨r_4, h_3, hf⟩ := b1_some hf
      refine g_cS_i C Kf [.long (x2.toInt64), .long 0, .long (((σ.1 3 x1.toNatClampNeg) - 1).toInt64)] (mX6_in hK0 X.1.2.1 σ (x2.toInt64) 0 (((σ.1 3 x1.toNatClampNeg) - 1).toInt64) r_4 h_3) mi_X6_in km_X6_69 ⟨rfl, rfl, by decide, by decide⟩ rfl rfl (Nat.le_of_ble_eq_true rfl) dX6_put_36 ?_
      refine g_if_ne C 48 dX6_put_39 (by decide) hf (fun hf => ?_) (fun hf => ?_)
      · refine g_aload_n C 0 dX6_put_48 rfl ?_
        refine g_getR C Kf cl_X6 (qF_X6_3 hK0) (by decide) dX6_put_49 kf_X6_19 ?_
        refine g_bipush (v := 60) C dX6_put_52 (by decide) ?_
        refine g_iload_n C 1 dX6_put_54 rfl ?_
        refine g_imul C dX6_put_55 ?_
        refine g_iload_n C 2 dX6_put_56 rfl ?_
        refine g_iadd C dX6_put_57 ?_
        refine g_iald C Kf (qAM_4 hK0) dX6_put_58 hf (fun hf => ?_)
        refine g_istoreB C (fun x4_5 => [(4, .int x4_5), (0, .ref (K.2.1 0)), (1, .int x1), (2, .int x2), (3, .int x3)]) dX6_put_59 (by decide) (fun _ => rfl) hf (fun x4_5 hf => ?_)
        refine g_aload_n C 1 dX6_put_61 rfl ?_
        refine g_getR C Kf cl_X6 (qF_X6_3 hK0) (by decide) dX6_put_62 kf_X6_19 ?_
        refine g_bipush (v := 60) C dX6_put_65 (by decide) ?_
        refine g_iload_n C 2 dX6_put_67 rfl ?_
        refine g_imul C dX6_put_68 ?_
        refine g_iload_n C 3 dX6_put_69 rfl ?_
        refine g_iadd C dX6_put_70 ?_
        refine g_iload_n C 4 dX6_put_71 rfl ?_
        refine g_i2b C dX6_put_72 ?_
        refine g_iast C Kf (qAM_4 hK0) dX6_put_73 hf (fun σ_6 hf => ?_)
        refine g_iload C 0 dX6_put_74 rfl ?_
        refine g_sipush (v := 1000) C dX6_put_76 (by decide) ?_
        refine g_iadd C dX6_put_79 ?_
        exact g_iretP C Kf hR dX6_put_80 hf
      · refine g_aload_n C 0 dX6_put_42 rfl ?_
        refine g_iconst (v := 2) C dX6_put_43 (by decide) ?_
        obtain ⟨r_8, σ_9, h_7, hf⟩ := b2_some hf
        refine g_cV_i C Kf [.int 2] (mX6_found hK0 X.1.2.1 σ 2 r_8 σ_9 h_7) mi_X6_found (qO_X6 hK0) rfl km_X6_79 ⟨rfl, rfl, by decide, by decide⟩ rfl rfl (Nat.le_of_ble_eq_true rfl) dX6_put_44 ?_
        exact g_iretP C Kf hR dX6_put_47 hf
    · refine g_aload_n C 0 dX6_put_18 rfl ?_
      refine g_iconst (v := 1) C dX6_put_19 (by decide) ?_
      obtain ⟨r_11, σ_12, h_10, hf⟩ := b2_some hf
      refine g_cV_i C Kf [.int 1] (mX6_found hK0 X.1.2.1 σ 1 r_11 σ_12 h_10) mi_X6_found (qO_X6 hK0) rfl km_X6_79 ⟨rfl, rfl, by decide, by decide⟩ rfl rfl (Nat.le_of_ble_eq_true rfl) dX6_put_20 ?_
      exact g_iretP C Kf hR dX6_put_23 hf
  · refine g_iconst (v := (-1)) C dX6_put_7 (by decide) ?_
    exact g_iretP C Kf hR dX6_put_8 hf
abbrev rmX6_row : Room := { frames := 2, cells := 0, slots := 0, locals := 45 }
set_option maxHeartbeats 4000000 in
set_option maxRecDepth 100000 in
theorem wL6_row_34 {X : Gx St} {K : Kx} (hK0 : isKM K) (σ : St) (x1 : Int32) (x2 : Int32) (r : Int32) (σ' : St) (C : gF X cX6_row RX6 (some .int) 4 rmX6_row) (Kf : kF X K) (hR : gR X K (some (.int r)) σ') (k : St → Option (Int32 × St)) (Hk : ∀ (σ_8 : St), k σ_8 = some (r, σ') → gG X σ_8 58 [(2, .int x2)] []) : ∀ (n : Nat) (x3_4 : Int32) (σ_5 : St), L6_row_34 x1 x2 k n x3_4 σ_5 = some (r, σ') → gG X σ_5 34 [(0, .ref (K.2.1 0)), (1, .int x1), (2, .int x2), (3, .int x3_4)] [] := by
  intro n
  induction n with
  | zero => intro _ _ hf; unfold L6_row_34 at hf; cases hf
  | succ n ih =>
  intro x3_4 σ_5 hf
  unfold L6_row_34 at hf
  refine g_iload_n C 3 dX6_row_34 rfl ?_
  refine g_bipush (v := 40) C dX6_row_35 (by decide) ?_
  refine g_icmp_ge C 58 dX6_row_37 (by decide) hf (fun hf => ?_) (fun hf => ?_)
  · refine g_cut [2] rfl ?_
    exact Hk _ hf
  · refine g_aload_n C 0 dX6_row_40 rfl ?_
    refine g_getR C Kf cl_X6 (qF_X6_1 hK0) (by decide) dX6_row_41 kf_X6_13 ?_
    refine g_bipush (v := 40) C dX6_row_44 (by decide) ?_
    refine g_iload_n C 1 dX6_row_46 rfl ?_
    refine g_imul C dX6_row_47 ?_
    refine g_iload_n C 3 dX6_row_48 rfl ?_
    refine g_iadd C dX6_row_49 ?_
    refine g_iconst (v := 0) C dX6_row_50 (by decide) ?_
    refine g_iast C Kf (qAM_2 hK0) dX6_row_51 hf (fun σ_6 hf => ?_)
    refine g_iinc (d := 1) C 3 (fun x3_7 => [(3, .int x3_7), (0, .ref (K.2.1 0)), (1, .int x1), (2, .int x2)]) dX6_row_52 rfl (by decide) (by decide) (fun _ => rfl) hf (fun x3_7 hf => ?_)
    refine g_goto C 34 dX6_row_55 (by decide) ?_
    refine g_cut [1, 2, 3, 0] rfl ?_
    exact ih _ _ hf
set_option maxHeartbeats 4000000 in
set_option maxRecDepth 100000 in
theorem mX6_row {K : Kx} (hK0 : isKM K) (l : Launch) (σ : St) (x1 : Int32) (x2 : Int32)  (r : Int32) (σ' : St) (hf : f6_row σ x1 x2 = some (r, σ')) : mC K l yX6_row cX6_row 4 (some .int) rmX6_row [.ref (K.2.1 0), .int x1, .int x2] σ (some (.int r)) σ' := by
  refine g_entry (own := RX6) rfl (by decide +kernel) (Nat.le_of_ble_eq_true rfl) (fun X hX C Kf hR => ?_)
  subst hX
  unfold f6_row at hf
  show gG X σ 0 [(0, .ref (K.2.1 0)), (1, .int x1), (2, .int x2)] []
  refine g_iload_n C 1 dX6_row_0 rfl ?_
  obtain ⟨r_2, h_1, hf⟩ := b1_some hf
  refine g_cS_i C Kf [.int x1] (mX6_isRow hK0 X.1.2.1 σ x1 r_2 h_1) mi_X6_isRow km_X6_75 ⟨rfl, rfl, by decide, by decide⟩ rfl rfl (Nat.le_of_ble_eq_true rfl) dX6_row_1 ?_
  refine g_if_eq C 13 dX6_row_4 (by decide) hf (fun hf => ?_) (fun hf => ?_)
  · refine g_iconst (v := (-1)) C dX6_row_13 (by decide) ?_
    exact g_iretP C Kf hR dX6_row_14 hf
  · refine g_iload_n C 2 dX6_row_7 rfl ?_
    refine g_bipush (v := 40) C dX6_row_8 (by decide) ?_
    refine g_icmp_le C 15 dX6_row_10 (by decide) hf (fun hf => ?_) (fun hf => ?_)
    · refine g_iload_n C 2 dX6_row_15 rfl ?_
      refine g_if_ge C 25 dX6_row_16 (by decide) hf (fun hf => ?_) (fun hf => ?_)
      · refine g_aload_n C 0 dX6_row_25 rfl ?_
        refine g_getR C Kf cl_X6 (qF_X6_0 hK0) (by decide) dX6_row_26 kf_X6_7 ?_
        refine g_iload_n C 1 dX6_row_29 rfl ?_
        refine g_iload_n C 2 dX6_row_30 rfl ?_
        refine g_iast C Kf (qAM_1 hK0) dX6_row_31 hf (fun σ_3 hf => ?_)
        refine g_iconst (v := 0) C dX6_row_32 (by decide) ?_
        refine g_istore_n C [(3, .int 0), (0, .ref (K.2.1 0)), (1, .int x1), (2, .int x2)] dX6_row_33 rfl (by decide) rfl ?_
        refine g_cut [1, 2, 3, 0] rfl ?_
        refine wL6_row_34 hK0 σ_3 x1 x2 _ _ C Kf hR _ (fun σ_9 hf => ?_) _ _ _ hf
        refine g_iload_n C 0 dX6_row_58 rfl ?_
        exact g_iretP C Kf hR dX6_row_59 hf
      · refine g_aload_n C 0 dX6_row_19 rfl ?_
        refine g_iconst (v := 5) C dX6_row_20 (by decide) ?_
        obtain ⟨r_11, σ_12, h_10, hf⟩ := b2_some hf
        refine g_cV_i C Kf [.int 5] (mX6_found hK0 X.1.2.1 σ 5 r_11 σ_12 h_10) mi_X6_found (qO_X6 hK0) rfl km_X6_79 ⟨rfl, rfl, by decide, by decide⟩ rfl rfl (Nat.le_of_ble_eq_true rfl) dX6_row_21 ?_
        exact g_iretP C Kf hR dX6_row_24 hf
    · refine g_iconst (v := (-1)) C dX6_row_13 (by decide) ?_
      exact g_iretP C Kf hR dX6_row_14 hf
abbrev rmX6_run : Room := { frames := 5, cells := 0, slots := 0, locals := 121 }
set_option maxHeartbeats 4000000 in
set_option maxRecDepth 100000 in
theorem wL6_run_60 {X : Gx St} {K : Kx} (hK0 : isKM K) (σ : St) (x1 : Int32) (x2 : Int32) (r : Int32) (σ' : St) (C : gF X cX6_run RX6 (some .int) 4 rmX6_run) (Kf : kF X K) (hR : gR X K (some (.int r)) σ') (k : St → Option (Int32 × St)) (Hk : ∀ (σ_13 : St), k σ_13 = some (r, σ') → gG X σ_13 99 [(0, .ref (K.2.1 0)), (1, .int x1), (2, .int x2)] []) : ∀ (n : Nat) (x3_5 : Int32) (σ_6 : St), L6_run_60 x1 x2 k n x3_5 σ_6 = some (r, σ') → gG X σ_6 60 [(0, .ref (K.2.1 0)), (1, .int x1), (2, .int x2), (3, .int x3_5)] [] := by
  intro n
  induction n with
  | zero => intro _ _ hf; unfold L6_run_60 at hf; cases hf
  | succ n ih =>
  intro x3_5 σ_6 hf
  unfold L6_run_60 at hf
  refine g_iload_n C 3 dX6_run_60 rfl ?_
  refine g_aload_n C 0 dX6_run_61 rfl ?_
  refine g_getR C Kf cl_X6 (qF_X6_0 hK0) (by decide) dX6_run_62 kf_X6_7 ?_
  refine g_iload_n C 1 dX6_run_65 rfl ?_
  refine g_iald C Kf (qAM_1 hK0) dX6_run_66 hf (fun hf => ?_)
  refine g_icmp_ge C 99 dX6_run_67 (by decide) hf (fun hf => ?_) (fun hf => ?_)
  · refine g_cut [0, 1, 2] rfl ?_
    exact Hk _ hf
  · refine g_aload_n C 0 dX6_run_70 rfl ?_
    refine g_getR C Kf cl_X6 (qF_X6_1 hK0) (by decide) dX6_run_71 kf_X6_13 ?_
    refine g_bipush (v := 40) C dX6_run_74 (by decide) ?_
    refine g_iload_n C 1 dX6_run_76 rfl ?_
    refine g_imul C dX6_run_77 ?_
    refine g_iload_n C 3 dX6_run_78 rfl ?_
    refine g_iadd C dX6_run_79 ?_
    refine g_iald C Kf (qAM_2 hK0) dX6_run_80 hf (fun hf => ?_)
    obtain ⟨r_8, h_7, hf⟩ := b1_some hf
    refine g_cS_i C Kf [.int (σ_6.1 2 ((40 * x1) + x3_5).toNatClampNeg)] (mX6_isColumn hK0 X.1.2.1 σ_6 (σ_6.1 2 ((40 * x1) + x3_5).toNatClampNeg) r_8 h_7) mi_X6_isColumn km_X6_143 ⟨rfl, rfl, by decide, by decide⟩ rfl rfl (Nat.le_of_ble_eq_true rfl) dX6_run_81 ?_
    refine g_if_ne C 93 dX6_run_84 (by decide) hf (fun hf => ?_) (fun hf => ?_)
    · refine g_iinc (d := 1) C 3 (fun x3_9 => [(3, .int x3_9), (0, .ref (K.2.1 0)), (1, .int x1), (2, .int x2)]) dX6_run_93 rfl (by decide) (by decide) (fun _ => rfl) hf (fun x3_9 hf => ?_)
      refine g_goto C 60 dX6_run_96 (by decide) ?_
      refine g_cut [1, 2, 3, 0] rfl ?_
      exact ih _ _ hf
    · refine g_aload_n C 0 dX6_run_87 rfl ?_
      refine g_iconst (v := 3) C dX6_run_88 (by decide) ?_
      obtain ⟨r_11, σ_12, h_10, hf⟩ := b2_some hf
      refine g_cV_i C Kf [.int 3] (mX6_found hK0 X.1.2.1 σ_6 3 r_11 σ_12 h_10) mi_X6_found (qO_X6 hK0) rfl km_X6_79 ⟨rfl, rfl, by decide, by decide⟩ rfl rfl (Nat.le_of_ble_eq_true rfl) dX6_run_89 ?_
      exact g_iretP C Kf hR dX6_run_92 hf
set_option maxHeartbeats 4000000 in
set_option maxRecDepth 100000 in
theorem wL6_run_105 {X : Gx St} {K : Kx} (hK0 : isKM K) (σ : St) (x1 : Int32) (x2 : Int32) (r : Int32) (σ' : St) (C : gF X cX6_run RX6 (some .int) 4 rmX6_run) (Kf : kF X K) (hR : gR X K (some (.int r)) σ') (k : St → Option (Int32 × St)) (Hk : ∀ (σ_22 : St), k σ_22 = some (r, σ') → gG X σ_22 140 [(0, .ref (K.2.1 0)), (2, .int x2)] []) : ∀ (n : Nat) (x3_17 : Int32) (σ_18 : St), L6_run_105 x1 x2 k n x3_17 σ_18 = some (r, σ') → gG X σ_18 105 [(0, .ref (K.2.1 0)), (1, .int x1), (2, .int x2), (3, .int x3_17)] [] := by
  intro n
  induction n with
  | zero => intro _ _ hf; unfold L6_run_105 at hf; cases hf
  | succ n ih =>
  intro x3_17 σ_18 hf
  unfold L6_run_105 at hf
  refine g_iload_n C 3 dX6_run_105 rfl ?_
  refine g_aload_n C 0 dX6_run_106 rfl ?_
  refine g_getR C Kf cl_X6 (qF_X6_0 hK0) (by decide) dX6_run_107 kf_X6_7 ?_
  refine g_iload_n C 1 dX6_run_110 rfl ?_
  refine g_iald C Kf (qAM_1 hK0) dX6_run_111 hf (fun hf => ?_)
  refine g_icmp_ge C 140 dX6_run_112 (by decide) hf (fun hf => ?_) (fun hf => ?_)
  · refine g_cut [0, 2] rfl ?_
    exact Hk _ hf
  · refine g_aload_n C 0 dX6_run_115 rfl ?_
    refine g_aload_n C 0 dX6_run_116 rfl ?_
    refine g_getR C Kf cl_X6 (qF_X6_7 hK0) (by decide) dX6_run_117 kf_X6_28 ?_
    refine g_aload_n C 0 dX6_run_120 rfl ?_
    refine g_getR C Kf cl_X6 (qF_X6_1 hK0) (by decide) dX6_run_121 kf_X6_13 ?_
    refine g_bipush (v := 40) C dX6_run_124 (by decide) ?_
    refine g_iload_n C 1 dX6_run_126 rfl ?_
    refine g_imul C dX6_run_127 ?_
    refine g_iload_n C 3 dX6_run_128 rfl ?_
    refine g_iadd C dX6_run_129 ?_
    refine g_iald C Kf (qAM_2 hK0) dX6_run_130 hf (fun hf => ?_)
    obtain ⟨σ_20, h_19, hf⟩ := b1_some hf
    refine g_cV_v C Kf [.ref (K.2.1 7), .int (σ_18.1 2 ((40 * x1) + x3_17).toNatClampNeg)] (mX6_passes hK0 X.1.2.1 σ_18 7 (σ_18.1 2 ((40 * x1) + x3_17).toNatClampNeg) (by decide) σ_20 h_19) mi_X6_passes (qO_X6 hK0) rfl km_X6_149 ⟨rfl, rfl, by decide, by decide⟩ rfl rfl (Nat.le_of_ble_eq_true rfl) dX6_run_131 ?_
    refine g_iinc (d := 1) C 3 (fun x3_21 => [(3, .int x3_21), (0, .ref (K.2.1 0)), (1, .int x1), (2, .int x2)]) dX6_run_134 rfl (by decide) (by decide) (fun _ => rfl) hf (fun x3_21 hf => ?_)
    refine g_goto C 105 dX6_run_137 (by decide) ?_
    refine g_cut [1, 2, 3, 0] rfl ?_
    exact ih _ _ hf
set_option maxHeartbeats 4000000 in
set_option maxRecDepth 100000 in
theorem mX6_run {K : Kx} (hK0 : isKM K) (l : Launch) (σ : St) (x1 : Int32) (x2 : Int32)  (r : Int32) (σ' : St) (hf : f6_run σ x1 x2 = some (r, σ')) : mC K l yX6_run cX6_run 4 (some .int) rmX6_run [.ref (K.2.1 0), .int x1, .int x2] σ (some (.int r)) σ' := by
  refine g_entry (own := RX6) rfl (by decide +kernel) (Nat.le_of_ble_eq_true rfl) (fun X hX C Kf hR => ?_)
  subst hX
  unfold f6_run at hf
  show gG X σ 0 [(0, .ref (K.2.1 0)), (1, .int x1), (2, .int x2)] []
  refine g_iload_n C 1 dX6_run_0 rfl ?_
  obtain ⟨r_2, h_1, hf⟩ := b1_some hf
  refine g_cS_i C Kf [.int x1] (mX6_isRow hK0 X.1.2.1 σ x1 r_2 h_1) mi_X6_isRow km_X6_75 ⟨rfl, rfl, by decide, by decide⟩ rfl rfl (Nat.le_of_ble_eq_true rfl) dX6_run_1 ?_
  refine g_if_eq C 14 dX6_run_4 (by decide) hf (fun hf => ?_) (fun hf => ?_)
  · refine g_iconst (v := (-1)) C dX6_run_14 (by decide) ?_
    exact g_iretP C Kf hR dX6_run_15 hf
  · refine g_iload_n C 2 dX6_run_7 rfl ?_
    obtain ⟨r_4, h_3, hf⟩ := b1_some hf
    refine g_cS_i C Kf [.int x2] (mX6_isRow hK0 X.1.2.1 σ x2 r_4 h_3) mi_X6_isRow km_X6_75 ⟨rfl, rfl, by decide, by decide⟩ rfl rfl (Nat.le_of_ble_eq_true rfl) dX6_run_8 ?_
    refine g_if_ne C 16 dX6_run_11 (by decide) hf (fun hf => ?_) (fun hf => ?_)
    · refine g_aload_n C 0 dX6_run_16 rfl ?_
      refine g_getI C Kf cl_X6 (qF_X6_4 hK0) (by decide) dX6_run_17 kf_X6_102 ?_
      refine g_if_ne C 26 dX6_run_20 (by decide) hf (fun hf => ?_) (fun hf => ?_)
      · refine g_aload_n C 0 dX6_run_26 rfl ?_
        refine g_getR C Kf cl_X6 (qF_X6_0 hK0) (by decide) dX6_run_27 kf_X6_7 ?_
        refine g_iload_n C 1 dX6_run_30 rfl ?_
        refine g_iald C Kf (qAM_1 hK0) dX6_run_31 hf (fun hf => ?_)
        refine g_if_ge C 41 dX6_run_32 (by decide) hf (fun hf => ?_) (fun hf => ?_)
        · refine g_aload_n C 0 dX6_run_41 rfl ?_
          refine g_getR C Kf cl_X6 (qF_X6_0 hK0) (by decide) dX6_run_42 kf_X6_7 ?_
          refine g_iload_n C 1 dX6_run_45 rfl ?_
          refine g_iald C Kf (qAM_1 hK0) dX6_run_46 hf (fun hf => ?_)
          refine g_bipush (v := 10) C dX6_run_47 (by decide) ?_
          refine g_icmp_le C 58 dX6_run_49 (by decide) hf (fun hf => ?_) (fun hf => ?_)
          · refine g_iconst (v := 0) C dX6_run_58 (by decide) ?_
            refine g_istore_n C [(3, .int 0), (0, .ref (K.2.1 0)), (1, .int x1), (2, .int x2)] dX6_run_59 rfl (by decide) rfl ?_
            refine g_cut [1, 2, 3, 0] rfl ?_
            refine wL6_run_60 hK0 σ x1 x2 _ _ C Kf hR _ (fun σ_14 hf => ?_) _ _ _ hf
            refine g_aload_n C 0 dX6_run_99 rfl ?_
            obtain ⟨σ_16, h_15, hf⟩ := b1_some hf
            refine g_cV_v C Kf [] (mX6_laysAside hK0 X.1.2.1 σ_14 σ_16 h_15) mi_X6_laysAside (qO_X6 hK0) rfl km_X6_167 ⟨rfl, rfl, by decide, by decide⟩ rfl rfl (Nat.le_of_ble_eq_true rfl) dX6_run_100 ?_
            refine g_iconst (v := 0) C dX6_run_103 (by decide) ?_
            refine g_istore_n C [(3, .int 0), (0, .ref (K.2.1 0)), (1, .int x1), (2, .int x2)] dX6_run_104 rfl (by decide) rfl ?_
            refine g_cut [1, 2, 3, 0] rfl ?_
            refine wL6_run_105 hK0 σ_16 x1 x2 _ _ C Kf hR _ (fun σ_23 hf => ?_) _ _ _ hf
            refine g_aload_n C 0 dX6_run_140 rfl ?_
            refine g_iload_n C 1 dX6_run_141 rfl ?_
            refine g_aload_n C 0 dX6_run_142 rfl ?_
            refine g_getI C Kf cl_X6 (qF_X6_4 hK0) (by decide) dX6_run_143 kf_X6_102 ?_
            obtain ⟨σ_25, h_24, hf⟩ := b1_some hf
            refine g_cV_v C Kf [.int x2, .int (σ_23.1 0 4)] (mX6_lays hK0 X.1.2.1 σ_23 x2 (σ_23.1 0 4) σ_25 h_24) mi_X6_lays (qO_X6 hK0) rfl km_X6_170 ⟨rfl, rfl, by decide, by decide⟩ rfl rfl (Nat.le_of_ble_eq_true rfl) dX6_run_146 ?_
            refine g_aload_n C 0 dX6_run_149 rfl ?_
            refine g_getR C Kf cl_X6 (qF_X6_7 hK0) (by decide) dX6_run_150 kf_X6_28 ?_
            refine g_iconst (v := 0) C dX6_run_153 (by decide) ?_
            refine g_aload_n C 0 dX6_run_154 rfl ?_
            refine g_getR C Kf cl_X6 (qF_X6_1 hK0) (by decide) dX6_run_155 kf_X6_13 ?_
            refine g_bipush (v := 40) C dX6_run_158 (by decide) ?_
            refine g_iload_n C 1 dX6_run_160 rfl ?_
            refine g_imul C dX6_run_161 ?_
            refine g_aload_n C 0 dX6_run_162 rfl ?_
            refine g_getI C Kf cl_X6 (qF_X6_4 hK0) (by decide) dX6_run_163 kf_X6_102 ?_
            obtain ⟨σ_27, h_26, hf⟩ := b1_some hf
            refine g_cS_v C Kf [.ref (K.2.1 7), .int 0, .ref (K.2.1 2), .int (40 * x2), .int (σ_25.1 0 4)] (mX6_copies hK0 X.1.2.1 σ_25 7 0 2 (40 * x2) (σ_25.1 0 4) (by decide) (by decide) σ_27 h_26) mi_X6_copies km_X6_105 ⟨rfl, rfl, by decide, by decide⟩ rfl rfl (Nat.le_of_ble_eq_true rfl) dX6_run_166 ?_
            refine g_aload_n C 0 dX6_run_169 rfl ?_
            refine g_getR C Kf cl_X6 (qF_X6_7 hK0) (by decide) dX6_run_170 kf_X6_28 ?_
            refine g_iconst (v := 0) C dX6_run_173 (by decide) ?_
            refine g_ialdL C Kf 0 (by decide) (by unfold vp_in; decide) (qAM_7 hK0) dX6_run_174 ?_
            exact g_iretP C Kf hR dX6_run_175 hf
          · refine g_aload_n C 0 dX6_run_52 rfl ?_
            refine g_iconst (v := 5) C dX6_run_53 (by decide) ?_
            obtain ⟨r_29, σ_30, h_28, hf⟩ := b2_some hf
            refine g_cV_i C Kf [.int 5] (mX6_found hK0 X.1.2.1 σ 5 r_29 σ_30 h_28) mi_X6_found (qO_X6 hK0) rfl km_X6_79 ⟨rfl, rfl, by decide, by decide⟩ rfl rfl (Nat.le_of_ble_eq_true rfl) dX6_run_54 ?_
            exact g_iretP C Kf hR dX6_run_57 hf
        · refine g_aload_n C 0 dX6_run_35 rfl ?_
          refine g_iconst (v := 1) C dX6_run_36 (by decide) ?_
          obtain ⟨r_32, σ_33, h_31, hf⟩ := b2_some hf
          refine g_cV_i C Kf [.int 1] (mX6_found hK0 X.1.2.1 σ 1 r_32 σ_33 h_31) mi_X6_found (qO_X6 hK0) rfl km_X6_79 ⟨rfl, rfl, by decide, by decide⟩ rfl rfl (Nat.le_of_ble_eq_true rfl) dX6_run_37 ?_
          exact g_iretP C Kf hR dX6_run_40 hf
      · refine g_bipush (v := (-4)) C dX6_run_23 (by decide) ?_
        exact g_iretP C Kf hR dX6_run_25 hf
    · refine g_iconst (v := (-1)) C dX6_run_14 (by decide) ?_
      exact g_iretP C Kf hR dX6_run_15 hf
abbrev rmX6_sets : Room := { frames := 2, cells := 0, slots := 0, locals := 46 }
set_option maxHeartbeats 4000000 in
set_option maxRecDepth 100000 in
theorem wL6_sets_47 {X : Gx St} {K : Kx} (hK0 : isKM K) (σ : St) (x1 : Int32) (x2 : Int32) (r : Int32) (σ' : St) (C : gF X cX6_sets RX6 (some .int) 6 rmX6_sets) (Kf : kF X K) (hR : gR X K (some (.int r)) σ') (k : Int32 → Int32 → Option (Int32 × St)) (Hk : ∀ (x3_9 : Int32) (x4_10 : Int32), k x3_9 x4_10 = some (r, σ') → gG X σ 76 [(0, .ref (K.2.1 0)), (3, .int x3_9), (4, .int x4_10)] []) : ∀ (n : Nat) (x3_6 : Int32) (x4_7 : Int32) (x5_8 : Int32), L6_sets_47 σ x1 x2 k n x3_6 x4_7 x5_8 = some (r, σ') → gG X σ 47 [(0, .ref (K.2.1 0)), (1, .int x1), (2, .int x2), (3, .int x3_6), (4, .int x4_7), (5, .int x5_8)] [] := by
  intro n
  induction n with
  | zero => intro _ _ _ hf; unfold L6_sets_47 at hf; cases hf
  | succ n ih =>
  intro x3_6 x4_7 x5_8 hf
  unfold L6_sets_47 at hf
  refine g_iload C 5 dX6_sets_47 rfl ?_
  refine g_if_lt C 76 dX6_sets_49 (by decide) hf (fun hf => ?_) (fun hf => ?_)
  · refine g_cut [0, 3, 4] rfl ?_
    exact Hk _ _ hf
  · refine g_aload_n C 0 dX6_sets_52 rfl ?_
    refine g_iload C 5 dX6_sets_53 rfl ?_
    refine g_iload_n C 1 dX6_sets_55 rfl ?_
    refine g_iload_n C 2 dX6_sets_56 rfl ?_
    obtain ⟨r_12, h_11, hf⟩ := b1_some hf
    refine g_cV_i C Kf [.int x5_8, .int x1, .int x2] (mX6_comesTo hK0 X.1.2.1 σ x5_8 x1 x2 r_12 h_11) mi_X6_comesTo (qO_X6 hK0) rfl km_X6_199 ⟨rfl, rfl, by decide, by decide⟩ rfl rfl (Nat.le_of_ble_eq_true rfl) dX6_sets_57 ?_
    refine g_jn hf (fun j_15 ej_17 hf => ?_)
    have HJ_16 : ∀ (x3_13 : Int32) (x4_14 : Int32), j_15 x3_13 x4_14 = some (r, σ') → gG X σ 70 [(0, .ref (K.2.1 0)), (1, .int x1), (2, .int x2), (3, .int x3_13), (4, .int x4_14), (5, .int x5_8)] [] := by
      intro x3_13 x4_14 hf
      rw [ej_17] at hf
      refine g_iinc (d := (-1)) C 5 (fun x5_18 => [(5, .int x5_18), (0, .ref (K.2.1 0)), (1, .int x1), (2, .int x2), (3, .int x3_13), (4, .int x4_14)]) dX6_sets_70 rfl (by decide) (by decide) (fun _ => rfl) hf (fun x5_18 hf => ?_)
      refine g_goto C 47 dX6_sets_73 (by decide) ?_
      refine g_cut [1, 2, 3, 4, 5, 0] rfl ?_
      exact ih _ _ _ hf
    refine g_if_eq C 70 dX6_sets_60 (by decide) hf (fun hf => ?_) (fun hf => ?_)
    · exact HJ_16 _ _ hf
    · refine g_iinc (d := 1) C 3 (fun x3_19 => [(3, .int x3_19), (0, .ref (K.2.1 0)), (1, .int x1), (2, .int x2), (4, .int x4_7), (5, .int x5_8)]) dX6_sets_63 rfl (by decide) (by decide) (fun _ => rfl) hf (fun x3_19 hf => ?_)
      refine g_iload C 5 dX6_sets_66 rfl ?_
      refine g_istore C [(4, .int x5_8), (3, .int x3_19), (0, .ref (K.2.1 0)), (1, .int x1), (2, .int x2), (5, .int x5_8)] dX6_sets_68 (by decide) rfl ?_
      refine g_cut [2, 3, 4, 1, 0, 5] rfl ?_
      exact HJ_16 _ _ hf
set_option maxHeartbeats 4000000 in
set_option maxRecDepth 100000 in
theorem mX6_sets {K : Kx} (hK0 : isKM K) (l : Launch) (σ : St) (x1 : Int32) (x2 : Int32)  (r : Int32) (σ' : St) (hf : f6_sets σ x1 x2 = some (r, σ')) : mC K l yX6_sets cX6_sets 6 (some .int) rmX6_sets [.ref (K.2.1 0), .int x1, .int x2] σ (some (.int r)) σ' := by
  refine g_entry (own := RX6) rfl (by decide +kernel) (Nat.le_of_ble_eq_true rfl) (fun X hX C Kf hR => ?_)
  subst hX
  unfold f6_sets at hf
  show gG X σ 0 [(0, .ref (K.2.1 0)), (1, .int x1), (2, .int x2)] []
  refine g_iload_n C 1 dX6_sets_0 rfl ?_
  obtain ⟨r_2, h_1, hf⟩ := b1_some hf
  refine g_cS_i C Kf [.int x1] (mX6_isColumn hK0 X.1.2.1 σ x1 r_2 h_1) mi_X6_isColumn km_X6_143 ⟨rfl, rfl, by decide, by decide⟩ rfl rfl (Nat.le_of_ble_eq_true rfl) dX6_sets_1 ?_
  refine g_if_eq C 19 dX6_sets_4 (by decide) hf (fun hf => ?_) (fun hf => ?_)
  · refine g_iconst (v := (-1)) C dX6_sets_19 (by decide) ?_
    exact g_iretP C Kf hR dX6_sets_20 hf
  · refine g_iload_n C 2 dX6_sets_7 rfl ?_
    refine g_i2l C dX6_sets_8 ?_
    refine g_lconst (v := 0) C dX6_sets_9 (by decide) ?_
    refine g_ldc2 (v := 54) C dX6_sets_10 kl_X6_197 ?_
    obtain ⟨r_4, h_3, hf⟩ := b1_some hf
    refine g_cS_i C Kf [.long (x2.toInt64), .long 0, .long 54] (mX6_in hK0 X.1.2.1 σ (x2.toInt64) 0 54 r_4 h_3) mi_X6_in km_X6_69 ⟨rfl, rfl, by decide, by decide⟩ rfl rfl (Nat.le_of_ble_eq_true rfl) dX6_sets_13 ?_
    refine g_if_ne C 21 dX6_sets_16 (by decide) hf (fun hf => ?_) (fun hf => ?_)
    · refine g_aload_n C 0 dX6_sets_21 rfl ?_
      refine g_getI C Kf cl_X6 (qF_X6_4 hK0) (by decide) dX6_sets_22 kf_X6_102 ?_
      refine g_if_ne C 31 dX6_sets_25 (by decide) hf (fun hf => ?_) (fun hf => ?_)
      · refine g_iconst (v := 0) C dX6_sets_31 (by decide) ?_
        refine g_istore_n C [(3, .int 0), (0, .ref (K.2.1 0)), (1, .int x1), (2, .int x2)] dX6_sets_32 rfl (by decide) rfl ?_
        refine g_bipush (v := (-9)) C dX6_sets_33 (by decide) ?_
        refine g_istore C [(4, .int ((-9))), (3, .int 0), (0, .ref (K.2.1 0)), (1, .int x1), (2, .int x2)] dX6_sets_35 (by decide) rfl ?_
        refine g_iconst (v := 1) C dX6_sets_37 (by decide) ?_
        refine g_aload_n C 2 dX6_sets_38 rfl ?_
        refine g_getI C Kf cl_X6 (qF_X6_4 hK0) (by decide) dX6_sets_39 kf_X6_102 ?_
        refine g_ishl C dX6_sets_42 ?_
        refine g_iconst (v := 1) C dX6_sets_43 (by decide) ?_
        refine g_isub C dX6_sets_44 ?_
        refine g_istoreB C (fun x5_5 => [(5, .int x5_5), (4, .int ((-9))), (3, .int 0), (0, .ref (K.2.1 0)), (1, .int x1), (2, .int x2)]) dX6_sets_45 (by decide) (fun _ => rfl) hf (fun x5_5 hf => ?_)
        refine g_cut [3, 4, 5, 2, 1, 0] rfl ?_
        refine wL6_sets_47 hK0 σ x1 x2 _ _ C Kf hR _ (fun x3_20 x4_21 hf => ?_) _ _ _ _ hf
        refine g_aload_n C 0 dX6_sets_76 rfl ?_
        refine g_iload_n C 1 dX6_sets_77 rfl ?_
        refine g_i2l C dX6_sets_78 ?_
        refine g_putL C Kf cl_X6 (qF_X6_13 hK0) (by decide) rfl rfl rfl dX6_sets_79 kf_X6_202 hf (fun σ_22 hf => ?_)
        refine g_aload_n C 0 dX6_sets_82 rfl ?_
        refine g_lconst (v := 1) C dX6_sets_83 (by decide) ?_
        refine g_putL C Kf cl_X6 (qF_X6_14 hK0) (by decide) rfl rfl rfl dX6_sets_84 kf_X6_41 hf (fun σ_23 hf => ?_)
        refine g_aload_n C 0 dX6_sets_87 rfl ?_
        refine g_iload C 2 dX6_sets_88 rfl ?_
        obtain ⟨r_25, σ_26, h_24, hf⟩ := b2_some hf
        refine g_cV_i C Kf [.int x4_21] (mX6_tell hK0 X.1.2.1 σ_23 x4_21 r_25 σ_26 h_24) mi_X6_tell (qO_X6 hK0) rfl km_X6_83 ⟨rfl, rfl, by decide, by decide⟩ rfl rfl (Nat.le_of_ble_eq_true rfl) dX6_sets_90 ?_
        exact g_iretP C Kf hR dX6_sets_93 hf
      · refine g_bipush (v := (-4)) C dX6_sets_28 (by decide) ?_
        exact g_iretP C Kf hR dX6_sets_30 hf
    · refine g_iconst (v := (-1)) C dX6_sets_19 (by decide) ?_
      exact g_iretP C Kf hR dX6_sets_20 hf
abbrev rmX6_sure : Room := { frames := 2, cells := 0, slots := 0, locals := 46 }
set_option maxHeartbeats 4000000 in
set_option maxRecDepth 100000 in
theorem wL6_sure_52 {X : Gx St} {K : Kx} (hK0 : isKM K) (σ : St) (x1 : Int32) (x2 : Int32) (x3 : Int32) (r : Int32) (σ' : St) (C : gF X cX6_sure RX6 (some .int) 8 rmX6_sure) (Kf : kF X K) (hR : gR X K (some (.int r)) σ') (k : Int32 → Int32 → Int32 → Option (Int32 × St)) (Hk : ∀ (x4_10 : Int32) (x5_11 : Int32) (x6_12 : Int32), k x4_10 x5_11 x6_12 = some (r, σ') → gG X σ 92 [(0, .ref (K.2.1 0)), (3, .int x3), (4, .int x4_10), (5, .int x5_11), (6, .int x6_12)] []) : ∀ (n : Nat) (x4_6 : Int32) (x5_7 : Int32) (x6_8 : Int32) (x7_9 : Int32), L6_sure_52 σ x1 x2 x3 k n x4_6 x5_7 x6_8 x7_9 = some (r, σ') → gG X σ 52 [(0, .ref (K.2.1 0)), (1, .int x1), (2, .int x2), (3, .int x3), (4, .int x4_6), (5, .int x5_7), (6, .int x6_8), (7, .int x7_9)] [] := by
  intro n
  induction n with
  | zero => intro _ _ _ _ hf; unfold L6_sure_52 at hf; cases hf
  | succ n ih =>
  intro x4_6 x5_7 x6_8 x7_9 hf
  unfold L6_sure_52 at hf
  refine g_iload C 7 dX6_sure_52 rfl ?_
  refine g_iload_n C 3 dX6_sure_54 rfl ?_
  refine g_icmp_gt C 92 dX6_sure_55 (by decide) hf (fun hf => ?_) (fun hf => ?_)
  · refine g_cut [0, 3, 4, 5, 6] rfl ?_
    exact Hk _ _ _ hf
  · refine g_aload_n C 0 dX6_sure_58 rfl ?_
    refine g_iload C 7 dX6_sure_59 rfl ?_
    refine g_iload_n C 1 dX6_sure_61 rfl ?_
    refine g_iload_n C 2 dX6_sure_62 rfl ?_
    obtain ⟨r_14, h_13, hf⟩ := b1_some hf
    refine g_cV_i C Kf [.int x7_9, .int x1, .int x2] (mX6_comesTo hK0 X.1.2.1 σ x7_9 x1 x2 r_14 h_13) mi_X6_comesTo (qO_X6 hK0) rfl km_X6_199 ⟨rfl, rfl, by decide, by decide⟩ rfl rfl (Nat.le_of_ble_eq_true rfl) dX6_sure_63 ?_
    refine g_jn hf (fun j_18 ej_20 hf => ?_)
    have HJ_19 : ∀ (x4_15 : Int32) (x5_16 : Int32) (x6_17 : Int32), j_18 x4_15 x5_16 x6_17 = some (r, σ') → gG X σ 86 [(0, .ref (K.2.1 0)), (1, .int x1), (2, .int x2), (3, .int x3), (4, .int x4_15), (5, .int x5_16), (6, .int x6_17), (7, .int x7_9)] [] := by
      intro x4_15 x5_16 x6_17 hf
      rw [ej_20] at hf
      refine g_iinc (d := 1) C 7 (fun x7_21 => [(7, .int x7_21), (0, .ref (K.2.1 0)), (1, .int x1), (2, .int x2), (3, .int x3), (4, .int x4_15), (5, .int x5_16), (6, .int x6_17)]) dX6_sure_86 rfl (by decide) (by decide) (fun _ => rfl) hf (fun x7_21 hf => ?_)
      refine g_goto C 52 dX6_sure_89 (by decide) ?_
      refine g_cut [1, 2, 3, 4, 5, 6, 7, 0] rfl ?_
      exact ih _ _ _ _ hf
    refine g_if_eq C 86 dX6_sure_66 (by decide) hf (fun hf => ?_) (fun hf => ?_)
    · exact HJ_19 _ _ _ hf
    · refine g_iinc (d := 1) C 6 (fun x6_22 => [(6, .int x6_22), (0, .ref (K.2.1 0)), (1, .int x1), (2, .int x2), (3, .int x3), (4, .int x4_6), (5, .int x5_7), (7, .int x7_9)]) dX6_sure_69 rfl (by decide) (by decide) (fun _ => rfl) hf (fun x6_22 hf => ?_)
      refine g_iload C 5 dX6_sure_72 rfl ?_
      refine g_iload C 7 dX6_sure_74 rfl ?_
      refine g_iand C dX6_sure_76 ?_
      refine g_istoreB C (fun x4_23 => [(4, .int x4_23), (6, .int x6_22), (0, .ref (K.2.1 0)), (1, .int x1), (2, .int x2), (3, .int x3), (5, .int x5_7), (7, .int x7_9)]) dX6_sure_77 (by decide) (fun _ => rfl) hf (fun x4_23 hf => ?_)
      refine g_iload C 6 dX6_sure_79 rfl ?_
      refine g_iload C 7 dX6_sure_81 rfl ?_
      refine g_ior C dX6_sure_83 ?_
      refine g_istoreB C (fun x5_24 => [(5, .int x5_24), (4, .int x4_23), (6, .int x6_22), (0, .ref (K.2.1 0)), (1, .int x1), (2, .int x2), (3, .int x3), (7, .int x7_9)]) dX6_sure_84 (by decide) (fun _ => rfl) hf (fun x5_24 hf => ?_)
      refine g_cut [3, 4, 5, 6, 1, 0, 2, 7] rfl ?_
      exact HJ_19 _ _ _ hf
set_option maxHeartbeats 4000000 in
set_option maxRecDepth 100000 in
theorem mX6_sure {K : Kx} (hK0 : isKM K) (l : Launch) (σ : St) (x1 : Int32) (x2 : Int32)  (r : Int32) (σ' : St) (hf : f6_sure σ x1 x2 = some (r, σ')) : mC K l yX6_sure cX6_sure 8 (some .int) rmX6_sure [.ref (K.2.1 0), .int x1, .int x2] σ (some (.int r)) σ' := by
  refine g_entry (own := RX6) rfl (by decide +kernel) (Nat.le_of_ble_eq_true rfl) (fun X hX C Kf hR => ?_)
  subst hX
  unfold f6_sure at hf
  show gG X σ 0 [(0, .ref (K.2.1 0)), (1, .int x1), (2, .int x2)] []
  refine g_iload_n C 1 dX6_sure_0 rfl ?_
  obtain ⟨r_2, h_1, hf⟩ := b1_some hf
  refine g_cS_i C Kf [.int x1] (mX6_isColumn hK0 X.1.2.1 σ x1 r_2 h_1) mi_X6_isColumn km_X6_143 ⟨rfl, rfl, by decide, by decide⟩ rfl rfl (Nat.le_of_ble_eq_true rfl) dX6_sure_1 ?_
  refine g_if_eq C 19 dX6_sure_4 (by decide) hf (fun hf => ?_) (fun hf => ?_)
  · refine g_iconst (v := (-1)) C dX6_sure_19 (by decide) ?_
    exact g_iretP C Kf hR dX6_sure_20 hf
  · refine g_iload_n C 2 dX6_sure_7 rfl ?_
    refine g_i2l C dX6_sure_8 ?_
    refine g_lconst (v := 0) C dX6_sure_9 (by decide) ?_
    refine g_ldc2 (v := 54) C dX6_sure_10 kl_X6_197 ?_
    obtain ⟨r_4, h_3, hf⟩ := b1_some hf
    refine g_cS_i C Kf [.long (x2.toInt64), .long 0, .long 54] (mX6_in hK0 X.1.2.1 σ (x2.toInt64) 0 54 r_4 h_3) mi_X6_in km_X6_69 ⟨rfl, rfl, by decide, by decide⟩ rfl rfl (Nat.le_of_ble_eq_true rfl) dX6_sure_13 ?_
    refine g_if_ne C 21 dX6_sure_16 (by decide) hf (fun hf => ?_) (fun hf => ?_)
    · refine g_aload_n C 0 dX6_sure_21 rfl ?_
      refine g_getI C Kf cl_X6 (qF_X6_4 hK0) (by decide) dX6_sure_22 kf_X6_102 ?_
      refine g_if_ne C 31 dX6_sure_25 (by decide) hf (fun hf => ?_) (fun hf => ?_)
      · refine g_iconst (v := 1) C dX6_sure_31 (by decide) ?_
        refine g_aload_n C 0 dX6_sure_32 rfl ?_
        refine g_getI C Kf cl_X6 (qF_X6_4 hK0) (by decide) dX6_sure_33 kf_X6_102 ?_
        refine g_ishl C dX6_sure_36 ?_
        refine g_iconst (v := 1) C dX6_sure_37 (by decide) ?_
        refine g_isub C dX6_sure_38 ?_
        refine g_istore_nB C (fun x3_5 => [(3, .int x3_5), (0, .ref (K.2.1 0)), (1, .int x1), (2, .int x2)]) dX6_sure_39 rfl (by decide) (fun _ => rfl) hf (fun x3_5 hf => ?_)
        refine g_iload_n C 0 dX6_sure_40 rfl ?_
        refine g_istore C [(4, .int x3_5), (3, .int x3_5), (0, .ref (K.2.1 0)), (1, .int x1), (2, .int x2)] dX6_sure_41 (by decide) rfl ?_
        refine g_iconst (v := 0) C dX6_sure_43 (by decide) ?_
        refine g_istore C [(5, .int 0), (4, .int x3_5), (3, .int x3_5), (0, .ref (K.2.1 0)), (1, .int x1), (2, .int x2)] dX6_sure_44 (by decide) rfl ?_
        refine g_iconst (v := 0) C dX6_sure_46 (by decide) ?_
        refine g_istore C [(6, .int 0), (5, .int 0), (4, .int x3_5), (3, .int x3_5), (0, .ref (K.2.1 0)), (1, .int x1), (2, .int x2)] dX6_sure_47 (by decide) rfl ?_
        refine g_iconst (v := 0) C dX6_sure_49 (by decide) ?_
        refine g_istore C [(7, .int 0), (6, .int 0), (5, .int 0), (4, .int x3_5), (3, .int x3_5), (0, .ref (K.2.1 0)), (1, .int x1), (2, .int x2)] dX6_sure_50 (by decide) rfl ?_
        refine g_cut [5, 6, 7, 4, 3, 2, 1, 0] rfl ?_
        refine wL6_sure_52 hK0 σ x1 x2 x3_5 _ _ C Kf hR _ (fun x4_25 x5_26 x6_27 hf => ?_) _ _ _ _ _ hf
        refine g_iload C 4 dX6_sure_92 rfl ?_
        refine g_if_ne C 105 dX6_sure_94 (by decide) hf (fun hf => ?_) (fun hf => ?_)
        · refine g_aload_n C 0 dX6_sure_105 rfl ?_
          refine g_iload C 2 dX6_sure_106 rfl ?_
          refine g_iload_n C 1 dX6_sure_108 rfl ?_
          refine g_iload C 3 dX6_sure_109 rfl ?_
          refine g_iconst (v := (-1)) C dX6_sure_111 (by decide) ?_
          refine g_ixor C dX6_sure_112 ?_
          refine g_iand C dX6_sure_113 ?_
          obtain ⟨r_29, σ_30, h_28, hf⟩ := b2_some hf
          refine g_cV_i C Kf [.int x4_25, .int (x3_5 &&& (x5_26 ^^^ ((-1))))] (mX6_answer hK0 X.1.2.1 σ x4_25 (x3_5 &&& (x5_26 ^^^ ((-1)))) r_29 σ_30 h_28) mi_X6_answer (qO_X6 hK0) rfl km_X6_194 ⟨rfl, rfl, by decide, by decide⟩ rfl rfl (Nat.le_of_ble_eq_true rfl) dX6_sure_114 ?_
          exact g_iretP C Kf hR dX6_sure_117 hf
        · refine g_aload_n C 0 dX6_sure_97 rfl ?_
          refine g_iconst (v := 4) C dX6_sure_98 (by decide) ?_
          obtain ⟨r_32, σ_33, h_31, hf⟩ := b2_some hf
          refine g_cV_i C Kf [.int 4] (mX6_found hK0 X.1.2.1 σ 4 r_32 σ_33 h_31) mi_X6_found (qO_X6 hK0) rfl km_X6_79 ⟨rfl, rfl, by decide, by decide⟩ rfl rfl (Nat.le_of_ble_eq_true rfl) dX6_sure_99 ?_
          refine g_goto C 117 dX6_sure_102 (by decide) ?_
          exact g_iretP C Kf hR dX6_sure_117 hf
      · refine g_bipush (v := (-4)) C dX6_sure_28 (by decide) ?_
        exact g_iretP C Kf hR dX6_sure_30 hf
    · refine g_iconst (v := (-1)) C dX6_sure_19 (by decide) ?_
      exact g_iretP C Kf hR dX6_sure_20 hf
abbrev rmX6_tear : Room := { frames := 2, cells := 0, slots := 0, locals := 45 }
set_option maxHeartbeats 4000000 in
set_option maxRecDepth 100000 in
theorem mX6_tear {K : Kx} (hK0 : isKM K) (l : Launch) (σ : St) (x1 : Int32)  (r : Int32) (σ' : St) (hf : f6_tear σ x1 = some (r, σ')) : mC K l yX6_tear cX6_tear 2 (some .int) rmX6_tear [.ref (K.2.1 0), .int x1] σ (some (.int r)) σ' := by
  refine g_entry (own := RX6) rfl (by decide +kernel) (Nat.le_of_ble_eq_true rfl) (fun X hX C Kf hR => ?_)
  subst hX
  unfold f6_tear at hf
  show gG X σ 0 [(0, .ref (K.2.1 0)), (1, .int x1)] []
  refine g_iload_n C 1 dX6_tear_0 rfl ?_
  obtain ⟨r_2, h_1, hf⟩ := b1_some hf
  refine g_cS_i C Kf [.int x1] (mX6_isRow hK0 X.1.2.1 σ x1 r_2 h_1) mi_X6_isRow km_X6_75 ⟨rfl, rfl, by decide, by decide⟩ rfl rfl (Nat.le_of_ble_eq_true rfl) dX6_tear_1 ?_
  refine g_if_ne C 9 dX6_tear_4 (by decide) hf (fun hf => ?_) (fun hf => ?_)
  · refine g_aload_n C 0 dX6_tear_9 rfl ?_
    refine g_getR C Kf cl_X6 (qF_X6_0 hK0) (by decide) dX6_tear_10 kf_X6_7 ?_
    refine g_iload_n C 1 dX6_tear_13 rfl ?_
    refine g_iald C Kf (qAM_1 hK0) dX6_tear_14 hf (fun hf => ?_)
    refine g_if_ge C 24 dX6_tear_15 (by decide) hf (fun hf => ?_) (fun hf => ?_)
    · refine g_aload_n C 0 dX6_tear_24 rfl ?_
      refine g_getR C Kf cl_X6 (qF_X6_0 hK0) (by decide) dX6_tear_25 kf_X6_7 ?_
      refine g_iload_n C 1 dX6_tear_28 rfl ?_
      refine g_iconst (v := (-1)) C dX6_tear_29 (by decide) ?_
      refine g_iast C Kf (qAM_1 hK0) dX6_tear_30 hf (fun σ_3 hf => ?_)
      refine g_iconst (v := 1) C dX6_tear_31 (by decide) ?_
      exact g_iretP C Kf hR dX6_tear_32 hf
    · refine g_aload_n C 0 dX6_tear_18 rfl ?_
      refine g_iconst (v := 1) C dX6_tear_19 (by decide) ?_
      obtain ⟨r_5, σ_6, h_4, hf⟩ := b2_some hf
      refine g_cV_i C Kf [.int 1] (mX6_found hK0 X.1.2.1 σ 1 r_5 σ_6 h_4) mi_X6_found (qO_X6 hK0) rfl km_X6_79 ⟨rfl, rfl, by decide, by decide⟩ rfl rfl (Nat.le_of_ble_eq_true rfl) dX6_tear_20 ?_
      exact g_iretP C Kf hR dX6_tear_23 hf
  · refine g_iconst (v := (-1)) C dX6_tear_7 (by decide) ?_
    exact g_iretP C Kf hR dX6_tear_8 hf
abbrev rmX6_text : Room := { frames := 2, cells := 0, slots := 0, locals := 45 }
set_option maxHeartbeats 4000000 in
set_option maxRecDepth 100000 in
theorem wL6_text_34 {X : Gx St} {K : Kx} (hK0 : isKM K) (σ : St) (x1 : Int32) (x2 : Int32) (r : Int32) (σ' : St) (C : gF X cX6_text RX6 (some .int) 4 rmX6_text) (Kf : kF X K) (hR : gR X K (some (.int r)) σ') (k : St → Option (Int32 × St)) (Hk : ∀ (σ_8 : St), k σ_8 = some (r, σ') → gG X σ_8 59 [(2, .int x2)] []) : ∀ (n : Nat) (x3_4 : Int32) (σ_5 : St), L6_text_34 x1 x2 k n x3_4 σ_5 = some (r, σ') → gG X σ_5 34 [(0, .ref (K.2.1 0)), (1, .int x1), (2, .int x2), (3, .int x3_4)] [] := by
  intro n
  induction n with
  | zero => intro _ _ hf; unfold L6_text_34 at hf; cases hf
  | succ n ih =>
  intro x3_4 σ_5 hf
  unfold L6_text_34 at hf
  refine g_iload_n C 3 dX6_text_34 rfl ?_
  refine g_bipush (v := 60) C dX6_text_35 (by decide) ?_
  refine g_icmp_ge C 59 dX6_text_37 (by decide) hf (fun hf => ?_) (fun hf => ?_)
  · refine g_cut [2] rfl ?_
    exact Hk _ hf
  · refine g_aload_n C 0 dX6_text_40 rfl ?_
    refine g_getR C Kf cl_X6 (qF_X6_3 hK0) (by decide) dX6_text_41 kf_X6_19 ?_
    refine g_bipush (v := 60) C dX6_text_44 (by decide) ?_
    refine g_iload_n C 1 dX6_text_46 rfl ?_
    refine g_imul C dX6_text_47 ?_
    refine g_iload_n C 3 dX6_text_48 rfl ?_
    refine g_iadd C dX6_text_49 ?_
    refine g_bipush (v := 32) C dX6_text_50 (by decide) ?_
    refine g_iast C Kf (qAM_4 hK0) dX6_text_52 hf (fun σ_6 hf => ?_)
    refine g_iinc (d := 1) C 3 (fun x3_7 => [(3, .int x3_7), (0, .ref (K.2.1 0)), (1, .int x1), (2, .int x2)]) dX6_text_53 rfl (by decide) (by decide) (fun _ => rfl) hf (fun x3_7 hf => ?_)
    refine g_goto C 34 dX6_text_56 (by decide) ?_
    refine g_cut [1, 2, 3, 0] rfl ?_
    exact ih _ _ hf
set_option maxHeartbeats 4000000 in
set_option maxRecDepth 100000 in
theorem mX6_text {K : Kx} (hK0 : isKM K) (l : Launch) (σ : St) (x1 : Int32) (x2 : Int32)  (r : Int32) (σ' : St) (hf : f6_text σ x1 x2 = some (r, σ')) : mC K l yX6_text cX6_text 4 (some .int) rmX6_text [.ref (K.2.1 0), .int x1, .int x2] σ (some (.int r)) σ' := by
  refine g_entry (own := RX6) rfl (by decide +kernel) (Nat.le_of_ble_eq_true rfl) (fun X hX C Kf hR => ?_)
  subst hX
  unfold f6_text at hf
  show gG X σ 0 [(0, .ref (K.2.1 0)), (1, .int x1), (2, .int x2)] []
  refine g_iload_n C 1 dX6_text_0 rfl ?_
  obtain ⟨r_2, h_1, hf⟩ := b1_some hf
  refine g_cS_i C Kf [.int x1] (mX6_isText hK0 X.1.2.1 σ x1 r_2 h_1) mi_X6_isText km_X6_86 ⟨rfl, rfl, by decide, by decide⟩ rfl rfl (Nat.le_of_ble_eq_true rfl) dX6_text_1 ?_
  refine g_if_eq C 13 dX6_text_4 (by decide) hf (fun hf => ?_) (fun hf => ?_)
  · refine g_iconst (v := (-1)) C dX6_text_13 (by decide) ?_
    exact g_iretP C Kf hR dX6_text_14 hf
  · refine g_iload_n C 2 dX6_text_7 rfl ?_
    refine g_bipush (v := 60) C dX6_text_8 (by decide) ?_
    refine g_icmp_le C 15 dX6_text_10 (by decide) hf (fun hf => ?_) (fun hf => ?_)
    · refine g_iload_n C 2 dX6_text_15 rfl ?_
      refine g_if_ge C 25 dX6_text_16 (by decide) hf (fun hf => ?_) (fun hf => ?_)
      · refine g_aload_n C 0 dX6_text_25 rfl ?_
        refine g_getR C Kf cl_X6 (qF_X6_2 hK0) (by decide) dX6_text_26 kf_X6_16 ?_
        refine g_iload_n C 1 dX6_text_29 rfl ?_
        refine g_iload_n C 2 dX6_text_30 rfl ?_
        refine g_iast C Kf (qAM_3 hK0) dX6_text_31 hf (fun σ_3 hf => ?_)
        refine g_iconst (v := 0) C dX6_text_32 (by decide) ?_
        refine g_istore_n C [(3, .int 0), (0, .ref (K.2.1 0)), (1, .int x1), (2, .int x2)] dX6_text_33 rfl (by decide) rfl ?_
        refine g_cut [1, 2, 3, 0] rfl ?_
        refine wL6_text_34 hK0 σ_3 x1 x2 _ _ C Kf hR _ (fun σ_9 hf => ?_) _ _ _ hf
        refine g_iload_n C 0 dX6_text_59 rfl ?_
        exact g_iretP C Kf hR dX6_text_60 hf
      · refine g_aload_n C 0 dX6_text_19 rfl ?_
        refine g_iconst (v := 5) C dX6_text_20 (by decide) ?_
        obtain ⟨r_11, σ_12, h_10, hf⟩ := b2_some hf
        refine g_cV_i C Kf [.int 5] (mX6_found hK0 X.1.2.1 σ 5 r_11 σ_12 h_10) mi_X6_found (qO_X6 hK0) rfl km_X6_79 ⟨rfl, rfl, by decide, by decide⟩ rfl rfl (Nat.le_of_ble_eq_true rfl) dX6_text_21 ?_
        exact g_iretP C Kf hR dX6_text_24 hf
    · refine g_iconst (v := (-1)) C dX6_text_13 (by decide) ?_
      exact g_iretP C Kf hR dX6_text_14 hf
abbrev rmX6_turn : Room := { frames := 2, cells := 0, slots := 0, locals := 46 }
set_option maxHeartbeats 4000000 in
set_option maxRecDepth 100000 in
theorem mX6_turn {K : Kx} (hK0 : isKM K) (l : Launch) (σ : St)   (r : Int32) (σ' : St) (hf : f6_turn σ = some (r, σ')) : mC K l yX6_turn cX6_turn 1 (some .int) rmX6_turn [.ref (K.2.1 0)] σ (some (.int r)) σ' := by
  refine g_entry (own := RX6) rfl (by decide +kernel) (Nat.le_of_ble_eq_true rfl) (fun X hX C Kf hR => ?_)
  subst hX
  unfold f6_turn at hf
  show gG X σ 0 [(0, .ref (K.2.1 0))] []
  refine g_aload_n C 0 dX6_turn_0 rfl ?_
  refine g_getI C Kf cl_X6 (qF_X6_4 hK0) (by decide) dX6_turn_1 kf_X6_102 ?_
  refine g_if_ne C 10 dX6_turn_4 (by decide) hf (fun hf => ?_) (fun hf => ?_)
  · refine g_aload_n C 0 dX6_turn_10 rfl ?_
    refine g_getI C Kf cl_X6 (qF_X6_9 hK0) (by decide) dX6_turn_11 kf_X6_109 ?_
    refine g_bipush (v := 40) C dX6_turn_14 (by decide) ?_
    refine g_icmp_ne C 22 dX6_turn_16 (by decide) hf (fun hf => ?_) (fun hf => ?_)
    · refine g_aload_n C 0 dX6_turn_22 rfl ?_
      obtain ⟨σ_2, h_1, hf⟩ := b1_some hf
      refine g_cV_v C Kf [] (mX6_remembers hK0 X.1.2.1 σ σ_2 h_1) mi_X6_remembers (qO_X6 hK0) rfl km_X6_146 ⟨rfl, rfl, by decide, by decide⟩ rfl rfl (Nat.le_of_ble_eq_true rfl) dX6_turn_23 ?_
      refine g_aload_n C 0 dX6_turn_26 rfl ?_
      obtain ⟨σ_4, h_3, hf⟩ := b1_some hf
      refine g_cV_v C Kf [] (mX6_turns hK0 X.1.2.1 σ_2 σ_4 h_3) mi_X6_turns (qO_X6 hK0) rfl km_X6_153 ⟨rfl, rfl, by decide, by decide⟩ rfl rfl (Nat.le_of_ble_eq_true rfl) dX6_turn_27 ?_
      refine g_aload_n C 0 dX6_turn_30 rfl ?_
      refine g_getR C Kf cl_X6 (qF_X6_6 hK0) (by decide) dX6_turn_31 kf_X6_25 ?_
      refine g_iconst (v := 0) C dX6_turn_34 (by decide) ?_
      refine g_ialdL C Kf 0 (by decide) (by unfold vp_in; decide) (qAM_6 hK0) dX6_turn_35 ?_
      exact g_iretP C Kf hR dX6_turn_36 hf
    · refine g_bipush (v := (-2)) C dX6_turn_19 (by decide) ?_
      exact g_iretP C Kf hR dX6_turn_21 hf
  · refine g_bipush (v := (-4)) C dX6_turn_7 (by decide) ?_
    exact g_iretP C Kf hR dX6_turn_9 hf
abbrev rmX6_undo : Room := { frames := 1, cells := 0, slots := 0, locals := 25 }
set_option maxHeartbeats 4000000 in
set_option maxRecDepth 100000 in
theorem mX6_undo {K : Kx} (hK0 : isKM K) (l : Launch) (σ : St) (x1 : Int32)  (r : Int32) (σ' : St) (hf : f6_undo σ x1 = some (r, σ')) : mC K l yX6_undo cX6_undo 3 (some .int) rmX6_undo [.ref (K.2.1 0), .int x1] σ (some (.int r)) σ' := by
  refine g_entry (own := RX6) rfl (by decide +kernel) (Nat.le_of_ble_eq_true rfl) (fun X hX C Kf hR => ?_)
  subst hX
  unfold f6_undo at hf
  show gG X σ 0 [(0, .ref (K.2.1 0)), (1, .int x1)] []
  refine g_iload_n C 1 dX6_undo_0 rfl ?_
  refine g_i2l C dX6_undo_1 ?_
  refine g_lconst (v := 0) C dX6_undo_2 (by decide) ?_
  refine g_aload_n C 0 dX6_undo_3 rfl ?_
  refine g_getI C Kf cl_X6 (qF_X6_9 hK0) (by decide) dX6_undo_4 kf_X6_109 ?_
  refine g_i2l C dX6_undo_7 ?_
  obtain ⟨r_2, h_1, hf⟩ := b1_some hf
  refine g_cS_i C Kf [.long (x1.toInt64), .long 0, .long ((σ.1 0 9).toInt64)] (mX6_in hK0 X.1.2.1 σ (x1.toInt64) 0 ((σ.1 0 9).toInt64) r_2 h_1) mi_X6_in km_X6_69 ⟨rfl, rfl, by decide, by decide⟩ rfl rfl (Nat.le_of_ble_eq_true rfl) dX6_undo_8 ?_
  refine g_if_ne C 16 dX6_undo_11 (by decide) hf (fun hf => ?_) (fun hf => ?_)
  · refine g_aload_n C 0 dX6_undo_16 rfl ?_
    refine g_getI C Kf cl_X6 (qF_X6_9 hK0) (by decide) dX6_undo_17 kf_X6_109 ?_
    refine g_iload_n C 1 dX6_undo_20 rfl ?_
    refine g_isub C dX6_undo_21 ?_
    refine g_istore_nB C (fun x2_3 => [(2, .int x2_3), (0, .ref (K.2.1 0)), (1, .int x1)]) dX6_undo_22 rfl (by decide) (fun _ => rfl) hf (fun x2_3 hf => ?_)
    refine g_iload_n C 0 dX6_undo_23 rfl ?_
    refine g_jn hf (fun j_5 ej_7 hf => ?_)
    have HJ_6 : ∀ (σ_4 : St), j_5 σ_4 = some (r, σ') → gG X σ_4 45 [(0, .ref (K.2.1 0)), (1, .int x1), (2, .int x2_3)] [] := by
      intro σ_4 hf
      rw [ej_7] at hf
      refine g_aload_n C 0 dX6_undo_45 rfl ?_
      refine g_iload_n C 1 dX6_undo_46 rfl ?_
      refine g_putI C Kf cl_X6 (qF_X6_9 hK0) (by decide) rfl rfl rfl dX6_undo_47 kf_X6_109 hf (fun σ_8 hf => ?_)
      refine g_iload_n C 2 dX6_undo_50 rfl ?_
      exact g_iretP C Kf hR dX6_undo_51 hf
    refine g_if_le C 45 dX6_undo_24 (by decide) hf (fun hf => ?_) (fun hf => ?_)
    · refine g_cut [1, 2, 0] rfl ?_
      exact HJ_6 _ hf
    · refine g_aload_n C 1 dX6_undo_27 rfl ?_
      refine g_getR C Kf cl_X6 (qF_X6_8 hK0) (by decide) dX6_undo_28 kf_X6_31 ?_
      refine g_bipush (v := 25) C dX6_undo_31 (by decide) ?_
      refine g_iload_n C 2 dX6_undo_33 rfl ?_
      refine g_imul C dX6_undo_34 ?_
      refine g_aload_n C 1 dX6_undo_35 rfl ?_
      refine g_getR C Kf cl_X6 (qF_X6_6 hK0) (by decide) dX6_undo_36 kf_X6_25 ?_
      refine g_iconst (v := 0) C dX6_undo_39 (by decide) ?_
      refine g_bipush (v := 25) C dX6_undo_40 (by decide) ?_
      obtain ⟨σ_10, h_9, hf⟩ := b1_some hf
      refine g_cS_v C Kf [.ref (K.2.1 8), .int (25 * x1), .ref (K.2.1 6), .int 0, .int 25] (mX6_copies hK0 X.1.2.1 σ 8 (25 * x1) 6 0 25 (by decide) (by decide) σ_10 h_9) mi_X6_copies km_X6_105 ⟨rfl, rfl, by decide, by decide⟩ rfl rfl (Nat.le_of_ble_eq_true rfl) dX6_undo_42 ?_
      refine g_cut [1, 2, 0] rfl ?_
      exact HJ_6 _ hf
  · refine g_iconst (v := (-1)) C dX6_undo_14 (by decide) ?_
    exact g_iretP C Kf hR dX6_undo_15 hf
abbrev rmX6_upper : Room := { frames := 0, cells := 0, slots := 0, locals := 0 }
set_option maxHeartbeats 4000000 in
set_option maxRecDepth 100000 in
theorem mX6_upper {K : Kx} (hK0 : isKM K) (l : Launch) (σ : St)   (r : Int64) (hf : f6_upper σ = some r) : mC K l yX6_upper cX6_upper 1 (some .long) rmX6_upper [.ref (K.2.1 0)] σ (some (.long r)) σ := by
  refine g_entry (own := RX6) rfl (by decide +kernel) (Nat.le_of_ble_eq_true rfl) (fun X hX C Kf hR => ?_)
  subst hX
  unfold f6_upper at hf
  show gG X σ 0 [(0, .ref (K.2.1 0))] []
  refine g_aload_n C 0 dX6_upper_0 rfl ?_
  refine g_getL C Kf cl_X6 (qF_X6_13 hK0) (by decide) dX6_upper_1 kf_X6_202 ?_
  exact g_lretR C Kf hR dX6_upper_4 hf
