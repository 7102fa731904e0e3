abbrev rmX6_firstRow : Room := { frames := 5, cells := 0, slots := 0, locals := 121 }
set_option maxHeartbeats 4000000 in
set_option maxRecDepth 100000 in
theorem wL6_firstRow_33 {X : Gx St} {K : Kx} (hK0 : isKM K) (σ : St) (x1 : Int32) (x2 : Int32) (x3 : Int32) (x4 : Int32) (x5 : Int32) (x6 : Int32) (r : Int32) (σ' : St) (C : gF X cX6_firstRow RX6 (some .int) 9 rmX6_firstRow) (Kf : kF X K) (hR : gR X K (some (.int r)) σ') (k : St → Option (Int32 × St)) (Hk : ∀ (σ_14 : St), k σ_14 = some (r, σ') → gG X σ_14 62 [(0, .ref (K.2.1 0)), (1, .int x1), (2, .int x2), (3, .int x3), (4, .int x4), (5, .int x5), (6, .int x6)] []) : ∀ (n : Nat) (x7_9 : Int32) (σ_10 : St), L6_firstRow_33 x1 x2 x3 x4 x5 x6 k n x7_9 σ_10 = some (r, σ') → gG X σ_10 33 [(0, .ref (K.2.1 0)), (1, .int x1), (2, .int x2), (3, .int x3), (4, .int x4), (5, .int x5), (6, .int x6), (7, .int x7_9)] [] := by
  intro n
  induction n with
  | zero => intro _ _ hf; unfold L6_firstRow_33 at hf; cases hf
  | succ n ih =>
  intro x7_9 σ_10 hf
  unfold L6_firstRow_33 at hf
  refine g_iload C 7 dX6_firstRow_33 rfl ?_
  refine g_if_le C 62 dX6_firstRow_35 (by decide) hf (fun hf => ?_) (fun hf => ?_)
  · refine g_cut [0, 1, 2, 3, 4, 5, 6] rfl ?_
    exact Hk _ hf
  · refine g_aload_n C 0 dX6_firstRow_38 rfl ?_
    refine g_aload_n C 0 dX6_firstRow_39 rfl ?_
    refine g_getR C Kf cl_X6 (qF_X6_7 hK0) (by decide) dX6_firstRow_40 kf_X6_28 ?_
    refine g_iload C 6 dX6_firstRow_43 rfl ?_
    refine g_iload C 7 dX6_firstRow_45 rfl ?_
    refine g_idiv C dX6_firstRow_47 hf (fun hf => ?_)
    refine g_iconst (v := 3) C dX6_firstRow_48 (by decide) ?_
    refine g_irem0 C dX6_firstRow_49 (by decide) ?_
    obtain ⟨σ_12, h_11, hf⟩ := b1_some hf
    refine g_cV_v C Kf [.ref (K.2.1 7), .int ((x6 / x7_9) - (x6 / x7_9) / 3 * 3)] (mX6_passes hK0 X.1.2.1 σ_10 7 ((x6 / x7_9) - (x6 / x7_9) / 3 * 3) (by decide) σ_12 h_11) mi_X6_passes (qO_X6 hK0) rfl km_X6_149 ⟨rfl, rfl, by decide, by decide⟩ rfl rfl (Nat.le_of_ble_eq_true rfl) dX6_firstRow_50 ?_
    refine g_iload C 7 dX6_firstRow_53 rfl ?_
    refine g_iconst (v := 3) C dX6_firstRow_55 (by decide) ?_
    refine g_idiv0 C dX6_firstRow_56 (by decide) ?_
    refine g_istoreB C (fun x7_13 => [(7, .int x7_13), (0, .ref (K.2.1 0)), (1, .int x1), (2, .int x2), (3, .int x3), (4, .int x4), (5, .int x5), (6, .int x6)]) dX6_firstRow_57 (by decide) (fun _ => rfl) hf (fun x7_13 hf => ?_)
    refine g_goto C 33 dX6_firstRow_59 (by decide) ?_
    refine g_cut [1, 2, 3, 4, 5, 6, 7, 0] rfl ?_
    exact ih _ _ hf
set_option maxHeartbeats 4000000 in
set_option maxRecDepth 100000 in
theorem wL6_firstRow_110 {X : Gx St} {K : Kx} (hK0 : isKM K) (σ : St) (x3 : Int32) (x5 : Int32) (r : Int32) (σ' : St) (C : gF X cX6_firstRow RX6 (some .int) 9 rmX6_firstRow) (Kf : kF X K) (hR : gR X K (some (.int r)) σ') (k : St → Option (Int32 × St)) (Hk : ∀ (σ_32 : St), k σ_32 = some (r, σ') → gG X σ_32 143 [(5, .int x5)] []) : ∀ (n : Nat) (x7_26 : Int32) (x8_27 : Int32) (σ_28 : St), L6_firstRow_110 x3 x5 k n x7_26 x8_27 σ_28 = some (r, σ') → gG X σ_28 110 [(0, .ref (K.2.1 0)), (3, .int x3), (5, .int x5), (7, .int x7_26), (8, .int x8_27)] [] := by
  intro n
  induction n with
  | zero => intro _ _ _ hf; unfold L6_firstRow_110 at hf; cases hf
  | succ n ih =>
  intro x7_26 x8_27 σ_28 hf
  unfold L6_firstRow_110 at hf
  refine g_iload C 4 dX6_firstRow_110 rfl ?_
  refine g_if_lt C 143 dX6_firstRow_112 (by decide) hf (fun hf => ?_) (fun hf => ?_)
  · refine g_cut [2] rfl ?_
    exact Hk _ hf
  · refine g_aload_n C 0 dX6_firstRow_115 rfl ?_
    refine g_getR C Kf cl_X6 (qF_X6_1 hK0) (by decide) dX6_firstRow_116 kf_X6_13 ?_
    refine g_bipush (v := 40) C dX6_firstRow_119 (by decide) ?_
    refine g_iload_n C 1 dX6_firstRow_121 rfl ?_
    refine g_imul C dX6_firstRow_122 ?_
    refine g_iload C 4 dX6_firstRow_123 rfl ?_
    refine g_iadd C dX6_firstRow_125 ?_
    refine g_iload C 3 dX6_firstRow_126 rfl ?_
    refine g_iconst (v := 3) C dX6_firstRow_128 (by decide) ?_
    refine g_irem0 C dX6_firstRow_129 (by decide) ?_
    refine g_iast C Kf (qAM_2 hK0) dX6_firstRow_130 hf (fun σ_29 hf => ?_)
    refine g_iload C 3 dX6_firstRow_131 rfl ?_
    refine g_iconst (v := 3) C dX6_firstRow_133 (by decide) ?_
    refine g_idiv0 C dX6_firstRow_134 (by decide) ?_
    refine g_istoreB C (fun x7_30 => [(7, .int x7_30), (0, .ref (K.2.1 0)), (3, .int x3), (5, .int x5), (8, .int x8_27)]) dX6_firstRow_135 (by decide) (fun _ => rfl) hf (fun x7_30 hf => ?_)
    refine g_iinc (d := (-1)) C 4 (fun x8_31 => [(8, .int x8_31), (7, .int x7_30), (0, .ref (K.2.1 0)), (3, .int x3), (5, .int x5)]) dX6_firstRow_137 rfl (by decide) (by decide) (fun _ => rfl) hf (fun x8_31 hf => ?_)
    refine g_goto C 110 dX6_firstRow_140 (by decide) ?_
    refine g_cut [2, 3, 4, 1, 0] rfl ?_
    exact ih _ _ _ hf
set_option maxHeartbeats 4000000 in
set_option maxRecDepth 100000 in
theorem wL6_firstRow_16 {X : Gx St} {K : Kx} (hK0 : isKM K) (σ : St) (x1 : Int32) (x2 : Int32) (x3 : Int32) (x4 : Int32) (x5 : Int32) (r : Int32) (σ' : St) (C : gF X cX6_firstRow RX6 (some .int) 9 rmX6_firstRow) (Kf : kF X K) (hR : gR X K (some (.int r)) σ') (k : St → Option (Int32 × St)) (Hk : ∀ (σ_36 : St), k σ_36 = some (r, σ') → gG X σ_36 152 [(0, .ref (K.2.1 0)), (1, .int x1), (2, .int x2), (3, .int x3), (4, .int x4), (5, .int x5)] []) : ∀ (n : Nat) (x6_4 : Int32) (σ_5 : St), L6_firstRow_16 x1 x2 x3 x4 x5 k n x6_4 σ_5 = some (r, σ') → gG X σ_5 16 [(0, .ref (K.2.1 0)), (1, .int x1), (2, .int x2), (3, .int x3), (4, .int x4), (5, .int x5), (6, .int x6_4)] [] := by
  intro n
  induction n with
  | zero => intro _ _ hf; unfold L6_firstRow_16 at hf; cases hf
  | succ n ih =>
  intro x6_4 σ_5 hf
  unfold L6_firstRow_16 at hf
  refine g_iload C 6 dX6_firstRow_16 rfl ?_
  refine g_iload C 4 dX6_firstRow_18 rfl ?_
  refine g_icmp_ge C 152 dX6_firstRow_20 (by decide) hf (fun hf => ?_) (fun hf => ?_)
  · refine g_cut [0, 1, 2, 3, 4, 5] rfl ?_
    exact Hk _ hf
  · refine g_aload_n C 0 dX6_firstRow_23 rfl ?_
    obtain ⟨σ_7, h_6, hf⟩ := b1_some hf
    refine g_cV_v C Kf [] (mX6_laysAside hK0 X.1.2.1 σ_5 σ_7 h_6) mi_X6_laysAside (qO_X6 hK0) rfl km_X6_167 ⟨rfl, rfl, by decide, by decide⟩ rfl rfl (Nat.le_of_ble_eq_true rfl) dX6_firstRow_24 ?_
    refine g_iload C 4 dX6_firstRow_27 rfl ?_
    refine g_iconst (v := 3) C dX6_firstRow_29 (by decide) ?_
    refine g_idiv0 C dX6_firstRow_30 (by decide) ?_
    refine g_istoreB C (fun x7_8 => [(7, .int x7_8), (0, .ref (K.2.1 0)), (1, .int x1), (2, .int x2), (3, .int x3), (4, .int x4), (5, .int x5), (6, .int x6_4)]) dX6_firstRow_31 (by decide) (fun _ => rfl) hf (fun x7_8 hf => ?_)
    refine g_cut [1, 2, 3, 4, 5, 6, 7, 0] rfl ?_
    refine wL6_firstRow_33 hK0 σ_7 x1 x2 x3 x4 x5 x6_4 _ _ C Kf hR _ (fun σ_15 hf => ?_) _ _ _ hf
    refine g_iload_n C 1 dX6_firstRow_62 rfl ?_
    refine g_bipush (v := (-9)) C dX6_firstRow_63 (by decide) ?_
    refine g_jn hf (fun j_16 ej_18 hf => ?_)
    have HJ_17 : j_16 = some (r, σ') → gG X σ_15 146 [(0, .ref (K.2.1 0)), (1, .int x1), (2, .int x2), (3, .int x3), (4, .int x4), (5, .int x5), (6, .int x6_4)] [] := by
      intro hf
      rw [ej_18] at hf
      refine g_iinc (d := 1) C 6 (fun x6_19 => [(6, .int x6_19), (0, .ref (K.2.1 0)), (1, .int x1), (2, .int x2), (3, .int x3), (4, .int x4), (5, .int x5)]) dX6_firstRow_146 rfl (by decide) (by decide) (fun _ => rfl) hf (fun x6_19 hf => ?_)
      refine g_goto C 16 dX6_firstRow_149 (by decide) ?_
      refine g_cut [1, 2, 3, 4, 5, 6, 0] rfl ?_
      exact ih _ _ hf
    refine g_jn hf (fun j_20 ej_22 hf => ?_)
    have HJ_21 : j_20 = some (r, σ') → gG X σ_15 93 [(0, .ref (K.2.1 0)), (3, .int x3), (5, .int x5), (6, .int x6_4)] [] := by
      intro hf
      rw [ej_22] at hf
      refine g_aload_n C 0 dX6_firstRow_93 rfl ?_
      refine g_iload_n C 1 dX6_firstRow_94 rfl ?_
      refine g_iload C 2 dX6_firstRow_95 rfl ?_
      obtain ⟨σ_24, h_23, hf⟩ := b1_some hf
      refine g_cV_v C Kf [.int x3, .int x5] (mX6_lays hK0 X.1.2.1 σ_15 x3 x5 σ_24 h_23) mi_X6_lays (qO_X6 hK0) rfl km_X6_170 ⟨rfl, rfl, by decide, by decide⟩ rfl rfl (Nat.le_of_ble_eq_true rfl) dX6_firstRow_97 ?_
      refine g_iload C 3 dX6_firstRow_100 rfl ?_
      refine g_istore C [(7, .int x6_4), (0, .ref (K.2.1 0)), (3, .int x3), (5, .int x5), (6, .int x6_4)] dX6_firstRow_102 (by decide) rfl ?_
      refine g_iload C 3 dX6_firstRow_104 rfl ?_
      refine g_iconst (v := 1) C dX6_firstRow_106 (by decide) ?_
      refine g_isub C dX6_firstRow_107 ?_
      refine g_istoreB C (fun x8_25 => [(8, .int x8_25), (7, .int x6_4), (0, .ref (K.2.1 0)), (3, .int x3), (5, .int x5), (6, .int x6_4)]) dX6_firstRow_108 (by decide) (fun _ => rfl) hf (fun x8_25 hf => ?_)
      refine g_cut [2, 3, 4, 1, 0] rfl ?_
      refine wL6_firstRow_110 hK0 σ_24 x3 x5 _ _ C Kf hR _ (fun σ_33 hf => ?_) _ _ _ _ hf
      refine g_iload C 0 dX6_firstRow_143 rfl ?_
      exact g_iretP C Kf hR dX6_firstRow_145 hf
    refine g_icmp_ne C 83 dX6_firstRow_65 (by decide) hf (fun hf => ?_) (fun hf => ?_)
    · refine g_aload_n C 0 dX6_firstRow_83 rfl ?_
      refine g_getR C Kf cl_X6 (qF_X6_7 hK0) (by decide) dX6_firstRow_84 kf_X6_28 ?_
      refine g_iload_n C 2 dX6_firstRow_87 rfl ?_
      refine g_iald C Kf (qAM_7 hK0) dX6_firstRow_88 hf (fun hf => ?_)
      refine g_iload_n C 1 dX6_firstRow_89 rfl ?_
      refine g_icmp_ne C 146 dX6_firstRow_90 (by decide) hf (fun hf => ?_) (fun hf => ?_)
      · exact HJ_17 hf
      · refine g_cut [0, 3, 5, 6] rfl ?_
        exact HJ_21 hf
    · refine g_aload_n C 0 dX6_firstRow_68 rfl ?_
      refine g_aload_n C 0 dX6_firstRow_69 rfl ?_
      refine g_getR C Kf cl_X6 (qF_X6_7 hK0) (by decide) dX6_firstRow_70 kf_X6_28 ?_
      refine g_iload_n C 2 dX6_firstRow_73 rfl ?_
      obtain ⟨r_35, h_34, hf⟩ := b1_some hf
      refine g_cV_i C Kf [.ref (K.2.1 7), .int x2] (mX6_isOrdered hK0 X.1.2.1 σ_15 7 x2 (by decide) r_35 h_34) mi_X6_isOrdered (qO_X6 hK0) rfl km_X6_174 ⟨rfl, rfl, by decide, by decide⟩ rfl rfl (Nat.le_of_ble_eq_true rfl) dX6_firstRow_74 ?_
      refine g_if_eq C 146 dX6_firstRow_77 (by decide) hf (fun hf => ?_) (fun hf => ?_)
      · exact HJ_17 hf
      · refine g_goto C 93 dX6_firstRow_80 (by decide) ?_
        refine g_cut [0, 3, 5, 6] rfl ?_
        exact HJ_21 hf
set_option maxHeartbeats 4000000 in
set_option maxRecDepth 100000 in
theorem wL6_firstRow_6 {X : Gx St} {K : Kx} (hK0 : isKM K) (σ : St) (x1 : Int32) (x2 : Int32) (x3 : Int32) (r : Int32) (σ' : St) (C : gF X cX6_firstRow RX6 (some .int) 9 rmX6_firstRow) (Kf : kF X K) (hR : gR X K (some (.int r)) σ') (k : St → Option (Int32 × St)) (Hk : ∀ (σ_40 : St), k σ_40 = some (r, σ') → gG X σ_40 164 [] []) : ∀ (n : Nat) (x4_1 : Int32) (x5_2 : Int32) (σ_3 : St), L6_firstRow_6 x1 x2 x3 k n x4_1 x5_2 σ_3 = some (r, σ') → gG X σ_3 6 [(0, .ref (K.2.1 0)), (1, .int x1), (2, .int x2), (3, .int x3), (4, .int x4_1), (5, .int x5_2)] [] := by
  intro n
  induction n with
  | zero => intro _ _ _ hf; unfold L6_firstRow_6 at hf; cases hf
  | succ n ih =>
  intro x4_1 x5_2 σ_3 hf
  unfold L6_firstRow_6 at hf
  refine g_iload C 5 dX6_firstRow_6 rfl ?_
  refine g_bipush (v := 6) C dX6_firstRow_8 (by decide) ?_
  refine g_icmp_ge C 164 dX6_firstRow_10 (by decide) hf (fun hf => ?_) (fun hf => ?_)
  · refine g_cut [] rfl ?_
    exact Hk _ hf
  · refine g_iconst (v := 0) C dX6_firstRow_13 (by decide) ?_
    refine g_istore C [(6, .int 0), (0, .ref (K.2.1 0)), (1, .int x1), (2, .int x2), (3, .int x3), (4, .int x4_1), (5, .int x5_2)] dX6_firstRow_14 (by decide) rfl ?_
    refine g_cut [1, 2, 3, 4, 5, 6, 0] rfl ?_
    refine wL6_firstRow_16 hK0 σ_3 x1 x2 x3 x4_1 x5_2 _ _ C Kf hR _ (fun σ_37 hf => ?_) _ _ _ hf
    refine g_iload C 4 dX6_firstRow_152 rfl ?_
    refine g_iconst (v := 3) C dX6_firstRow_154 (by decide) ?_
    refine g_imul C dX6_firstRow_155 ?_
    refine g_istoreB C (fun x4_38 => [(4, .int x4_38), (0, .ref (K.2.1 0)), (1, .int x1), (2, .int x2), (3, .int x3), (5, .int x5_2)]) dX6_firstRow_156 (by decide) (fun _ => rfl) hf (fun x4_38 hf => ?_)
    refine g_iinc (d := 1) C 5 (fun x5_39 => [(5, .int x5_39), (4, .int x4_38), (0, .ref (K.2.1 0)), (1, .int x1), (2, .int x2), (3, .int x3)]) dX6_firstRow_158 rfl (by decide) (by decide) (fun _ => rfl) hf (fun x5_39 hf => ?_)
    refine g_goto C 6 dX6_firstRow_161 (by decide) ?_
    refine g_cut [2, 3, 4, 5, 1, 0] rfl ?_
    exact ih _ _ _ hf
set_option maxHeartbeats 4000000 in
set_option maxRecDepth 100000 in
theorem mX6_firstRow {K : Kx} (hK0 : isKM K) (l : Launch) (σ : St) (x1 : Int32) (x2 : Int32) (x3 : Int32)  (r : Int32) (σ' : St) (hf : f6_firstRow σ x1 x2 x3 = some (r, σ')) : mC K l yX6_firstRow cX6_firstRow 9 (some .int) rmX6_firstRow [.ref (K.2.1 0), .int x1, .int x2, .int x3] σ (some (.int r)) σ' := by
  refine g_entry (own := RX6) rfl (by decide +kernel) (Nat.le_of_ble_eq_true rfl) (fun X hX C Kf hR => ?_)
  subst hX
  unfold f6_firstRow at hf
  show gG X σ 0 [(0, .ref (K.2.1 0)), (1, .int x1), (2, .int x2), (3, .int x3)] []
  refine g_iconst (v := 1) C dX6_firstRow_0 (by decide) ?_
  refine g_istore C [(4, .int 1), (0, .ref (K.2.1 0)), (1, .int x1), (2, .int x2), (3, .int x3)] dX6_firstRow_1 (by decide) rfl ?_
  refine g_iconst (v := 0) C dX6_firstRow_3 (by decide) ?_
  refine g_istore C [(5, .int 0), (4, .int 1), (0, .ref (K.2.1 0)), (1, .int x1), (2, .int x2), (3, .int x3)] dX6_firstRow_4 (by decide) rfl ?_
  refine g_cut [2, 3, 4, 5, 1, 0] rfl ?_
  refine wL6_firstRow_6 hK0 σ x1 x2 x3 _ _ C Kf hR _ (fun σ_41 hf => ?_) _ _ _ _ hf
  refine g_bipush (v := (-9)) C dX6_firstRow_164 (by decide) ?_
  exact g_iretP C Kf hR dX6_firstRow_166 hf
abbrev rmX6_fewest : Room := { frames := 6, cells := 0, slots := 0, locals := 149 }
set_option maxHeartbeats 4000000 in
set_option maxRecDepth 100000 in
theorem mX6_fewest {K : Kx} (hK0 : isKM K) (l : Launch) (σ : St) (x1 : Int32) (x2 : Int32) (x3 : Int32)  (r : Int32) (σ' : St) (hf : f6_fewest σ x1 x2 x3 = some (r, σ')) : mC K l yX6_fewest cX6_fewest 4 (some .int) rmX6_fewest [.ref (K.2.1 0), .int x1, .int x2, .int x3] σ (some (.int r)) σ' := by
  refine g_entry (own := RX6) rfl (by decide +kernel) (Nat.le_of_ble_eq_true rfl) (fun X hX C Kf hR => ?_)
  subst hX
  unfold f6_fewest at hf
  show gG X σ 0 [(0, .ref (K.2.1 0)), (1, .int x1), (2, .int x2), (3, .int x3)] []
  refine g_aload_n C 0 dX6_fewest_0 rfl ?_
  refine g_iload_n C 1 dX6_fewest_1 rfl ?_
  obtain ⟨r_2, h_1, hf⟩ := b1_some hf
  refine g_cV_i C Kf [.int x1] (mX6_isCard hK0 X.1.2.1 σ x1 r_2 h_1) mi_X6_isCard (qO_X6 hK0) rfl km_X6_134 ⟨rfl, rfl, by decide, by decide⟩ rfl rfl (Nat.le_of_ble_eq_true rfl) dX6_fewest_2 ?_
  refine g_if_eq C 41 dX6_fewest_5 (by decide) hf (fun hf => ?_) (fun hf => ?_)
  · refine g_iconst (v := (-1)) C dX6_fewest_41 (by decide) ?_
    exact g_iretP C Kf hR dX6_fewest_42 hf
  · refine g_iload_n C 2 dX6_fewest_8 rfl ?_
    refine g_i2l C dX6_fewest_9 ?_
    refine g_lconst (v := 0) C dX6_fewest_10 (by decide) ?_
    refine g_aload_n C 0 dX6_fewest_11 rfl ?_
    refine g_getI C Kf cl_X6 (qF_X6_4 hK0) (by decide) dX6_fewest_12 kf_X6_102 ?_
    refine g_iconst (v := 1) C dX6_fewest_15 (by decide) ?_
    refine g_isub C dX6_fewest_16 ?_
    refine g_i2l C dX6_fewest_17 ?_
    obtain ⟨r_4, h_3, hf⟩ := b1_some hf
    refine g_cS_i C Kf [.long (x2.toInt64), .long 0, .long (((σ.1 0 4) - 1).toInt64)] (mX6_in hK0 X.1.2.1 σ (x2.toInt64) 0 (((σ.1 0 4) - 1).toInt64) r_4 h_3) mi_X6_in km_X6_69 ⟨rfl, rfl, by decide, by decide⟩ rfl rfl (Nat.le_of_ble_eq_true rfl) dX6_fewest_18 ?_
    refine g_if_eq C 41 dX6_fewest_21 (by decide) hf (fun hf => ?_) (fun hf => ?_)
    · refine g_iconst (v := (-1)) C dX6_fewest_41 (by decide) ?_
      exact g_iretP C Kf hR dX6_fewest_42 hf
    · refine g_iload_n C 3 dX6_fewest_24 rfl ?_
      obtain ⟨r_6, h_5, hf⟩ := b1_some hf
      refine g_cS_i C Kf [.int x3] (mX6_isRow hK0 X.1.2.1 σ x3 r_6 h_5) mi_X6_isRow km_X6_75 ⟨rfl, rfl, by decide, by decide⟩ rfl rfl (Nat.le_of_ble_eq_true rfl) dX6_fewest_25 ?_
      refine g_if_eq C 41 dX6_fewest_28 (by decide) hf (fun hf => ?_) (fun hf => ?_)
      · refine g_iconst (v := (-1)) C dX6_fewest_41 (by decide) ?_
        exact g_iretP C Kf hR dX6_fewest_42 hf
      · refine g_aload_n C 0 dX6_fewest_31 rfl ?_
        refine g_iload_n C 1 dX6_fewest_32 rfl ?_
        refine g_iload_n C 2 dX6_fewest_33 rfl ?_
        refine g_iload_n C 3 dX6_fewest_34 rfl ?_
        obtain ⟨r_8, σ_9, h_7, hf⟩ := b2_some hf
        refine g_cV_i C Kf [.int x1, .int x2, .int x3] (mX6_firstRow hK0 X.1.2.1 σ x1 x2 x3 r_8 σ_9 h_7) mi_X6_firstRow (qO_X6 hK0) rfl km_X6_178 ⟨rfl, rfl, by decide, by decide⟩ rfl rfl (Nat.le_of_ble_eq_true rfl) dX6_fewest_35 ?_
        refine g_goto C 42 dX6_fewest_38 (by decide) ?_
        exact g_iretP C Kf hR dX6_fewest_42 hf
abbrev rmX6_pairs : Room := { frames := 2, cells := 0, slots := 0, locals := 45 }
set_option maxHeartbeats 4000000 in
set_option maxRecDepth 100000 in
theorem wL6_pairs_38 {X : Gx St} {K : Kx} (hK0 : isKM K) (σ : St) (x1 : Int32) (r : Int32) (C : gF X cX6_pairs RX6 (some .int) 3 rmX6_pairs) (Kf : kF X K) (hR : gR X K (some (.int r)) σ) (k : Option (Int32)) (Hk : k = some r → gG X σ 97 [] []) : ∀ (n : Nat) (x2_1 : Int32), L6_pairs_38 σ x1 k n x2_1 = some r → gG X σ 38 [(0, .ref (K.2.1 0)), (1, .int x1), (2, .int x2_1)] [] := by
  intro n
  induction n with
  | zero => intro _ hf; unfold L6_pairs_38 at hf; cases hf
  | succ n ih =>
  intro x2_1 hf
  unfold L6_pairs_38 at hf
  refine g_iload_n C 2 dX6_pairs_38 rfl ?_
  refine g_aload_n C 0 dX6_pairs_39 rfl ?_
  refine g_getR C Kf cl_X6 (qF_X6_0 hK0) (by decide) dX6_pairs_40 kf_X6_7 ?_
  refine g_iload_n C 1 dX6_pairs_43 rfl ?_
  refine g_iald C Kf (qAM_1 hK0) dX6_pairs_44 hf (fun hf => ?_)
  refine g_icmp_ge C 97 dX6_pairs_45 (by decide) hf (fun hf => ?_) (fun hf => ?_)
  · refine g_cut [] rfl ?_
    exact Hk hf
  · refine g_aload_n C 0 dX6_pairs_48 rfl ?_
    refine g_getR C Kf cl_X6 (qF_X6_1 hK0) (by decide) dX6_pairs_49 kf_X6_13 ?_
    refine g_bipush (v := 40) C dX6_pairs_52 (by decide) ?_
    refine g_iload_n C 1 dX6_pairs_54 rfl ?_
    refine g_imul C dX6_pairs_55 ?_
    refine g_iload_n C 2 dX6_pairs_56 rfl ?_
    refine g_iadd C dX6_pairs_57 ?_
    refine g_iald C Kf (qAM_2 hK0) dX6_pairs_58 hf (fun hf => ?_)
    obtain ⟨r_3, h_2, hf⟩ := b1_some hf
    refine g_cS_i C Kf [.int (σ.1 2 ((40 * x1) + x2_1).toNatClampNeg)] (mX6_isColumn hK0 X.1.2.1 σ (σ.1 2 ((40 * x1) + x2_1).toNatClampNeg) r_3 h_2) mi_X6_isColumn km_X6_143 ⟨rfl, rfl, by decide, by decide⟩ rfl rfl (Nat.le_of_ble_eq_true rfl) dX6_pairs_59 ?_
    refine g_if_eq C 89 dX6_pairs_62 (by decide) hf (fun hf => ?_) (fun hf => ?_)
    · refine g_iconst (v := 3) C dX6_pairs_89 (by decide) ?_
      exact g_iretR C Kf hR dX6_pairs_90 hf
    · refine g_aload_n C 0 dX6_pairs_65 rfl ?_
      refine g_getR C Kf cl_X6 (qF_X6_1 hK0) (by decide) dX6_pairs_66 kf_X6_13 ?_
      refine g_bipush (v := 40) C dX6_pairs_69 (by decide) ?_
      refine g_iload_n C 1 dX6_pairs_71 rfl ?_
      refine g_imul C dX6_pairs_72 ?_
      refine g_iload_n C 2 dX6_pairs_73 rfl ?_
      refine g_iadd C dX6_pairs_74 ?_
      refine g_iconst (v := 1) C dX6_pairs_75 (by decide) ?_
      refine g_iadd C dX6_pairs_76 ?_
      refine g_iald C Kf (qAM_2 hK0) dX6_pairs_77 hf (fun hf => ?_)
      refine g_i2l C dX6_pairs_78 ?_
      refine g_lconst (v := 0) C dX6_pairs_79 (by decide) ?_
      refine g_ldc2 (v := 10) C dX6_pairs_80 kl_X6_182 ?_
      obtain ⟨r_5, h_4, hf⟩ := b1_some hf
      refine g_cS_i C Kf [.long ((σ.1 2 (((40 * x1) + x2_1) + 1).toNatClampNeg).toInt64), .long 0, .long 10] (mX6_in hK0 X.1.2.1 σ ((σ.1 2 (((40 * x1) + x2_1) + 1).toNatClampNeg).toInt64) 0 10 r_5 h_4) mi_X6_in km_X6_69 ⟨rfl, rfl, by decide, by decide⟩ rfl rfl (Nat.le_of_ble_eq_true rfl) dX6_pairs_83 ?_
      refine g_if_ne C 91 dX6_pairs_86 (by decide) hf (fun hf => ?_) (fun hf => ?_)
      · refine g_iinc (d := 2) C 2 (fun x2_6 => [(2, .int x2_6), (0, .ref (K.2.1 0)), (1, .int x1)]) dX6_pairs_91 rfl (by decide) (by decide) (fun _ => rfl) hf (fun x2_6 hf => ?_)
        refine g_goto C 38 dX6_pairs_94 (by decide) ?_
        refine g_cut [1, 2, 0] rfl ?_
        exact ih _ hf
      · refine g_iconst (v := 3) C dX6_pairs_89 (by decide) ?_
        exact g_iretR C Kf hR dX6_pairs_90 hf
set_option maxHeartbeats 4000000 in
set_option maxRecDepth 100000 in
theorem mX6_pairs {K : Kx} (hK0 : isKM K) (l : Launch) (σ : St) (x1 : Int32)  (r : Int32) (hf : f6_pairs σ x1 = some r) : mC K l yX6_pairs cX6_pairs 3 (some .int) rmX6_pairs [.ref (K.2.1 0), .int x1] σ (some (.int r)) σ := by
  refine g_entry (own := RX6) rfl (by decide +kernel) (Nat.le_of_ble_eq_true rfl) (fun X hX C Kf hR => ?_)
  subst hX
  unfold f6_pairs at hf
  show gG X σ 0 [(0, .ref (K.2.1 0)), (1, .int x1)] []
  refine g_aload_n C 0 dX6_pairs_0 rfl ?_
  refine g_getR C Kf cl_X6 (qF_X6_0 hK0) (by decide) dX6_pairs_1 kf_X6_7 ?_
  refine g_iload_n C 1 dX6_pairs_4 rfl ?_
  refine g_iald C Kf (qAM_1 hK0) dX6_pairs_5 hf (fun hf => ?_)
  refine g_if_ge C 11 dX6_pairs_6 (by decide) hf (fun hf => ?_) (fun hf => ?_)
  · refine g_aload_n C 0 dX6_pairs_11 rfl ?_
    refine g_getR C Kf cl_X6 (qF_X6_0 hK0) (by decide) dX6_pairs_12 kf_X6_7 ?_
    refine g_iload_n C 1 dX6_pairs_15 rfl ?_
    refine g_iald C Kf (qAM_1 hK0) dX6_pairs_16 hf (fun hf => ?_)
    refine g_bipush (v := 16) C dX6_pairs_17 (by decide) ?_
    refine g_icmp_gt C 34 dX6_pairs_19 (by decide) hf (fun hf => ?_) (fun hf => ?_)
    · refine g_iconst (v := 5) C dX6_pairs_34 (by decide) ?_
      exact g_iretR C Kf hR dX6_pairs_35 hf
    · refine g_aload_n C 0 dX6_pairs_22 rfl ?_
      refine g_getR C Kf cl_X6 (qF_X6_0 hK0) (by decide) dX6_pairs_23 kf_X6_7 ?_
      refine g_iload_n C 1 dX6_pairs_26 rfl ?_
      refine g_iald C Kf (qAM_1 hK0) dX6_pairs_27 hf (fun hf => ?_)
      refine g_iconst (v := 2) C dX6_pairs_28 (by decide) ?_
      refine g_irem0 C dX6_pairs_29 (by decide) ?_
      refine g_iconst (v := 1) C dX6_pairs_30 (by decide) ?_
      refine g_icmp_ne C 36 dX6_pairs_31 (by decide) hf (fun hf => ?_) (fun hf => ?_)
      · refine g_iconst (v := 0) C dX6_pairs_36 (by decide) ?_
        refine g_istore_n C [(2, .int 0), (0, .ref (K.2.1 0)), (1, .int x1)] dX6_pairs_37 rfl (by decide) rfl ?_
        refine g_cut [1, 2, 0] rfl ?_
        refine wL6_pairs_38 hK0 σ x1 _ C Kf hR _ (fun  hf => ?_) _ _ hf
        refine g_iconst (v := 0) C dX6_pairs_97 (by decide) ?_
        exact g_iretR C Kf hR dX6_pairs_98 hf
      · refine g_iconst (v := 5) C dX6_pairs_34 (by decide) ?_
        exact g_iretR C Kf hR dX6_pairs_35 hf
  · refine g_iconst (v := 1) C dX6_pairs_9 (by decide) ?_
    exact g_iretR C Kf hR dX6_pairs_10 hf
abbrev rmX6_figures : Room := { frames := 3, cells := 0, slots := 0, locals := 72 }
set_option maxHeartbeats 4000000 in
set_option maxRecDepth 100000 in
theorem wL6_figures_53 {X : Gx St} {K : Kx} (hK0 : isKM K) (σ : St) (x1 : Int32) (x2 : Int32) (x3 : Int32) (r : Int32) (σ' : St) (C : gF X cX6_figures RX6 (some .int) 7 rmX6_figures) (Kf : kF X K) (hR : gR X K (some (.int r)) σ') (k : Int32 → St → Option (Int32 × St)) (Hk : ∀ (x5_14 : Int32) (σ_24 : St), k x5_14 σ_24 = some (r, σ') → gG X σ_24 109 [(5, .int x5_14)] []) : ∀ (n : Nat) (x5_11 : Int32) (x6_12 : Int32) (σ_13 : St), L6_figures_53 x1 x2 x3 k n x5_11 x6_12 σ_13 = some (r, σ') → gG X σ_13 53 [(0, .ref (K.2.1 0)), (1, .int x1), (2, .int x2), (3, .int x3), (5, .int x5_11), (6, .int x6_12)] [] := by
  intro n
  induction n with
  | zero => intro _ _ _ hf; unfold L6_figures_53 at hf; cases hf
  | succ n ih =>
  intro x5_11 x6_12 σ_13 hf
  unfold L6_figures_53 at hf
  refine g_iload C 5 dX6_figures_53 rfl ?_
  refine g_bipush (v := 10) C dX6_figures_55 (by decide) ?_
  refine g_icmp_ge C 109 dX6_figures_57 (by decide) hf (fun hf => ?_) (fun hf => ?_)
  · refine g_cut [4] rfl ?_
    exact Hk _ _ hf
  · refine g_aload_n C 0 dX6_figures_60 rfl ?_
    refine g_getR C Kf cl_X6 (qF_X6_7 hK0) (by decide) dX6_figures_61 kf_X6_28 ?_
    refine g_bipush (v := 6) C dX6_figures_64 (by decide) ?_
    refine g_iconst (v := 3) C dX6_figures_66 (by decide) ?_
    refine g_iload_n C 1 dX6_figures_67 rfl ?_
    refine g_imul C dX6_figures_68 ?_
    refine g_iadd C dX6_figures_69 ?_
    refine g_iload_n C 2 dX6_figures_70 rfl ?_
    refine g_iadd C dX6_figures_71 ?_
    refine g_iload C 5 dX6_figures_72 rfl ?_
    refine g_iast C Kf (qAM_7 hK0) dX6_figures_74 hf (fun σ_15 hf => ?_)
    refine g_iload C 4 dX6_figures_75 rfl ?_
    refine g_aload_n C 0 dX6_figures_77 rfl ?_
    refine g_iload_n C 1 dX6_figures_78 rfl ?_
    refine g_aload_n C 0 dX6_figures_79 rfl ?_
    refine g_getR C Kf cl_X6 (qF_X6_5 hK0) (by decide) dX6_figures_80 kf_X6_22 ?_
    refine g_iload_n C 1 dX6_figures_83 rfl ?_
    refine g_iald C Kf (qAM_5 hK0) dX6_figures_84 hf (fun hf => ?_)
    refine g_iload_n C 3 dX6_figures_85 rfl ?_
    obtain ⟨r_17, h_16, hf⟩ := b1_some hf
    refine g_cV_i C Kf [.int x1, .int (σ_15.1 5 x1.toNatClampNeg), .int x3] (mX6_comesSo hK0 X.1.2.1 σ_15 x1 (σ_15.1 5 x1.toNatClampNeg) x3 r_17 h_16) mi_X6_comesSo (qO_X6 hK0) rfl km_X6_184 ⟨rfl, rfl, by decide, by decide⟩ rfl rfl (Nat.le_of_ble_eq_true rfl) dX6_figures_86 ?_
    refine g_jn hf (fun j_19 ej_21 hf => ?_)
    have HJ_20 : ∀ (y_18 : Int32), j_19 y_18 = some (r, σ') → gG X σ_15 100 [(0, .ref (K.2.1 0)), (1, .int x1), (2, .int x2), (3, .int x3), (6, .int x6_12)] [.int y_18, .int x5_11] := by
      intro y_18 hf
      rw [ej_21] at hf
      refine g_ior C dX6_figures_100 ?_
      refine g_istoreB C (fun x5_22 => [(5, .int x5_22), (0, .ref (K.2.1 0)), (1, .int x1), (2, .int x2), (3, .int x3), (6, .int x6_12)]) dX6_figures_101 (by decide) (fun _ => rfl) hf (fun x5_22 hf => ?_)
      refine g_iinc (d := 1) C 5 (fun x6_23 => [(6, .int x6_23), (5, .int x5_22), (0, .ref (K.2.1 0)), (1, .int x1), (2, .int x2), (3, .int x3)]) dX6_figures_103 rfl (by decide) (by decide) (fun _ => rfl) hf (fun x6_23 hf => ?_)
      refine g_goto C 53 dX6_figures_106 (by decide) ?_
      refine g_cut [2, 3, 4, 5, 1, 0] rfl ?_
      exact ih _ _ _ hf
    refine g_if_eq C 99 dX6_figures_89 (by decide) hf (fun hf => ?_) (fun hf => ?_)
    · refine g_iconst (v := 0) C dX6_figures_99 (by decide) ?_
      refine g_cut [0, 1, 2, 3, 5] rfl ?_
      exact HJ_20 _ hf
    · refine g_iconst (v := 1) C dX6_figures_92 (by decide) ?_
      refine g_iload C 5 dX6_figures_93 rfl ?_
      refine g_ishl C dX6_figures_95 ?_
      refine g_goto C 100 dX6_figures_96 (by decide) ?_
      refine g_cut [0, 1, 2, 3, 5] rfl ?_
      exact HJ_20 _ hf
set_option maxHeartbeats 4000000 in
set_option maxRecDepth 100000 in
theorem mX6_figures {K : Kx} (hK0 : isKM K) (l : Launch) (σ : St) (x1 : Int32) (x2 : Int32) (x3 : Int32)  (r : Int32) (σ' : St) (hf : f6_figures σ x1 x2 x3 = some (r, σ')) : mC K l yX6_figures cX6_figures 7 (some .int) rmX6_figures [.ref (K.2.1 0), .int x1, .int x2, .int x3] σ (some (.int r)) σ' := by
  refine g_entry (own := RX6) rfl (by decide +kernel) (Nat.le_of_ble_eq_true rfl) (fun X hX C Kf hR => ?_)
  subst hX
  unfold f6_figures at hf
  show gG X σ 0 [(0, .ref (K.2.1 0)), (1, .int x1), (2, .int x2), (3, .int x3)] []
  refine g_aload_n C 0 dX6_figures_0 rfl ?_
  refine g_iload_n C 1 dX6_figures_1 rfl ?_
  obtain ⟨r_2, h_1, hf⟩ := b1_some hf
  refine g_cV_i C Kf [.int x1] (mX6_isCard hK0 X.1.2.1 σ x1 r_2 h_1) mi_X6_isCard (qO_X6 hK0) rfl km_X6_134 ⟨rfl, rfl, by decide, by decide⟩ rfl rfl (Nat.le_of_ble_eq_true rfl) dX6_figures_2 ?_
  refine g_if_eq C 22 dX6_figures_5 (by decide) hf (fun hf => ?_) (fun hf => ?_)
  · refine g_iconst (v := (-1)) C dX6_figures_22 (by decide) ?_
    exact g_iretP C Kf hR dX6_figures_23 hf
  · refine g_iload_n C 2 dX6_figures_8 rfl ?_
    obtain ⟨r_4, h_3, hf⟩ := b1_some hf
    refine g_cS_i C Kf [.int x2] (mX6_isColumn hK0 X.1.2.1 σ x2 r_4 h_3) mi_X6_isColumn km_X6_143 ⟨rfl, rfl, by decide, by decide⟩ rfl rfl (Nat.le_of_ble_eq_true rfl) dX6_figures_9 ?_
    refine g_if_eq C 22 dX6_figures_12 (by decide) hf (fun hf => ?_) (fun hf => ?_)
    · refine g_iconst (v := (-1)) C dX6_figures_22 (by decide) ?_
      exact g_iretP C Kf hR dX6_figures_23 hf
    · refine g_iload_n C 3 dX6_figures_15 rfl ?_
      obtain ⟨r_6, h_5, hf⟩ := b1_some hf
      refine g_cS_i C Kf [.int x3] (mX6_isRow hK0 X.1.2.1 σ x3 r_6 h_5) mi_X6_isRow km_X6_75 ⟨rfl, rfl, by decide, by decide⟩ rfl rfl (Nat.le_of_ble_eq_true rfl) dX6_figures_16 ?_
      refine g_if_ne C 24 dX6_figures_19 (by decide) hf (fun hf => ?_) (fun hf => ?_)
      · refine g_aload_n C 0 dX6_figures_24 rfl ?_
        refine g_iload_n C 3 dX6_figures_25 rfl ?_
        obtain ⟨r_8, h_7, hf⟩ := b1_some hf
        refine g_cV_i C Kf [.int x3] (mX6_pairs hK0 X.1.2.1 σ x3 r_8 h_7) mi_X6_pairs (qO_X6 hK0) rfl km_X6_188 ⟨rfl, rfl, by decide, by decide⟩ rfl rfl (Nat.le_of_ble_eq_true rfl) dX6_figures_26 ?_
        refine g_istore C [(4, .int r_8), (0, .ref (K.2.1 0)), (1, .int x1), (2, .int x2), (3, .int x3)] dX6_figures_29 (by decide) rfl ?_
        refine g_iload C 0 dX6_figures_31 rfl ?_
        refine g_if_le C 43 dX6_figures_33 (by decide) hf (fun hf => ?_) (fun hf => ?_)
        · refine g_aload_n C 1 dX6_figures_43 rfl ?_
          obtain ⟨σ_10, h_9, hf⟩ := b1_some hf
          refine g_cV_v C Kf [] (mX6_laysAside hK0 X.1.2.1 σ σ_10 h_9) mi_X6_laysAside (qO_X6 hK0) rfl km_X6_167 ⟨rfl, rfl, by decide, by decide⟩ rfl rfl (Nat.le_of_ble_eq_true rfl) dX6_figures_44 ?_
          refine g_iconst (v := 0) C dX6_figures_47 (by decide) ?_
          refine g_istore C [(5, .int 0), (4, .int r_8), (0, .ref (K.2.1 0)), (1, .int x1), (2, .int x2), (3, .int x3)] dX6_figures_48 (by decide) rfl ?_
          refine g_iconst (v := 0) C dX6_figures_50 (by decide) ?_
          refine g_istore C [(6, .int 0), (5, .int 0), (4, .int r_8), (0, .ref (K.2.1 0)), (1, .int x1), (2, .int x2), (3, .int x3)] dX6_figures_51 (by decide) rfl ?_
          refine g_cut [3, 4, 5, 6, 1, 0] rfl ?_
          refine wL6_figures_53 hK0 σ_10 x1 x2 x3 _ _ C Kf hR _ (fun x5_25 σ_26 hf => ?_) _ _ _ _ hf
          refine g_iload C 0 dX6_figures_109 rfl ?_
          exact g_iretP C Kf hR dX6_figures_111 hf
        · refine g_aload_n C 1 dX6_figures_36 rfl ?_
          refine g_iload C 0 dX6_figures_37 rfl ?_
          obtain ⟨r_28, σ_29, h_27, hf⟩ := b2_some hf
          refine g_cV_i C Kf [.int r_8] (mX6_found hK0 X.1.2.1 σ r_8 r_28 σ_29 h_27) mi_X6_found (qO_X6 hK0) rfl km_X6_79 ⟨rfl, rfl, by decide, by decide⟩ rfl rfl (Nat.le_of_ble_eq_true rfl) dX6_figures_39 ?_
          exact g_iretP C Kf hR dX6_figures_42 hf
      · refine g_iconst (v := (-1)) C dX6_figures_22 (by decide) ?_
        exact g_iretP C Kf hR dX6_figures_23 hf
abbrev rmX6_finding : Room := { frames := 0, cells := 0, slots := 0, locals := 0 }
set_option maxHeartbeats 4000000 in
set_option maxRecDepth 100000 in
theorem mX6_finding {K : Kx} (hK0 : isKM K) (l : Launch) (σ : St)   (r : Int32) (hf : f6_finding σ = some r) : mC K l yX6_finding cX6_finding 1 (some .int) rmX6_finding [.ref (K.2.1 0)] σ (some (.int r)) σ := by
  refine g_entry (own := RX6) rfl (by decide +kernel) (Nat.le_of_ble_eq_true rfl) (fun X hX C Kf hR => ?_)
  subst hX
  unfold f6_finding at hf
  show gG X σ 0 [(0, .ref (K.2.1 0))] []
  refine g_aload_n C 0 dX6_finding_0 rfl ?_
  refine g_getI C Kf cl_X6 (qF_X6_15 hK0) (by decide) dX6_finding_1 kf_X6_60 ?_
  exact g_iretR C Kf hR dX6_finding_4 hf
abbrev rmX6_findings : Room := { frames := 1, cells := 0, slots := 0, locals := 25 }
set_option maxHeartbeats 4000000 in
set_option maxRecDepth 100000 in
theorem mX6_findings {K : Kx} (hK0 : isKM K) (l : Launch) (σ : St) (x1 : Int32)  (r : Int32) (hf : f6_findings σ x1 = some r) : mC K l yX6_findings cX6_findings 2 (some .int) rmX6_findings [.ref (K.2.1 0), .int x1] σ (some (.int r)) σ := by
  refine g_entry (own := RX6) rfl (by decide +kernel) (Nat.le_of_ble_eq_true rfl) (fun X hX C Kf hR => ?_)
  subst hX
  unfold f6_findings at hf
  show gG X σ 0 [(0, .ref (K.2.1 0)), (1, .int x1)] []
  refine g_iload_n C 1 dX6_findings_0 rfl ?_
  refine g_i2l C dX6_findings_1 ?_
  refine g_lconst (v := 1) C dX6_findings_2 (by decide) ?_
  refine g_ldc2 (v := 5) C dX6_findings_3 kl_X6_67 ?_
  obtain ⟨r_2, h_1, hf⟩ := b1_some hf
  refine g_cS_i C Kf [.long (x1.toInt64), .long 1, .long 5] (mX6_in hK0 X.1.2.1 σ (x1.toInt64) 1 5 r_2 h_1) mi_X6_in km_X6_69 ⟨rfl, rfl, by decide, by decide⟩ rfl rfl (Nat.le_of_ble_eq_true rfl) dX6_findings_6 ?_
  refine g_if_eq C 21 dX6_findings_9 (by decide) hf (fun hf => ?_) (fun hf => ?_)
  · refine g_iconst (v := (-1)) C dX6_findings_21 (by decide) ?_
    exact g_iretR C Kf hR dX6_findings_22 hf
  · refine g_aload_n C 0 dX6_findings_12 rfl ?_
    refine g_getR C Kf cl_X6 (qF_X6_16 hK0) (by decide) dX6_findings_13 kf_X6_45 ?_
    refine g_iload_n C 1 dX6_findings_16 rfl ?_
    refine g_iald C Kf (qAM_11 hK0) dX6_findings_17 hf (fun hf => ?_)
    refine g_goto C 22 dX6_findings_18 (by decide) ?_
    exact g_iretR C Kf hR dX6_findings_22 hf
abbrev rmX6_isPlace : Room := { frames := 1, cells := 0, slots := 0, locals := 25 }
set_option maxHeartbeats 4000000 in
set_option maxRecDepth 100000 in
theorem mX6_isPlace {K : Kx} (hK0 : isKM K) (l : Launch) (σ : St) (x0 : Int32)  (r : Int32) (hf : f6_isPlace x0 = some r) : mC K l yX6_isPlace cX6_isPlace 1 (some .boolean) rmX6_isPlace [.int x0] σ (some (.int r)) σ := by
  refine g_entry (own := RX6) rfl (by decide +kernel) (Nat.le_of_ble_eq_true rfl) (fun X hX C Kf hR => ?_)
  subst hX
  unfold f6_isPlace at hf
  show gG X σ 0 [(0, .int x0)] []
  refine g_iload_n C 0 dX6_isPlace_0 rfl ?_
  refine g_i2l C dX6_isPlace_1 ?_
  refine g_lconst (v := 0) C dX6_isPlace_2 (by decide) ?_
  refine g_ldc2 (v := 2) C dX6_isPlace_3 kl_X6_112 ?_
  obtain ⟨r_2, h_1, hf⟩ := b1_some hf
  refine g_cS_i C Kf [.long (x0.toInt64), .long 0, .long 2] (mX6_in hK0 X.1.2.1 σ (x0.toInt64) 0 2 r_2 h_1) mi_X6_in km_X6_69 ⟨rfl, rfl, by decide, by decide⟩ rfl rfl (Nat.le_of_ble_eq_true rfl) dX6_isPlace_6 ?_
  exact g_zretRB C Kf hR dX6_isPlace_9 hf
abbrev rmX6_keep : Room := { frames := 2, cells := 0, slots := 0, locals := 45 }
set_option maxHeartbeats 4000000 in
set_option maxRecDepth 100000 in
theorem mX6_keep {K : Kx} (hK0 : isKM K) (l : Launch) (σ : St) (x1 : Int32)  (r : Int32) (σ' : St) (hf : f6_keep σ x1 = some (r, σ')) : mC K l yX6_keep cX6_keep 2 (some .int) rmX6_keep [.ref (K.2.1 0), .int x1] σ (some (.int r)) σ' := by
  refine g_entry (own := RX6) rfl (by decide +kernel) (Nat.le_of_ble_eq_true rfl) (fun X hX C Kf hR => ?_)
  subst hX
  unfold f6_keep at hf
  show gG X σ 0 [(0, .ref (K.2.1 0)), (1, .int x1)] []
  refine g_iload_n C 1 dX6_keep_0 rfl ?_
  obtain ⟨r_2, h_1, hf⟩ := b1_some hf
  refine g_cS_i C Kf [.int x1] (mX6_isPlace hK0 X.1.2.1 σ x1 r_2 h_1) mi_X6_isPlace km_X6_162 ⟨rfl, rfl, by decide, by decide⟩ rfl rfl (Nat.le_of_ble_eq_true rfl) dX6_keep_1 ?_
  refine g_if_ne C 9 dX6_keep_4 (by decide) hf (fun hf => ?_) (fun hf => ?_)
  · refine g_aload_n C 0 dX6_keep_9 rfl ?_
    refine g_getI C Kf cl_X6 (qF_X6_4 hK0) (by decide) dX6_keep_10 kf_X6_102 ?_
    refine g_if_ne C 19 dX6_keep_13 (by decide) hf (fun hf => ?_) (fun hf => ?_)
    · refine g_aload_n C 0 dX6_keep_19 rfl ?_
      refine g_getR C Kf cl_X6 (qF_X6_6 hK0) (by decide) dX6_keep_20 kf_X6_25 ?_
      refine g_iconst (v := 0) C dX6_keep_23 (by decide) ?_
      refine g_aload_n C 0 dX6_keep_24 rfl ?_
      refine g_getR C Kf cl_X6 (qF_X6_10 hK0) (by decide) dX6_keep_25 kf_X6_34 ?_
      refine g_sipush (v := 1026) C dX6_keep_28 (by decide) ?_
      refine g_iload_n C 1 dX6_keep_31 rfl ?_
      refine g_imul C dX6_keep_32 ?_
      refine g_bipush (v := 25) C dX6_keep_33 (by decide) ?_
      obtain ⟨σ_4, h_3, hf⟩ := b1_some hf
      refine g_cS_v C Kf [.ref (K.2.1 6), .int 0, .ref (K.2.1 9), .int (1026 * x1), .int 25] (mX6_copies hK0 X.1.2.1 σ 6 0 9 (1026 * x1) 25 (by decide) (by decide) σ_4 h_3) mi_X6_copies km_X6_105 ⟨rfl, rfl, by decide, by decide⟩ rfl rfl (Nat.le_of_ble_eq_true rfl) dX6_keep_35 ?_
      refine g_aload_n C 0 dX6_keep_38 rfl ?_
      refine g_getR C Kf cl_X6 (qF_X6_10 hK0) (by decide) dX6_keep_39 kf_X6_34 ?_
      refine g_sipush (v := 1026) C dX6_keep_42 (by decide) ?_
      refine g_iload_n C 1 dX6_keep_45 rfl ?_
      refine g_imul C dX6_keep_46 ?_
      refine g_bipush (v := 25) C dX6_keep_47 (by decide) ?_
      refine g_iadd C dX6_keep_49 ?_
      refine g_aload_n C 0 dX6_keep_50 rfl ?_
      refine g_getI C Kf cl_X6 (qF_X6_9 hK0) (by decide) dX6_keep_51 kf_X6_109 ?_
      refine g_iast C Kf (qAM_9 hK0) dX6_keep_54 hf (fun σ_5 hf => ?_)
      refine g_aload_n C 0 dX6_keep_55 rfl ?_
      refine g_getR C Kf cl_X6 (qF_X6_8 hK0) (by decide) dX6_keep_56 kf_X6_31 ?_
      refine g_iconst (v := 0) C dX6_keep_59 (by decide) ?_
      refine g_aload_n C 0 dX6_keep_60 rfl ?_
      refine g_getR C Kf cl_X6 (qF_X6_10 hK0) (by decide) dX6_keep_61 kf_X6_34 ?_
      refine g_sipush (v := 1026) C dX6_keep_64 (by decide) ?_
      refine g_iload_n C 1 dX6_keep_67 rfl ?_
      refine g_imul C dX6_keep_68 ?_
      refine g_bipush (v := 25) C dX6_keep_69 (by decide) ?_
      refine g_iadd C dX6_keep_71 ?_
      refine g_iconst (v := 1) C dX6_keep_72 (by decide) ?_
      refine g_iadd C dX6_keep_73 ?_
      refine g_sipush (v := 1000) C dX6_keep_74 (by decide) ?_
      obtain ⟨σ_7, h_6, hf⟩ := b1_some hf
      refine g_cS_v C Kf [.ref (K.2.1 8), .int 0, .ref (K.2.1 9), .int (((1026 * x1) + 25) + 1), .int 1000] (mX6_copies hK0 X.1.2.1 σ_5 8 0 9 (((1026 * x1) + 25) + 1) 1000 (by decide) (by decide) σ_7 h_6) mi_X6_copies km_X6_105 ⟨rfl, rfl, by decide, by decide⟩ rfl rfl (Nat.le_of_ble_eq_true rfl) dX6_keep_77 ?_
      refine g_aload_n C 0 dX6_keep_80 rfl ?_
      refine g_getR C Kf cl_X6 (qF_X6_11 hK0) (by decide) dX6_keep_81 kf_X6_37 ?_
      refine g_iload_n C 1 dX6_keep_84 rfl ?_
      refine g_iconst (v := 1) C dX6_keep_85 (by decide) ?_
      refine g_zast C Kf (qZM_10 hK0) rfl dX6_keep_86 hf (fun σ_8 hf => ?_)
      refine g_aload_n C 0 dX6_keep_87 rfl ?_
      refine g_getI C Kf cl_X6 (qF_X6_9 hK0) (by decide) dX6_keep_88 kf_X6_109 ?_
      exact g_iretP C Kf hR dX6_keep_91 hf
    · refine g_bipush (v := (-4)) C dX6_keep_16 (by decide) ?_
      exact g_iretP C Kf hR dX6_keep_18 hf
  · refine g_iconst (v := (-1)) C dX6_keep_7 (by decide) ?_
    exact g_iretP C Kf hR dX6_keep_8 hf
abbrev rmX6_kindsBy : Room := { frames := 3, cells := 0, slots := 0, locals := 72 }
set_option maxHeartbeats 4000000 in
set_option maxRecDepth 100000 in
theorem wL6_kindsBy_9 {X : Gx St} {K : Kx} (hK0 : isKM K) (σ : St) (x1 : Int32) (x2 : Int32) (r : Int32) (σ' : St) (C : gF X cX6_kindsBy RX6 (some .int) 5 rmX6_kindsBy) (Kf : kF X K) (hR : gR X K (some (.int r)) σ') (k : Int32 → Option (Int32 × St)) (Hk : ∀ (x3_5 : Int32), k x3_5 = some (r, σ') → gG X σ 44 [(3, .int x3_5)] []) : ∀ (n : Nat) (x3_3 : Int32) (x4_4 : Int32), L6_kindsBy_9 σ x1 x2 k n x3_3 x4_4 = some (r, σ') → gG X σ 9 [(0, .ref (K.2.1 0)), (1, .int x1), (2, .int x2), (3, .int x3_3), (4, .int x4_4)] [] := by
  intro n
  induction n with
  | zero => intro _ _ hf; unfold L6_kindsBy_9 at hf; cases hf
  | succ n ih =>
  intro x3_3 x4_4 hf
  unfold L6_kindsBy_9 at hf
  refine g_iload C 4 dX6_kindsBy_9 rfl ?_
  refine g_bipush (v := 6) C dX6_kindsBy_11 (by decide) ?_
  refine g_icmp_ge C 44 dX6_kindsBy_13 (by decide) hf (fun hf => ?_) (fun hf => ?_)
  · refine g_cut [3] rfl ?_
    exact Hk _ hf
  · refine g_iload_n C 3 dX6_kindsBy_16 rfl ?_
    refine g_aload_n C 0 dX6_kindsBy_17 rfl ?_
    refine g_iload_n C 1 dX6_kindsBy_18 rfl ?_
    refine g_iload C 4 dX6_kindsBy_19 rfl ?_
    refine g_iload_n C 2 dX6_kindsBy_21 rfl ?_
    obtain ⟨r_7, h_6, hf⟩ := b1_some hf
    refine g_cV_i C Kf [.int x1, .int x4_4, .int x2] (mX6_comesSo hK0 X.1.2.1 σ x1 x4_4 x2 r_7 h_6) mi_X6_comesSo (qO_X6 hK0) rfl km_X6_184 ⟨rfl, rfl, by decide, by decide⟩ rfl rfl (Nat.le_of_ble_eq_true rfl) dX6_kindsBy_22 ?_
    refine g_jn hf (fun j_9 ej_11 hf => ?_)
    have HJ_10 : ∀ (y_8 : Int32), j_9 y_8 = some (r, σ') → gG X σ 36 [(0, .ref (K.2.1 0)), (1, .int x1), (2, .int x2), (4, .int x4_4)] [.int y_8, .int x3_3] := by
      intro y_8 hf
      rw [ej_11] at hf
      refine g_ior C dX6_kindsBy_36 ?_
      refine g_istore_nB C (fun x3_12 => [(3, .int x3_12), (0, .ref (K.2.1 0)), (1, .int x1), (2, .int x2), (4, .int x4_4)]) dX6_kindsBy_37 rfl (by decide) (fun _ => rfl) hf (fun x3_12 hf => ?_)
      refine g_iinc (d := 1) C 4 (fun x4_13 => [(4, .int x4_13), (3, .int x3_12), (0, .ref (K.2.1 0)), (1, .int x1), (2, .int x2)]) dX6_kindsBy_38 rfl (by decide) (by decide) (fun _ => rfl) hf (fun x4_13 hf => ?_)
      refine g_goto C 9 dX6_kindsBy_41 (by decide) ?_
      refine g_cut [2, 3, 4, 1, 0] rfl ?_
      exact ih _ _ hf
    refine g_if_eq C 35 dX6_kindsBy_25 (by decide) hf (fun hf => ?_) (fun hf => ?_)
    · refine g_iconst (v := 0) C dX6_kindsBy_35 (by decide) ?_
      refine g_cut [0, 1, 2, 4] rfl ?_
      exact HJ_10 _ hf
    · refine g_iconst (v := 1) C dX6_kindsBy_28 (by decide) ?_
      refine g_iload C 4 dX6_kindsBy_29 rfl ?_
      refine g_ishl C dX6_kindsBy_31 ?_
      refine g_goto C 36 dX6_kindsBy_32 (by decide) ?_
      refine g_cut [0, 1, 2, 4] rfl ?_
      exact HJ_10 _ hf
set_option maxHeartbeats 4000000 in
set_option maxRecDepth 100000 in
theorem mX6_kindsBy {K : Kx} (hK0 : isKM K) (l : Launch) (σ : St) (x1 : Int32) (x2 : Int32)  (r : Int32) (σ' : St) (hf : f6_kindsBy σ x1 x2 = some (r, σ')) : mC K l yX6_kindsBy cX6_kindsBy 5 (some .int) rmX6_kindsBy [.ref (K.2.1 0), .int x1, .int x2] σ (some (.int r)) σ' := by
  refine g_entry (own := RX6) rfl (by decide +kernel) (Nat.le_of_ble_eq_true rfl) (fun X hX C Kf hR => ?_)
  subst hX
  unfold f6_kindsBy at hf
  show gG X σ 0 [(0, .ref (K.2.1 0)), (1, .int x1), (2, .int x2)] []
  refine g_aload_n C 0 dX6_kindsBy_0 rfl ?_
  obtain ⟨σ_2, h_1, hf⟩ := b1_some hf
  refine g_cV_v C Kf [] (mX6_laysAside hK0 X.1.2.1 σ σ_2 h_1) mi_X6_laysAside (qO_X6 hK0) rfl km_X6_167 ⟨rfl, rfl, by decide, by decide⟩ rfl rfl (Nat.le_of_ble_eq_true rfl) dX6_kindsBy_1 ?_
  refine g_iconst (v := 0) C dX6_kindsBy_4 (by decide) ?_
  refine g_istore_n C [(3, .int 0), (0, .ref (K.2.1 0)), (1, .int x1), (2, .int x2)] dX6_kindsBy_5 rfl (by decide) rfl ?_
  refine g_iconst (v := 0) C dX6_kindsBy_6 (by decide) ?_
  refine g_istore C [(4, .int 0), (3, .int 0), (0, .ref (K.2.1 0)), (1, .int x1), (2, .int x2)] dX6_kindsBy_7 (by decide) rfl ?_
  refine g_cut [2, 3, 4, 1, 0] rfl ?_
  refine wL6_kindsBy_9 hK0 σ_2 x1 x2 _ _ C Kf hR _ (fun x3_14 hf => ?_) _ _ _ hf
  refine g_iload_n C 0 dX6_kindsBy_44 rfl ?_
  exact g_iretP C Kf hR dX6_kindsBy_45 hf
abbrev rmX6_kinds : Room := { frames := 4, cells := 0, slots := 0, locals := 96 }
set_option maxHeartbeats 4000000 in
set_option maxRecDepth 100000 in
theorem mX6_kinds {K : Kx} (hK0 : isKM K) (l : Launch) (σ : St) (x1 : Int32) (x2 : Int32)  (r : Int32) (σ' : St) (hf : f6_kinds σ x1 x2 = some (r, σ')) : mC K l yX6_kinds cX6_kinds 4 (some .int) rmX6_kinds [.ref (K.2.1 0), .int x1, .int x2] σ (some (.int r)) σ' := by
  refine g_entry (own := RX6) rfl (by decide +kernel) (Nat.le_of_ble_eq_true rfl) (fun X hX C Kf hR => ?_)
  subst hX
  unfold f6_kinds at hf
  show gG X σ 0 [(0, .ref (K.2.1 0)), (1, .int x1), (2, .int x2)] []
  refine g_aload_n C 0 dX6_kinds_0 rfl ?_
  refine g_iload_n C 1 dX6_kinds_1 rfl ?_
  obtain ⟨r_2, h_1, hf⟩ := b1_some hf
  refine g_cV_i C Kf [.int x1] (mX6_isCard hK0 X.1.2.1 σ x1 r_2 h_1) mi_X6_isCard (qO_X6 hK0) rfl km_X6_134 ⟨rfl, rfl, by decide, by decide⟩ rfl rfl (Nat.le_of_ble_eq_true rfl) dX6_kinds_2 ?_
  refine g_if_eq C 15 dX6_kinds_5 (by decide) hf (fun hf => ?_) (fun hf => ?_)
  · refine g_iconst (v := (-1)) C dX6_kinds_15 (by decide) ?_
    exact g_iretP C Kf hR dX6_kinds_16 hf
  · refine g_iload_n C 2 dX6_kinds_8 rfl ?_
    obtain ⟨r_4, h_3, hf⟩ := b1_some hf
    refine g_cS_i C Kf [.int x2] (mX6_isRow hK0 X.1.2.1 σ x2 r_4 h_3) mi_X6_isRow km_X6_75 ⟨rfl, rfl, by decide, by decide⟩ rfl rfl (Nat.le_of_ble_eq_true rfl) dX6_kinds_9 ?_
    refine g_if_ne C 17 dX6_kinds_12 (by decide) hf (fun hf => ?_) (fun hf => ?_)
    · refine g_aload_n C 0 dX6_kinds_17 rfl ?_
      refine g_iload_n C 2 dX6_kinds_18 rfl ?_
      obtain ⟨r_6, h_5, hf⟩ := b1_some hf
      refine g_cV_i C Kf [.int x2] (mX6_pairs hK0 X.1.2.1 σ x2 r_6 h_5) mi_X6_pairs (qO_X6 hK0) rfl km_X6_188 ⟨rfl, rfl, by decide, by decide⟩ rfl rfl (Nat.le_of_ble_eq_true rfl) dX6_kinds_19 ?_
      refine g_istore_n C [(3, .int r_6), (0, .ref (K.2.1 0)), (1, .int x1), (2, .int x2)] dX6_kinds_22 rfl (by decide) rfl ?_
      refine g_iload_n C 0 dX6_kinds_23 rfl ?_
      refine g_if_le C 35 dX6_kinds_24 (by decide) hf (fun hf => ?_) (fun hf => ?_)
      · refine g_aload_n C 1 dX6_kinds_35 rfl ?_
        refine g_iload_n C 2 dX6_kinds_36 rfl ?_
        refine g_iload_n C 3 dX6_kinds_37 rfl ?_
        obtain ⟨r_8, σ_9, h_7, hf⟩ := b2_some hf
        refine g_cV_i C Kf [.int x1, .int x2] (mX6_kindsBy hK0 X.1.2.1 σ x1 x2 r_8 σ_9 h_7) mi_X6_kindsBy (qO_X6 hK0) rfl km_X6_191 ⟨rfl, rfl, by decide, by decide⟩ rfl rfl (Nat.le_of_ble_eq_true rfl) dX6_kinds_38 ?_
        exact g_iretP C Kf hR dX6_kinds_41 hf
      · refine g_aload_n C 1 dX6_kinds_27 rfl ?_
        refine g_iload_n C 0 dX6_kinds_28 rfl ?_
        obtain ⟨r_11, σ_12, h_10, hf⟩ := b2_some hf
        refine g_cV_i C Kf [.int r_6] (mX6_found hK0 X.1.2.1 σ r_6 r_11 σ_12 h_10) mi_X6_found (qO_X6 hK0) rfl km_X6_79 ⟨rfl, rfl, by decide, by decide⟩ rfl rfl (Nat.le_of_ble_eq_true rfl) dX6_kinds_29 ?_
        refine g_goto C 41 dX6_kinds_32 (by decide) ?_
        exact g_iretP C Kf hR dX6_kinds_41 hf
    · refine g_iconst (v := (-1)) C dX6_kinds_15 (by decide) ?_
      exact g_iretP C Kf hR dX6_kinds_16 hf
abbrev rmX6_lay : Room := { frames := 2, cells := 0, slots := 0, locals := 45 }
set_option maxHeartbeats 4000000 in
set_option maxRecDepth 100000 in
theorem mX6_lay {K : Kx} (hK0 : isKM K) (l : Launch) (σ : St) (x1 : Int32) (x2 : Int32) (x3 : Int32)  (r : Int32) (σ' : St) (hf : f6_lay σ x1 x2 x3 = some (r, σ')) : mC K l yX6_lay cX6_lay 5 (some .int) rmX6_lay [.ref (K.2.1 0), .int x1, .int x2, .int x3] σ (some (.int r)) σ' := by
  refine g_entry (own := RX6) rfl (by decide +kernel) (Nat.le_of_ble_eq_true rfl) (fun X hX C Kf hR => ?_)
  subst hX
  unfold f6_lay at hf
  show gG X σ 0 [(0, .ref (K.2.1 0)), (1, .int x1), (2, .int x2), (3, .int x3)] []
  refine g_iload_n C 1 dX6_lay_0 rfl ?_
  obtain ⟨r_2, h_1, hf⟩ := b1_some hf
  refine g_cS_i C Kf [.int x1] (mX6_isRow hK0 X.1.2.1 σ x1 r_2 h_1) mi_X6_isRow km_X6_75 ⟨rfl, rfl, by decide, by decide⟩ rfl rfl (Nat.le_of_ble_eq_true rfl) dX6_lay_1 ?_
  refine g_if_ne C 9 dX6_lay_4 (by decide) hf (fun hf => ?_) (fun hf => ?_)
  · refine g_aload_n C 0 dX6_lay_9 rfl ?_
    refine g_getR C Kf cl_X6 (qF_X6_0 hK0) (by decide) dX6_lay_10 kf_X6_7 ?_
    refine g_iload_n C 1 dX6_lay_13 rfl ?_
    refine g_iald C Kf (qAM_1 hK0) dX6_lay_14 hf (fun hf => ?_)
    refine g_if_ge C 24 dX6_lay_15 (by decide) hf (fun hf => ?_) (fun hf => ?_)
    · refine g_iload_n C 2 dX6_lay_24 rfl ?_
      refine g_i2l C dX6_lay_25 ?_
      refine g_lconst (v := 0) C dX6_lay_26 (by decide) ?_
      refine g_aload_n C 0 dX6_lay_27 rfl ?_
      refine g_getR C Kf cl_X6 (qF_X6_0 hK0) (by decide) dX6_lay_28 kf_X6_7 ?_
      refine g_iload_n C 1 dX6_lay_31 rfl ?_
      refine g_iald C Kf (qAM_1 hK0) dX6_lay_32 hf (fun hf => ?_)
      refine g_iconst (v := 1) C dX6_lay_33 (by decide) ?_
      refine g_isub C dX6_lay_34 ?_
      refine g_i2l C dX6_lay_35 ?_
      obtain ⟨r_4, h_3, hf⟩ := b1_some hf
      refine g_cS_i C Kf [.long (x2.toInt64), .long 0, .long (((σ.1 1 x1.toNatClampNeg) - 1).toInt64)] (mX6_in hK0 X.1.2.1 σ (x2.toInt64) 0 (((σ.1 1 x1.toNatClampNeg) - 1).toInt64) r_4 h_3) mi_X6_in km_X6_69 ⟨rfl, rfl, by decide, by decide⟩ rfl rfl (Nat.le_of_ble_eq_true rfl) dX6_lay_36 ?_
      refine g_if_ne C 48 dX6_lay_39 (by decide) hf (fun hf => ?_) (fun hf => ?_)
      · refine g_aload_n C 0 dX6_lay_48 rfl ?_
        refine g_getR C Kf cl_X6 (qF_X6_1 hK0) (by decide) dX6_lay_49 kf_X6_13 ?_
        refine g_bipush (v := 40) C dX6_lay_52 (by decide) ?_
        refine g_iload_n C 1 dX6_lay_54 rfl ?_
        refine g_imul C dX6_lay_55 ?_
        refine g_iload_n C 2 dX6_lay_56 rfl ?_
        refine g_iadd C dX6_lay_57 ?_
        refine g_iald C Kf (qAM_2 hK0) dX6_lay_58 hf (fun hf => ?_)
        refine g_istoreB C (fun x4_5 => [(4, .int x4_5), (0, .ref (K.2.1 0)), (1, .int x1), (2, .int x2), (3, .int x3)]) dX6_lay_59 (by decide) (fun _ => rfl) hf (fun x4_5 hf => ?_)
        refine g_aload_n C 1 dX6_lay_61 rfl ?_
        refine g_getR C Kf cl_X6 (qF_X6_1 hK0) (by decide) dX6_lay_62 kf_X6_13 ?_
        refine g_bipush (v := 40) C dX6_lay_65 (by decide) ?_
        refine g_iload_n C 2 dX6_lay_67 rfl ?_
        refine g_imul C dX6_lay_68 ?_
        refine g_iload_n C 3 dX6_lay_69 rfl ?_
        refine g_iadd C dX6_lay_70 ?_
        refine g_iload_n C 4 dX6_lay_71 rfl ?_
        refine g_iast C Kf (qAM_2 hK0) dX6_lay_72 hf (fun σ_6 hf => ?_)
        refine g_aload_n C 1 dX6_lay_73 rfl ?_
        refine g_iload C 0 dX6_lay_74 rfl ?_
        obtain ⟨r_8, σ_9, h_7, hf⟩ := b2_some hf
        refine g_cV_i C Kf [.int x4_5] (mX6_tell hK0 X.1.2.1 σ_6 x4_5 r_8 σ_9 h_7) mi_X6_tell (qO_X6 hK0) rfl km_X6_83 ⟨rfl, rfl, by decide, by decide⟩ rfl rfl (Nat.le_of_ble_eq_true rfl) dX6_lay_76 ?_
        exact g_iretP C Kf hR dX6_lay_79 hf
      · refine g_aload_n C 0 dX6_lay_42 rfl ?_
        refine g_iconst (v := 2) C dX6_lay_43 (by decide) ?_
        obtain ⟨r_11, σ_12, h_10, hf⟩ := b2_some hf
        refine g_cV_i C Kf [.int 2] (mX6_found hK0 X.1.2.1 σ 2 r_11 σ_12 h_10) mi_X6_found (qO_X6 hK0) rfl km_X6_79 ⟨rfl, rfl, by decide, by decide⟩ rfl rfl (Nat.le_of_ble_eq_true rfl) dX6_lay_44 ?_
        exact g_iretP C Kf hR dX6_lay_47 hf
    · refine g_aload_n C 0 dX6_lay_18 rfl ?_
      refine g_iconst (v := 1) C dX6_lay_19 (by decide) ?_
      obtain ⟨r_14, σ_15, h_13, hf⟩ := b2_some hf
      refine g_cV_i C Kf [.int 1] (mX6_found hK0 X.1.2.1 σ 1 r_14 σ_15 h_13) mi_X6_found (qO_X6 hK0) rfl km_X6_79 ⟨rfl, rfl, by decide, by decide⟩ rfl rfl (Nat.le_of_ble_eq_true rfl) dX6_lay_20 ?_
      exact g_iretP C Kf hR dX6_lay_23 hf
  · refine g_iconst (v := (-1)) C dX6_lay_7 (by decide) ?_
    exact g_iretP C Kf hR dX6_lay_8 hf
abbrev rmX6_remembers : Room := { frames := 1, cells := 0, slots := 0, locals := 25 }
set_option maxHeartbeats 4000000 in
set_option maxRecDepth 100000 in
theorem mX6_remembers {K : Kx} (hK0 : isKM K) (l : Launch) (σ : St)   (σ' : St) (hf : f6_remembers σ = some σ') : mC K l yX6_remembers cX6_remembers 1 none rmX6_remembers [.ref (K.2.1 0)] σ none σ' := by
  refine g_entry (own := RX6) rfl (by decide +kernel) (Nat.le_of_ble_eq_true rfl) (fun X hX C Kf hR => ?_)
  subst hX
  unfold f6_remembers at hf
  show gG X σ 0 [(0, .ref (K.2.1 0))] []
  refine g_aload_n C 0 dX6_remembers_0 rfl ?_
  refine g_getR C Kf cl_X6 (qF_X6_6 hK0) (by decide) dX6_remembers_1 kf_X6_25 ?_
  refine g_iconst (v := 0) C dX6_remembers_4 (by decide) ?_
  refine g_aload_n C 0 dX6_remembers_5 rfl ?_
  refine g_getR C Kf cl_X6 (qF_X6_8 hK0) (by decide) dX6_remembers_6 kf_X6_31 ?_
  refine g_bipush (v := 25) C dX6_remembers_9 (by decide) ?_
  refine g_aload_n C 0 dX6_remembers_11 rfl ?_
  refine g_getI C Kf cl_X6 (qF_X6_9 hK0) (by decide) dX6_remembers_12 kf_X6_109 ?_
  refine g_imul C dX6_remembers_15 ?_
  refine g_bipush (v := 25) C dX6_remembers_16 (by decide) ?_
  obtain ⟨σ_2, h_1, hf⟩ := b1_some hf
  refine g_cS_v C Kf [.ref (K.2.1 6), .int 0, .ref (K.2.1 8), .int (25 * (σ.1 0 9)), .int 25] (mX6_copies hK0 X.1.2.1 σ 6 0 8 (25 * (σ.1 0 9)) 25 (by decide) (by decide) σ_2 h_1) mi_X6_copies km_X6_105 ⟨rfl, rfl, by decide, by decide⟩ rfl rfl (Nat.le_of_ble_eq_true rfl) dX6_remembers_18 ?_
  refine g_aload_n C 0 dX6_remembers_21 rfl ?_
  refine g_dup C dX6_remembers_22 rfl ?_
  refine g_getI C Kf cl_X6 (qF_X6_9 hK0) (by decide) dX6_remembers_23 kf_X6_109 ?_
  refine g_iconst (v := 1) C dX6_remembers_26 (by decide) ?_
  refine g_iadd C dX6_remembers_27 ?_
  refine g_putI C Kf cl_X6 (qF_X6_9 hK0) (by decide) rfl rfl rfl dX6_remembers_28 kf_X6_109 hf (fun σ_3 hf => ?_)
  exact g_vretP C Kf hR dX6_remembers_31 hf
abbrev rmX6_lifts : Room := { frames := 1, cells := 0, slots := 0, locals := 25 }
set_option maxHeartbeats 4000000 in
set_option maxRecDepth 100000 in
theorem wL6_lifts_19 {X : Gx St} {K : Kx} (hK0 : isKM K) (σ : St) (x1 : Int32) (σ' : St) (C : gF X cX6_lifts RX6 none 3 rmX6_lifts) (Kf : kF X K) (hR : gR X K none σ') (k : St → Option (St)) (Hk : ∀ (σ_7 : St), k σ_7 = some σ' → gG X σ_7 52 [] []) : ∀ (n : Nat) (x2_3 : Int32) (σ_4 : St), L6_lifts_19 x1 k n x2_3 σ_4 = some σ' → gG X σ_4 19 [(0, .ref (K.2.1 0)), (1, .int x1), (2, .int x2_3)] [] := by
  intro n
  induction n with
  | zero => intro _ _ hf; unfold L6_lifts_19 at hf; cases hf
  | succ n ih =>
  intro x2_3 σ_4 hf
  unfold L6_lifts_19 at hf
  refine g_iload_n C 2 dX6_lifts_19 rfl ?_
  refine g_aload_n C 0 dX6_lifts_20 rfl ?_
  refine g_getI C Kf cl_X6 (qF_X6_4 hK0) (by decide) dX6_lifts_21 kf_X6_102 ?_
  refine g_icmp_ge C 52 dX6_lifts_24 (by decide) hf (fun hf => ?_) (fun hf => ?_)
  · refine g_cut [] rfl ?_
    exact Hk _ hf
  · refine g_aload_n C 0 dX6_lifts_27 rfl ?_
    refine g_getR C Kf cl_X6 (qF_X6_6 hK0) (by decide) dX6_lifts_28 kf_X6_25 ?_
    refine g_iload_n C 2 dX6_lifts_31 rfl ?_
    refine g_aload_n C 0 dX6_lifts_32 rfl ?_
    refine g_getR C Kf cl_X6 (qF_X6_20 hK0) (by decide) dX6_lifts_33 kf_X6_54 ?_
    refine g_iload_n C 2 dX6_lifts_36 rfl ?_
    refine g_iload_n C 1 dX6_lifts_37 rfl ?_
    refine g_iadd C dX6_lifts_38 ?_
    refine g_aload_n C 0 dX6_lifts_39 rfl ?_
    refine g_getI C Kf cl_X6 (qF_X6_4 hK0) (by decide) dX6_lifts_40 kf_X6_102 ?_
    refine g_irem C dX6_lifts_43 hf (fun hf => ?_)
    refine g_iald C Kf (qAM_14 hK0) dX6_lifts_44 hf (fun hf => ?_)
    refine g_iast C Kf (qAM_6 hK0) dX6_lifts_45 hf (fun σ_5 hf => ?_)
    refine g_iinc (d := 1) C 2 (fun x2_6 => [(2, .int x2_6), (0, .ref (K.2.1 0)), (1, .int x1)]) dX6_lifts_46 rfl (by decide) (by decide) (fun _ => rfl) hf (fun x2_6 hf => ?_)
    refine g_goto C 19 dX6_lifts_49 (by decide) ?_
    refine g_cut [1, 2, 0] rfl ?_
    exact ih _ _ hf
set_option maxHeartbeats 4000000 in
set_option maxRecDepth 100000 in
theorem mX6_lifts {K : Kx} (hK0 : isKM K) (l : Launch) (σ : St) (x1 : Int32)  (σ' : St) (hf : f6_lifts σ x1 = some σ') : mC K l yX6_lifts cX6_lifts 3 none rmX6_lifts [.ref (K.2.1 0), .int x1] σ none σ' := by
  refine g_entry (own := RX6) rfl (by decide +kernel) (Nat.le_of_ble_eq_true rfl) (fun X hX C Kf hR => ?_)
  subst hX
  unfold f6_lifts at hf
  show gG X σ 0 [(0, .ref (K.2.1 0)), (1, .int x1)] []
  refine g_aload_n C 0 dX6_lifts_0 rfl ?_
  refine g_getR C Kf cl_X6 (qF_X6_6 hK0) (by decide) dX6_lifts_1 kf_X6_25 ?_
  refine g_iconst (v := 0) C dX6_lifts_4 (by decide) ?_
  refine g_aload_n C 0 dX6_lifts_5 rfl ?_
  refine g_getR C Kf cl_X6 (qF_X6_20 hK0) (by decide) dX6_lifts_6 kf_X6_54 ?_
  refine g_iconst (v := 0) C dX6_lifts_9 (by decide) ?_
  refine g_aload_n C 0 dX6_lifts_10 rfl ?_
  refine g_getI C Kf cl_X6 (qF_X6_4 hK0) (by decide) dX6_lifts_11 kf_X6_102 ?_
  obtain ⟨σ_2, h_1, hf⟩ := b1_some hf
  refine g_cS_v C Kf [.ref (K.2.1 6), .int 0, .ref (K.2.1 14), .int 0, .int (σ.1 0 4)] (mX6_copies hK0 X.1.2.1 σ 6 0 14 0 (σ.1 0 4) (by decide) (by decide) σ_2 h_1) mi_X6_copies km_X6_105 ⟨rfl, rfl, by decide, by decide⟩ rfl rfl (Nat.le_of_ble_eq_true rfl) dX6_lifts_14 ?_
  refine g_iconst (v := 0) C dX6_lifts_17 (by decide) ?_
  refine g_istore_n C [(2, .int 0), (0, .ref (K.2.1 0)), (1, .int x1)] dX6_lifts_18 rfl (by decide) rfl ?_
  refine g_cut [1, 2, 0] rfl ?_
  refine wL6_lifts_19 hK0 σ_2 x1 _ C Kf hR _ (fun σ_8 hf => ?_) _ _ _ hf
  exact g_vretP C Kf hR dX6_lifts_52 hf
abbrev rmX6_lift : Room := { frames := 2, cells := 0, slots := 0, locals := 47 }
set_option maxHeartbeats 4000000 in
set_option maxRecDepth 100000 in
theorem mX6_lift {K : Kx} (hK0 : isKM K) (l : Launch) (σ : St) (x1 : Int32)  (r : Int32) (σ' : St) (hf : f6_lift σ x1 = some (r, σ')) : mC K l yX6_lift cX6_lift 2 (some .int) rmX6_lift [.ref (K.2.1 0), .int x1] σ (some (.int r)) σ' := by
  refine g_entry (own := RX6) rfl (by decide +kernel) (Nat.le_of_ble_eq_true rfl) (fun X hX C Kf hR => ?_)
  subst hX
  unfold f6_lift at hf
  show gG X σ 0 [(0, .ref (K.2.1 0)), (1, .int x1)] []
  refine g_aload_n C 0 dX6_lift_0 rfl ?_
  refine g_getI C Kf cl_X6 (qF_X6_4 hK0) (by decide) dX6_lift_1 kf_X6_102 ?_
  refine g_if_ne C 10 dX6_lift_4 (by decide) hf (fun hf => ?_) (fun hf => ?_)
  · refine g_iload_n C 1 dX6_lift_10 rfl ?_
    refine g_i2l C dX6_lift_11 ?_
    refine g_lconst (v := 1) C dX6_lift_12 (by decide) ?_
    refine g_aload_n C 0 dX6_lift_13 rfl ?_
    refine g_getI C Kf cl_X6 (qF_X6_4 hK0) (by decide) dX6_lift_14 kf_X6_102 ?_
    refine g_iconst (v := 1) C dX6_lift_17 (by decide) ?_
    refine g_isub C dX6_lift_18 ?_
    refine g_i2l C dX6_lift_19 ?_
    obtain ⟨r_2, h_1, hf⟩ := b1_some hf
    refine g_cS_i C Kf [.long (x1.toInt64), .long 1, .long (((σ.1 0 4) - 1).toInt64)] (mX6_in hK0 X.1.2.1 σ (x1.toInt64) 1 (((σ.1 0 4) - 1).toInt64) r_2 h_1) mi_X6_in km_X6_69 ⟨rfl, rfl, by decide, by decide⟩ rfl rfl (Nat.le_of_ble_eq_true rfl) dX6_lift_20 ?_
    refine g_if_ne C 28 dX6_lift_23 (by decide) hf (fun hf => ?_) (fun hf => ?_)
    · refine g_aload_n C 0 dX6_lift_28 rfl ?_
      refine g_getI C Kf cl_X6 (qF_X6_9 hK0) (by decide) dX6_lift_29 kf_X6_109 ?_
      refine g_bipush (v := 40) C dX6_lift_32 (by decide) ?_
      refine g_icmp_ne C 40 dX6_lift_34 (by decide) hf (fun hf => ?_) (fun hf => ?_)
      · refine g_aload_n C 0 dX6_lift_40 rfl ?_
        obtain ⟨σ_4, h_3, hf⟩ := b1_some hf
        refine g_cV_v C Kf [] (mX6_remembers hK0 X.1.2.1 σ σ_4 h_3) mi_X6_remembers (qO_X6 hK0) rfl km_X6_146 ⟨rfl, rfl, by decide, by decide⟩ rfl rfl (Nat.le_of_ble_eq_true rfl) dX6_lift_41 ?_
        refine g_aload_n C 0 dX6_lift_44 rfl ?_
        refine g_iload_n C 1 dX6_lift_45 rfl ?_
        obtain ⟨σ_6, h_5, hf⟩ := b1_some hf
        refine g_cV_v C Kf [.int x1] (mX6_lifts hK0 X.1.2.1 σ_4 x1 σ_6 h_5) mi_X6_lifts (qO_X6 hK0) rfl km_X6_156 ⟨rfl, rfl, by decide, by decide⟩ rfl rfl (Nat.le_of_ble_eq_true rfl) dX6_lift_46 ?_
        refine g_aload_n C 0 dX6_lift_49 rfl ?_
        refine g_getR C Kf cl_X6 (qF_X6_6 hK0) (by decide) dX6_lift_50 kf_X6_25 ?_
        refine g_iconst (v := 0) C dX6_lift_53 (by decide) ?_
        refine g_ialdL C Kf 0 (by decide) (by unfold vp_in; decide) (qAM_6 hK0) dX6_lift_54 ?_
        exact g_iretP C Kf hR dX6_lift_55 hf
      · refine g_bipush (v := (-2)) C dX6_lift_37 (by decide) ?_
        exact g_iretP C Kf hR dX6_lift_39 hf
    · refine g_iconst (v := (-1)) C dX6_lift_26 (by decide) ?_
      exact g_iretP C Kf hR dX6_lift_27 hf
  · refine g_bipush (v := (-4)) C dX6_lift_7 (by decide) ?_
    exact g_iretP C Kf hR dX6_lift_9 hf
abbrev rmX6_turns : Room := { frames := 1, cells := 0, slots := 0, locals := 25 }
set_option maxHeartbeats 4000000 in
set_option maxRecDepth 100000 in
theorem wL6_turns_19 {X : Gx St} {K : Kx} (hK0 : isKM K) (σ : St) (σ' : St) (C : gF X cX6_turns RX6 none 2 rmX6_turns) (Kf : kF X K) (hR : gR X K none σ') (k : St → Option (St)) (Hk : ∀ (σ_7 : St), k σ_7 = some σ' → gG X σ_7 52 [] []) : ∀ (n : Nat) (x1_3 : Int32) (σ_4 : St), L6_turns_19 k n x1_3 σ_4 = some σ' → gG X σ_4 19 [(0, .ref (K.2.1 0)), (1, .int x1_3)] [] := by
  intro n
  induction n with
  | zero => intro _ _ hf; unfold L6_turns_19 at hf; cases hf
  | succ n ih =>
  intro x1_3 σ_4 hf
  unfold L6_turns_19 at hf
  refine g_iload_n C 1 dX6_turns_19 rfl ?_
  refine g_aload_n C 0 dX6_turns_20 rfl ?_
  refine g_getI C Kf cl_X6 (qF_X6_4 hK0) (by decide) dX6_turns_21 kf_X6_102 ?_
  refine g_icmp_ge C 52 dX6_turns_24 (by decide) hf (fun hf => ?_) (fun hf => ?_)
  · refine g_cut [] rfl ?_
    exact Hk _ hf
  · refine g_aload_n C 0 dX6_turns_27 rfl ?_
    refine g_getR C Kf cl_X6 (qF_X6_6 hK0) (by decide) dX6_turns_28 kf_X6_25 ?_
    refine g_iload_n C 1 dX6_turns_31 rfl ?_
    refine g_aload_n C 0 dX6_turns_32 rfl ?_
    refine g_getR C Kf cl_X6 (qF_X6_20 hK0) (by decide) dX6_turns_33 kf_X6_54 ?_
    refine g_aload_n C 0 dX6_turns_36 rfl ?_
    refine g_getI C Kf cl_X6 (qF_X6_4 hK0) (by decide) dX6_turns_37 kf_X6_102 ?_
    refine g_iconst (v := 1) C dX6_turns_40 (by decide) ?_
    refine g_isub C dX6_turns_41 ?_
    refine g_iload_n C 1 dX6_turns_42 rfl ?_
    refine g_isub C dX6_turns_43 ?_
    refine g_iald C Kf (qAM_14 hK0) dX6_turns_44 hf (fun hf => ?_)
    refine g_iast C Kf (qAM_6 hK0) dX6_turns_45 hf (fun σ_5 hf => ?_)
    refine g_iinc (d := 1) C 1 (fun x1_6 => [(1, .int x1_6), (0, .ref (K.2.1 0))]) dX6_turns_46 rfl (by decide) (by decide) (fun _ => rfl) hf (fun x1_6 hf => ?_)
    refine g_goto C 19 dX6_turns_49 (by decide) ?_
    refine g_cut [1, 0] rfl ?_
    exact ih _ _ hf
set_option maxHeartbeats 4000000 in
set_option maxRecDepth 100000 in
theorem mX6_turns {K : Kx} (hK0 : isKM K) (l : Launch) (σ : St)   (σ' : St) (hf : f6_turns σ = some σ') : mC K l yX6_turns cX6_turns 2 none rmX6_turns [.ref (K.2.1 0)] σ none σ' := by
  refine g_entry (own := RX6) rfl (by decide +kernel) (Nat.le_of_ble_eq_true rfl) (fun X hX C Kf hR => ?_)
  subst hX
  unfold f6_turns at hf
  show gG X σ 0 [(0, .ref (K.2.1 0))] []
  refine g_aload_n C 0 dX6_turns_0 rfl ?_
  refine g_getR C Kf cl_X6 (qF_X6_6 hK0) (by decide) dX6_turns_1 kf_X6_25 ?_
  refine g_iconst (v := 0) C dX6_turns_4 (by decide) ?_
  refine g_aload_n C 0 dX6_turns_5 rfl ?_
  refine g_getR C Kf cl_X6 (qF_X6_20 hK0) (by decide) dX6_turns_6 kf_X6_54 ?_
  refine g_iconst (v := 0) C dX6_turns_9 (by decide) ?_
  refine g_aload_n C 0 dX6_turns_10 rfl ?_
  refine g_getI C Kf cl_X6 (qF_X6_4 hK0) (by decide) dX6_turns_11 kf_X6_102 ?_
  obtain ⟨σ_2, h_1, hf⟩ := b1_some hf
  refine g_cS_v C Kf [.ref (K.2.1 6), .int 0, .ref (K.2.1 14), .int 0, .int (σ.1 0 4)] (mX6_copies hK0 X.1.2.1 σ 6 0 14 0 (σ.1 0 4) (by decide) (by decide) σ_2 h_1) mi_X6_copies km_X6_105 ⟨rfl, rfl, by decide, by decide⟩ rfl rfl (Nat.le_of_ble_eq_true rfl) dX6_turns_14 ?_
  refine g_iconst (v := 0) C dX6_turns_17 (by decide) ?_
  refine g_istore_n C [(1, .int 0), (0, .ref (K.2.1 0))] dX6_turns_18 rfl (by decide) rfl ?_
  refine g_cut [1, 0] rfl ?_
  refine wL6_turns_19 hK0 σ_2 _ C Kf hR _ (fun σ_8 hf => ?_) _ _ _ hf
  exact g_vretP C Kf hR dX6_turns_52 hf
abbrev rmX6_lots : Room := { frames := 5, cells := 0, slots := 0, locals := 121 }
set_option maxHeartbeats 4000000 in
set_option maxRecDepth 100000 in
theorem wL6_lots_56 {X : Gx St} {K : Kx} (hK0 : isKM K) (σ : St) (x1 : Int32) (r : Int32) (σ' : St) (C : gF X cX6_lots RX6 (some .int) 8 rmX6_lots) (Kf : kF X K) (hR : gR X K (some (.int r)) σ') (k : St → Option (Int32 × St)) (Hk : ∀ (σ_26 : St), k σ_26 = some (r, σ') → gG X σ_26 199 [(0, .ref (K.2.1 0))] []) : ∀ (n : Nat) (x3_6 : Int64) (x5_7 : Int32) (σ_8 : St), L6_lots_56 x1 k n x3_6 x5_7 σ_8 = some (r, σ') → gG X σ_8 56 [(0, .ref (K.2.1 0)), (1, .int x1), (3, .long x3_6), (5, .int x5_7)] [] := by
  intro n
  induction n with
  | zero => intro _ _ _ hf; unfold L6_lots_56 at hf; cases hf
  | succ n ih =>
  intro x3_6 x5_7 σ_8 hf
  unfold L6_lots_56 at hf
  refine g_iload C 3 dX6_lots_56 rfl ?_
  refine g_iload_n C 1 dX6_lots_58 rfl ?_
  refine g_icmp_ge C 199 dX6_lots_59 (by decide) hf (fun hf => ?_) (fun hf => ?_)
  · refine g_cut [0] rfl ?_
    exact Hk _ hf
  · refine g_lload_n C 2 dX6_lots_62 rfl ?_
    refine g_ldc2 (v := 48271) C dX6_lots_63 kl_X6_227 ?_
    refine g_lmul C dX6_lots_66 ?_
    refine g_ldc2 (v := 2147483647) C dX6_lots_67 kl_X6_229 ?_
    refine g_lrem0 C dX6_lots_70 (by decide) ?_
    refine g_lstore_nB C (fun x3_9 => [(3, .long x3_9), (0, .ref (K.2.1 0)), (1, .int x1), (5, .int x5_7)]) dX6_lots_71 rfl (by decide) (fun _ => rfl) hf (fun x3_9 hf => ?_)
    refine g_lload_n C 0 dX6_lots_72 rfl ?_
    refine g_ldc2 (v := 8) C dX6_lots_73 kl_X6_231 ?_
    refine g_ldiv0 C dX6_lots_76 (by decide) ?_
    refine g_ldc2 (v := 8) C dX6_lots_77 kl_X6_231 ?_
    refine g_lrem0 C dX6_lots_80 (by decide) ?_
    refine g_l2i C dX6_lots_81 ?_
    refine g_istoreB C (fun x6_10 => [(6, .int x6_10), (3, .long x3_9), (0, .ref (K.2.1 0)), (1, .int x1), (5, .int x5_7)]) dX6_lots_82 (by decide) (fun _ => rfl) hf (fun x6_10 hf => ?_)
    refine g_lload_n C 1 dX6_lots_84 rfl ?_
    refine g_ldc2 (v := 3) C dX6_lots_85 kl_X6_73 ?_
    refine g_lrem0 C dX6_lots_88 (by decide) ?_
    refine g_l2i C dX6_lots_89 ?_
    refine g_istoreB C (fun x7_11 => [(7, .int x7_11), (6, .int x6_10), (3, .long x3_9), (0, .ref (K.2.1 0)), (1, .int x1), (5, .int x5_7)]) dX6_lots_90 (by decide) (fun _ => rfl) hf (fun x7_11 hf => ?_)
    refine g_aload_n C 3 dX6_lots_92 rfl ?_
    obtain ⟨σ_13, h_12, hf⟩ := b1_some hf
    refine g_cV_v C Kf [] (mX6_remembers hK0 X.1.2.1 σ_8 σ_13 h_12) mi_X6_remembers (qO_X6 hK0) rfl km_X6_146 ⟨rfl, rfl, by decide, by decide⟩ rfl rfl (Nat.le_of_ble_eq_true rfl) dX6_lots_93 ?_
    refine g_iload C 1 dX6_lots_96 rfl ?_
    refine g_iconst (v := 5) C dX6_lots_98 (by decide) ?_
    refine g_jn hf (fun j_15 ej_17 hf => ?_)
    have HJ_16 : ∀ (σ_14 : St), j_15 σ_14 = some (r, σ') → gG X σ_14 193 [(0, .ref (K.2.1 0)), (1, .int x1), (3, .long x3_9), (5, .int x5_7)] [] := by
      intro σ_14 hf
      rw [ej_17] at hf
      refine g_iinc (d := 1) C 3 (fun x5_18 => [(5, .int x5_18), (0, .ref (K.2.1 0)), (1, .int x1), (3, .long x3_9)]) dX6_lots_193 rfl (by decide) (by decide) (fun _ => rfl) hf (fun x5_18 hf => ?_)
      refine g_goto C 56 dX6_lots_196 (by decide) ?_
      refine g_cut [1, 2, 3, 0] rfl ?_
      exact ih _ _ _ hf
    refine g_icmp_ge C 115 dX6_lots_99 (by decide) hf (fun hf => ?_) (fun hf => ?_)
    · refine g_iload C 1 dX6_lots_115 rfl ?_
      refine g_iconst (v := 5) C dX6_lots_117 (by decide) ?_
      refine g_icmp_ne C 128 dX6_lots_118 (by decide) hf (fun hf => ?_) (fun hf => ?_)
      · refine g_iload C 1 dX6_lots_128 rfl ?_
        refine g_bipush (v := 6) C dX6_lots_130 (by decide) ?_
        refine g_icmp_ne C 158 dX6_lots_132 (by decide) hf (fun hf => ?_) (fun hf => ?_)
        · refine g_aload_n C 3 dX6_lots_158 rfl ?_
          refine g_getR C Kf cl_X6 (qF_X6_6 hK0) (by decide) dX6_lots_159 kf_X6_25 ?_
          refine g_bipush (v := 6) C dX6_lots_162 (by decide) ?_
          refine g_iconst (v := 3) C dX6_lots_164 (by decide) ?_
          refine g_lload_n C 2 dX6_lots_165 rfl ?_
          refine g_ldc2 (v := 64) C dX6_lots_166 kl_X6_233 ?_
          refine g_ldiv0 C dX6_lots_169 (by decide) ?_
          refine g_aload_n C 3 dX6_lots_170 rfl ?_
          refine g_getI C Kf cl_X6 (qF_X6_4 hK0) (by decide) dX6_lots_171 kf_X6_102 ?_
          refine g_i2l C dX6_lots_174 ?_
          refine g_lrem C dX6_lots_175 hf (fun hf => ?_)
          refine g_l2i C dX6_lots_176 ?_
          refine g_imul C dX6_lots_177 ?_
          refine g_iadd C dX6_lots_178 ?_
          refine g_iload C 0 dX6_lots_179 rfl ?_
          refine g_iadd C dX6_lots_181 ?_
          refine g_lload_n C 2 dX6_lots_182 rfl ?_
          refine g_ldc2 (v := 512) C dX6_lots_183 kl_X6_235 ?_
          refine g_ldiv0 C dX6_lots_186 (by decide) ?_
          refine g_ldc2 (v := 10) C dX6_lots_187 kl_X6_182 ?_
          refine g_lrem0 C dX6_lots_190 (by decide) ?_
          refine g_l2i C dX6_lots_191 ?_
          refine g_iast C Kf (qAM_6 hK0) dX6_lots_192 hf (fun σ_19 hf => ?_)
          refine g_cut [3, 4, 2, 5] rfl ?_
          exact HJ_16 _ hf
        · refine g_aload_n C 3 dX6_lots_135 rfl ?_
          refine g_iconst (v := 1) C dX6_lots_136 (by decide) ?_
          refine g_lload_n C 2 dX6_lots_137 rfl ?_
          refine g_ldc2 (v := 64) C dX6_lots_138 kl_X6_233 ?_
          refine g_ldiv0 C dX6_lots_141 (by decide) ?_
          refine g_aload_n C 3 dX6_lots_142 rfl ?_
          refine g_getI C Kf cl_X6 (qF_X6_4 hK0) (by decide) dX6_lots_143 kf_X6_102 ?_
          refine g_iconst (v := 1) C dX6_lots_146 (by decide) ?_
          refine g_isub C dX6_lots_147 ?_
          refine g_i2l C dX6_lots_148 ?_
          refine g_lrem C dX6_lots_149 hf (fun hf => ?_)
          refine g_l2i C dX6_lots_150 ?_
          refine g_iadd C dX6_lots_151 ?_
          obtain ⟨σ_21, h_20, hf⟩ := b1_some hf
          refine g_cV_v C Kf [.int (1 + (((x3_9 / 64) - (x3_9 / 64) / (((σ_13.1 0 4) - 1).toInt64) * (((σ_13.1 0 4) - 1).toInt64)).toInt32))] (mX6_lifts hK0 X.1.2.1 σ_13 (1 + (((x3_9 / 64) - (x3_9 / 64) / (((σ_13.1 0 4) - 1).toInt64) * (((σ_13.1 0 4) - 1).toInt64)).toInt32)) σ_21 h_20) mi_X6_lifts (qO_X6 hK0) rfl km_X6_156 ⟨rfl, rfl, by decide, by decide⟩ rfl rfl (Nat.le_of_ble_eq_true rfl) dX6_lots_152 ?_
          refine g_goto C 193 dX6_lots_155 (by decide) ?_
          refine g_cut [3, 4, 2, 5] rfl ?_
          exact HJ_16 _ hf
      · refine g_aload_n C 3 dX6_lots_121 rfl ?_
        obtain ⟨σ_23, h_22, hf⟩ := b1_some hf
        refine g_cV_v C Kf [] (mX6_turns hK0 X.1.2.1 σ_13 σ_23 h_22) mi_X6_turns (qO_X6 hK0) rfl km_X6_153 ⟨rfl, rfl, by decide, by decide⟩ rfl rfl (Nat.le_of_ble_eq_true rfl) dX6_lots_122 ?_
        refine g_goto C 193 dX6_lots_125 (by decide) ?_
        refine g_cut [3, 4, 2, 5] rfl ?_
        exact HJ_16 _ hf
    · refine g_aload_n C 3 dX6_lots_102 rfl ?_
      refine g_aload_n C 3 dX6_lots_103 rfl ?_
      refine g_getR C Kf cl_X6 (qF_X6_6 hK0) (by decide) dX6_lots_104 kf_X6_25 ?_
      refine g_iload C 0 dX6_lots_107 rfl ?_
      obtain ⟨σ_25, h_24, hf⟩ := b1_some hf
      refine g_cV_v C Kf [.ref (K.2.1 6), .int x7_11] (mX6_passes hK0 X.1.2.1 σ_13 6 x7_11 (by decide) σ_25 h_24) mi_X6_passes (qO_X6 hK0) rfl km_X6_149 ⟨rfl, rfl, by decide, by decide⟩ rfl rfl (Nat.le_of_ble_eq_true rfl) dX6_lots_109 ?_
      refine g_goto C 193 dX6_lots_112 (by decide) ?_
      refine g_cut [3, 4, 2, 5] rfl ?_
      exact HJ_16 _ hf
set_option maxHeartbeats 4000000 in
set_option maxRecDepth 100000 in
theorem mX6_lots {K : Kx} (hK0 : isKM K) (l : Launch) (σ : St) (x1 : Int32) (x2 : Int32)  (r : Int32) (σ' : St) (hf : f6_lots σ x1 x2 = some (r, σ')) : mC K l yX6_lots cX6_lots 8 (some .int) rmX6_lots [.ref (K.2.1 0), .int x1, .int x2] σ (some (.int r)) σ' := by
  refine g_entry (own := RX6) rfl (by decide +kernel) (Nat.le_of_ble_eq_true rfl) (fun X hX C Kf hR => ?_)
  subst hX
  unfold f6_lots at hf
  show gG X σ 0 [(0, .ref (K.2.1 0)), (1, .int x1), (2, .int x2)] []
  refine g_iload_n C 1 dX6_lots_0 rfl ?_
  refine g_i2l C dX6_lots_1 ?_
  refine g_lconst (v := 1) C dX6_lots_2 (by decide) ?_
  refine g_ldc2 (v := 20) C dX6_lots_3 kl_X6_223 ?_
  obtain ⟨r_2, h_1, hf⟩ := b1_some hf
  refine g_cS_i C Kf [.long (x1.toInt64), .long 1, .long 20] (mX6_in hK0 X.1.2.1 σ (x1.toInt64) 1 20 r_2 h_1) mi_X6_in km_X6_69 ⟨rfl, rfl, by decide, by decide⟩ rfl rfl (Nat.le_of_ble_eq_true rfl) dX6_lots_6 ?_
  refine g_if_eq C 24 dX6_lots_9 (by decide) hf (fun hf => ?_) (fun hf => ?_)
  · refine g_iconst (v := (-1)) C dX6_lots_24 (by decide) ?_
    exact g_iretP C Kf hR dX6_lots_25 hf
  · refine g_iload_n C 2 dX6_lots_12 rfl ?_
    refine g_i2l C dX6_lots_13 ?_
    refine g_lconst (v := 1) C dX6_lots_14 (by decide) ?_
    refine g_ldc2 (v := 2147483646) C dX6_lots_15 kl_X6_225 ?_
    obtain ⟨r_4, h_3, hf⟩ := b1_some hf
    refine g_cS_i C Kf [.long (x2.toInt64), .long 1, .long 2147483646] (mX6_in hK0 X.1.2.1 σ (x2.toInt64) 1 2147483646 r_4 h_3) mi_X6_in km_X6_69 ⟨rfl, rfl, by decide, by decide⟩ rfl rfl (Nat.le_of_ble_eq_true rfl) dX6_lots_18 ?_
    refine g_if_ne C 26 dX6_lots_21 (by decide) hf (fun hf => ?_) (fun hf => ?_)
    · refine g_aload_n C 0 dX6_lots_26 rfl ?_
      refine g_getI C Kf cl_X6 (qF_X6_4 hK0) (by decide) dX6_lots_27 kf_X6_102 ?_
      refine g_if_ne C 36 dX6_lots_30 (by decide) hf (fun hf => ?_) (fun hf => ?_)
      · refine g_aload_n C 0 dX6_lots_36 rfl ?_
        refine g_getI C Kf cl_X6 (qF_X6_9 hK0) (by decide) dX6_lots_37 kf_X6_109 ?_
        refine g_iload_n C 1 dX6_lots_40 rfl ?_
        refine g_iadd C dX6_lots_41 ?_
        refine g_bipush (v := 40) C dX6_lots_42 (by decide) ?_
        refine g_icmp_le C 50 dX6_lots_44 (by decide) hf (fun hf => ?_) (fun hf => ?_)
        · refine g_iload_n C 2 dX6_lots_50 rfl ?_
          refine g_i2l C dX6_lots_51 ?_
          refine g_lstore_nB C (fun x3_5 => [(3, .long x3_5), (0, .ref (K.2.1 0)), (1, .int x1), (2, .int x2)]) dX6_lots_52 rfl (by decide) (fun _ => rfl) hf (fun x3_5 hf => ?_)
          refine g_iconst (v := 0) C dX6_lots_53 (by decide) ?_
          refine g_istore C [(5, .int 0), (3, .long x3_5), (0, .ref (K.2.1 0)), (1, .int x1), (2, .int x2)] dX6_lots_54 (by decide) rfl ?_
          refine g_cut [2, 3, 1, 0] rfl ?_
          refine wL6_lots_56 hK0 σ x1 _ _ C Kf hR _ (fun σ_27 hf => ?_) _ _ _ _ hf
          refine g_aload_n C 0 dX6_lots_199 rfl ?_
          refine g_getR C Kf cl_X6 (qF_X6_6 hK0) (by decide) dX6_lots_200 kf_X6_25 ?_
          refine g_iconst (v := 0) C dX6_lots_203 (by decide) ?_
          refine g_ialdL C Kf 0 (by decide) (by unfold vp_in; decide) (qAM_6 hK0) dX6_lots_204 ?_
          exact g_iretP C Kf hR dX6_lots_205 hf
        · refine g_bipush (v := (-2)) C dX6_lots_47 (by decide) ?_
          exact g_iretP C Kf hR dX6_lots_49 hf
      · refine g_bipush (v := (-4)) C dX6_lots_33 (by decide) ?_
        exact g_iretP C Kf hR dX6_lots_35 hf
    · refine g_iconst (v := (-1)) C dX6_lots_24 (by decide) ?_
      exact g_iretP C Kf hR dX6_lots_25 hf
abbrev rmX6_lower : Room := { frames := 0, cells := 0, slots := 0, locals := 0 }
set_option maxHeartbeats 4000000 in
set_option maxRecDepth 100000 in
theorem mX6_lower {K : Kx} (hK0 : isKM K) (l : Launch) (σ : St)   (r : Int64) (hf : f6_lower σ = some r) : mC K l yX6_lower cX6_lower 1 (some .long) rmX6_lower [.ref (K.2.1 0)] σ (some (.long r)) σ := by
  refine g_entry (own := RX6) rfl (by decide +kernel) (Nat.le_of_ble_eq_true rfl) (fun X hX C Kf hR => ?_)
  subst hX
  unfold f6_lower at hf
  show gG X σ 0 [(0, .ref (K.2.1 0))] []
  refine g_aload_n C 0 dX6_lower_0 rfl ?_
  refine g_getL C Kf cl_X6 (qF_X6_14 hK0) (by decide) dX6_lower_1 kf_X6_41 ?_
  exact g_lretR C Kf hR dX6_lower_4 hf
abbrev rmX6_mark : Room := { frames := 3, cells := 0, slots := 0, locals := 70 }
set_option maxHeartbeats 4000000 in
set_option maxRecDepth 100000 in
theorem wL6_mark_114 {X : Gx St} {K : Kx} (hK0 : isKM K) (σ : St) (x1 : Int32) (x2 : Int32) (r : Int32) (σ' : St) (C : gF X cX6_mark RX6 (some .int) 8 rmX6_mark) (Kf : kF X K) (hR : gR X K (some (.int r)) σ') (k : Int32 → Option (Int32 × St)) (Hk : ∀ (x4_11 : Int32), k x4_11 = some (r, σ') → gG X σ 202 [(4, .int x4_11)] []) : ∀ (n : Nat) (x4_9 : Int32) (x5_10 : Int32), L6_mark_114 σ x1 x2 k n x4_9 x5_10 = some (r, σ') → gG X σ 114 [(0, .ref (K.2.1 0)), (1, .int x1), (2, .int x2), (4, .int x4_9), (5, .int x5_10)] [] := by
  intro n
  induction n with
  | zero => intro _ _ hf; unfold L6_mark_114 at hf; cases hf
  | succ n ih =>
  intro x4_9 x5_10 hf
  unfold L6_mark_114 at hf
  refine g_iload C 4 dX6_mark_114 rfl ?_
  refine g_iconst (v := 3) C dX6_mark_116 (by decide) ?_
  refine g_icmp_ge C 202 dX6_mark_117 (by decide) hf (fun hf => ?_) (fun hf => ?_)
  · refine g_cut [3] rfl ?_
    exact Hk _ hf
  · refine g_aload_n C 0 dX6_mark_120 rfl ?_
    refine g_getR C Kf cl_X6 (qF_X6_6 hK0) (by decide) dX6_mark_121 kf_X6_25 ?_
    refine g_bipush (v := 6) C dX6_mark_124 (by decide) ?_
    refine g_iconst (v := 3) C dX6_mark_126 (by decide) ?_
    refine g_iload_n C 1 dX6_mark_127 rfl ?_
    refine g_imul C dX6_mark_128 ?_
    refine g_iadd C dX6_mark_129 ?_
    refine g_iload C 4 dX6_mark_130 rfl ?_
    refine g_iadd C dX6_mark_132 ?_
    refine g_iald C Kf (qAM_6 hK0) dX6_mark_133 hf (fun hf => ?_)
    refine g_istoreB C (fun x6_12 => [(6, .int x6_12), (0, .ref (K.2.1 0)), (1, .int x1), (2, .int x2), (4, .int x4_9), (5, .int x5_10)]) dX6_mark_134 (by decide) (fun _ => rfl) hf (fun x6_12 hf => ?_)
    refine g_aload_n C 1 dX6_mark_136 rfl ?_
    refine g_aload_n C 1 dX6_mark_137 rfl ?_
    refine g_getR C Kf cl_X6 (qF_X6_6 hK0) (by decide) dX6_mark_138 kf_X6_25 ?_
    refine g_iload_n C 2 dX6_mark_141 rfl ?_
    refine g_iload C 5 dX6_mark_142 rfl ?_
    obtain ⟨r_14, h_13, hf⟩ := b1_some hf
    refine g_cV_i C Kf [.ref (K.2.1 6), .int x1, .int x5_10] (mX6_readOn hK0 X.1.2.1 σ 6 x1 x5_10 (by decide) r_14 h_13) mi_X6_readOn (qO_X6 hK0) rfl km_X6_126 ⟨rfl, rfl, by decide, by decide⟩ rfl rfl (Nat.le_of_ble_eq_true rfl) dX6_mark_144 ?_
    refine g_istore C [(7, .int r_14), (6, .int x6_12), (0, .ref (K.2.1 0)), (1, .int x1), (2, .int x2), (4, .int x4_9), (5, .int x5_10)] dX6_mark_147 (by decide) rfl ?_
    refine g_iload C 5 dX6_mark_149 rfl ?_
    refine g_iload_n C 4 dX6_mark_151 rfl ?_
    refine g_iconst (v := 1) C dX6_mark_152 (by decide) ?_
    refine g_jn hf (fun j_16 ej_18 hf => ?_)
    have HJ_17 : ∀ (y_15 : Int32), j_16 y_15 = some (r, σ') → gG X σ 193 [(0, .ref (K.2.1 0)), (1, .int x1), (2, .int x2), (5, .int x5_10)] [.int y_15, .int x4_9] := by
      intro y_15 hf
      rw [ej_18] at hf
      refine g_iadd C dX6_mark_193 ?_
      refine g_istoreB C (fun x4_19 => [(4, .int x4_19), (0, .ref (K.2.1 0)), (1, .int x1), (2, .int x2), (5, .int x5_10)]) dX6_mark_194 (by decide) (fun _ => rfl) hf (fun x4_19 hf => ?_)
      refine g_iinc (d := 1) C 4 (fun x5_20 => [(5, .int x5_20), (4, .int x4_19), (0, .ref (K.2.1 0)), (1, .int x1), (2, .int x2)]) dX6_mark_196 rfl (by decide) (by decide) (fun _ => rfl) hf (fun x5_20 hf => ?_)
      refine g_goto C 114 dX6_mark_199 (by decide) ?_
      refine g_cut [2, 3, 4, 1, 0] rfl ?_
      exact ih _ _ hf
    refine g_jn hf (fun j_21 ej_23 hf => ?_)
    have HJ_22 : j_21 = some (r, σ') → gG X σ 192 [(0, .ref (K.2.1 0)), (1, .int x1), (2, .int x2), (5, .int x5_10)] [.int x4_9] := by
      intro hf
      rw [ej_23] at hf
      refine g_iconst (v := 0) C dX6_mark_192 (by decide) ?_
      exact HJ_17 _ hf
    refine g_jn hf (fun j_24 ej_26 hf => ?_)
    have HJ_25 : j_24 = some (r, σ') → gG X σ 188 [(0, .ref (K.2.1 0)), (1, .int x1), (2, .int x2), (5, .int x5_10)] [.int x4_9] := by
      intro hf
      rw [ej_26] at hf
      refine g_iconst (v := 1) C dX6_mark_188 (by decide) ?_
      refine g_goto C 193 dX6_mark_189 (by decide) ?_
      exact HJ_17 _ hf
    refine g_icmp_ne C 166 dX6_mark_153 (by decide) hf (fun hf => ?_) (fun hf => ?_)
    · refine g_iload_n C 4 dX6_mark_166 rfl ?_
      refine g_iconst (v := 3) C dX6_mark_167 (by decide) ?_
      refine g_icmp_ne C 181 dX6_mark_168 (by decide) hf (fun hf => ?_) (fun hf => ?_)
      · refine g_iload C 0 dX6_mark_181 rfl ?_
        refine g_bipush (v := 10) C dX6_mark_183 (by decide) ?_
        refine g_icmp_ne C 192 dX6_mark_185 (by decide) hf (fun hf => ?_) (fun hf => ?_)
        · refine g_cut [2, 3, 4, 6] rfl ?_
          exact HJ_22 hf
        · refine g_cut [2, 3, 4, 6] rfl ?_
          exact HJ_25 hf
      · refine g_iload C 0 dX6_mark_171 rfl ?_
        refine g_iload C 1 dX6_mark_173 rfl ?_
        refine g_icmp_le C 192 dX6_mark_175 (by decide) hf (fun hf => ?_) (fun hf => ?_)
        · refine g_cut [2, 3, 4, 6] rfl ?_
          exact HJ_22 hf
        · refine g_goto C 188 dX6_mark_178 (by decide) ?_
          refine g_cut [2, 3, 4, 6] rfl ?_
          exact HJ_25 hf
    · refine g_iload C 0 dX6_mark_156 rfl ?_
      refine g_iload C 1 dX6_mark_158 rfl ?_
      refine g_icmp_eq C 192 dX6_mark_160 (by decide) hf (fun hf => ?_) (fun hf => ?_)
      · refine g_cut [2, 3, 4, 6] rfl ?_
        exact HJ_22 hf
      · refine g_goto C 188 dX6_mark_163 (by decide) ?_
        refine g_cut [2, 3, 4, 6] rfl ?_
        exact HJ_25 hf
set_option maxHeartbeats 4000000 in
set_option maxRecDepth 100000 in
theorem mX6_mark {K : Kx} (hK0 : isKM K) (l : Launch) (σ : St) (x1 : Int32) (x2 : Int32)  (r : Int32) (σ' : St) (hf : f6_mark σ x1 x2 = some (r, σ')) : mC K l yX6_mark cX6_mark 8 (some .int) rmX6_mark [.ref (K.2.1 0), .int x1, .int x2] σ (some (.int r)) σ' := by
  refine g_entry (own := RX6) rfl (by decide +kernel) (Nat.le_of_ble_eq_true rfl) (fun X hX C Kf hR => ?_)
  subst hX
  unfold f6_mark at hf
  show gG X σ 0 [(0, .ref (K.2.1 0)), (1, .int x1), (2, .int x2)] []
  refine g_aload_n C 0 dX6_mark_0 rfl ?_
  refine g_iload_n C 1 dX6_mark_1 rfl ?_
  obtain ⟨r_2, h_1, hf⟩ := b1_some hf
  refine g_cV_i C Kf [.int x1] (mX6_isCard hK0 X.1.2.1 σ x1 r_2 h_1) mi_X6_isCard (qO_X6 hK0) rfl km_X6_134 ⟨rfl, rfl, by decide, by decide⟩ rfl rfl (Nat.le_of_ble_eq_true rfl) dX6_mark_2 ?_
  refine g_if_eq C 20 dX6_mark_5 (by decide) hf (fun hf => ?_) (fun hf => ?_)
  · refine g_iconst (v := (-1)) C dX6_mark_20 (by decide) ?_
    exact g_iretP C Kf hR dX6_mark_21 hf
  · refine g_iload_n C 2 dX6_mark_8 rfl ?_
    refine g_i2l C dX6_mark_9 ?_
    refine g_lconst (v := 1) C dX6_mark_10 (by decide) ?_
    refine g_ldc2 (v := 5) C dX6_mark_11 kl_X6_67 ?_
    obtain ⟨r_4, h_3, hf⟩ := b1_some hf
    refine g_cS_i C Kf [.long (x2.toInt64), .long 1, .long 5] (mX6_in hK0 X.1.2.1 σ (x2.toInt64) 1 5 r_4 h_3) mi_X6_in km_X6_69 ⟨rfl, rfl, by decide, by decide⟩ rfl rfl (Nat.le_of_ble_eq_true rfl) dX6_mark_14 ?_
    refine g_if_ne C 22 dX6_mark_17 (by decide) hf (fun hf => ?_) (fun hf => ?_)
    · refine g_aload_n C 0 dX6_mark_22 rfl ?_
      refine g_getR C Kf cl_X6 (qF_X6_5 hK0) (by decide) dX6_mark_23 kf_X6_22 ?_
      refine g_iload_n C 1 dX6_mark_26 rfl ?_
      refine g_iald C Kf (qAM_5 hK0) dX6_mark_27 hf (fun hf => ?_)
      refine g_istore_nB C (fun x3_5 => [(3, .int x3_5), (0, .ref (K.2.1 0)), (1, .int x1), (2, .int x2)]) dX6_mark_28 rfl (by decide) (fun _ => rfl) hf (fun x3_5 hf => ?_)
      refine g_iload_n C 0 dX6_mark_29 rfl ?_
      refine g_iload_n C 3 dX6_mark_30 rfl ?_
      refine g_jn hf (fun j_6 ej_8 hf => ?_)
      have HJ_7 : j_6 = some (r, σ') → gG X σ 60 [(0, .ref (K.2.1 0)), (1, .int x1), (2, .int x2)] [] := by
        intro hf
        rw [ej_8] at hf
        refine g_iload_n C 2 dX6_mark_60 rfl ?_
        refine g_iconst (v := 2) C dX6_mark_61 (by decide) ?_
        refine g_icmp_ne C 94 dX6_mark_62 (by decide) hf (fun hf => ?_) (fun hf => ?_)
        · refine g_iload_n C 2 dX6_mark_94 rfl ?_
          refine g_iconst (v := 5) C dX6_mark_95 (by decide) ?_
          refine g_icmp_ne C 108 dX6_mark_96 (by decide) hf (fun hf => ?_) (fun hf => ?_)
          · refine g_iconst (v := 0) C dX6_mark_108 (by decide) ?_
            refine g_istore C [(4, .int 0), (0, .ref (K.2.1 0)), (1, .int x1), (2, .int x2)] dX6_mark_109 (by decide) rfl ?_
            refine g_iconst (v := 0) C dX6_mark_111 (by decide) ?_
            refine g_istore C [(5, .int 0), (4, .int 0), (0, .ref (K.2.1 0)), (1, .int x1), (2, .int x2)] dX6_mark_112 (by decide) rfl ?_
            refine g_cut [2, 3, 4, 1, 0] rfl ?_
            refine wL6_mark_114 hK0 σ x1 x2 _ _ C Kf hR _ (fun x4_27 hf => ?_) _ _ _ hf
            refine g_iload C 0 dX6_mark_202 rfl ?_
            exact g_iretP C Kf hR dX6_mark_204 hf
          · refine g_aload_n C 0 dX6_mark_99 rfl ?_
            refine g_getR C Kf cl_X6 (qF_X6_6 hK0) (by decide) dX6_mark_100 kf_X6_25 ?_
            refine g_iload_n C 1 dX6_mark_103 rfl ?_
            obtain ⟨r_29, h_28, hf⟩ := b1_some hf
            refine g_cS_i C Kf [.ref (K.2.1 6), .int x1] (mX6_placeOf hK0 X.1.2.1 σ 6 x1 (by decide) r_29 h_28) mi_X6_placeOf km_X6_139 ⟨rfl, rfl, by decide, by decide⟩ rfl rfl (Nat.le_of_ble_eq_true rfl) dX6_mark_104 ?_
            exact g_iretP C Kf hR dX6_mark_107 hf
        · refine g_aload_n C 0 dX6_mark_65 rfl ?_
          refine g_getR C Kf cl_X6 (qF_X6_6 hK0) (by decide) dX6_mark_66 kf_X6_25 ?_
          refine g_bipush (v := 24) C dX6_mark_69 (by decide) ?_
          refine g_ialdL C Kf 24 (by decide) (by unfold vp_in; decide) (qAM_6 hK0) dX6_mark_71 ?_
          refine g_iconst (v := 4) C dX6_mark_72 (by decide) ?_
          refine g_idiv0 C dX6_mark_73 (by decide) ?_
          refine g_bipush (v := 9) C dX6_mark_74 (by decide) ?_
          refine g_icmp_ge C 91 dX6_mark_76 (by decide) hf (fun hf => ?_) (fun hf => ?_)
          · refine g_bipush (v := 9) C dX6_mark_91 (by decide) ?_
            exact g_iretP C Kf hR dX6_mark_93 hf
          · refine g_aload_n C 0 dX6_mark_79 rfl ?_
            refine g_getR C Kf cl_X6 (qF_X6_6 hK0) (by decide) dX6_mark_80 kf_X6_25 ?_
            refine g_bipush (v := 24) C dX6_mark_83 (by decide) ?_
            refine g_ialdL C Kf 24 (by decide) (by unfold vp_in; decide) (qAM_6 hK0) dX6_mark_85 ?_
            refine g_iconst (v := 4) C dX6_mark_86 (by decide) ?_
            refine g_idiv0 C dX6_mark_87 (by decide) ?_
            refine g_goto C 93 dX6_mark_88 (by decide) ?_
            exact g_iretP C Kf hR dX6_mark_93 hf
      refine g_icmp_eq C 60 dX6_mark_31 (by decide) hf (fun hf => ?_) (fun hf => ?_)
      · refine g_cut [1, 2, 3] rfl ?_
        exact HJ_7 hf
      · refine g_iload_n C 3 dX6_mark_34 rfl ?_
        refine g_iconst (v := 2) C dX6_mark_35 (by decide) ?_
        refine g_jn hf (fun j_30 ej_32 hf => ?_)
        have HJ_31 : j_30 = some (r, σ') → gG X σ 44 [(0, .ref (K.2.1 0)), (1, .int x1), (2, .int x2), (3, .int x3_5)] [] := by
          intro hf
          rw [ej_32] at hf
          refine g_iload_n C 2 dX6_mark_44 rfl ?_
          refine g_iconst (v := 3) C dX6_mark_45 (by decide) ?_
          refine g_jn hf (fun j_33 ej_35 hf => ?_)
          have HJ_34 : j_33 = some (r, σ') → gG X σ 54 [(0, .ref (K.2.1 0))] [] := by
            intro hf
            rw [ej_35] at hf
            refine g_aload_n C 0 dX6_mark_54 rfl ?_
            refine g_iconst (v := 3) C dX6_mark_55 (by decide) ?_
            obtain ⟨r_37, σ_38, h_36, hf⟩ := b2_some hf
            refine g_cV_i C Kf [.int 3] (mX6_found hK0 X.1.2.1 σ 3 r_37 σ_38 h_36) mi_X6_found (qO_X6 hK0) rfl km_X6_79 ⟨rfl, rfl, by decide, by decide⟩ rfl rfl (Nat.le_of_ble_eq_true rfl) dX6_mark_56 ?_
            exact g_iretP C Kf hR dX6_mark_59 hf
          refine g_icmp_ne C 54 dX6_mark_46 (by decide) hf (fun hf => ?_) (fun hf => ?_)
          · refine g_cut [0] rfl ?_
            exact HJ_34 hf
          · refine g_iload_n C 3 dX6_mark_49 rfl ?_
            refine g_iconst (v := 5) C dX6_mark_50 (by decide) ?_
            refine g_icmp_eq C 60 dX6_mark_51 (by decide) hf (fun hf => ?_) (fun hf => ?_)
            · refine g_cut [0, 1, 2] rfl ?_
              exact HJ_7 hf
            · refine g_cut [0] rfl ?_
              exact HJ_34 hf
        refine g_icmp_ne C 44 dX6_mark_36 (by decide) hf (fun hf => ?_) (fun hf => ?_)
        · refine g_cut [1, 2, 3, 0] rfl ?_
          exact HJ_31 hf
        · refine g_iload_n C 0 dX6_mark_39 rfl ?_
          refine g_iconst (v := 4) C dX6_mark_40 (by decide) ?_
          refine g_icmp_eq C 60 dX6_mark_41 (by decide) hf (fun hf => ?_) (fun hf => ?_)
          · refine g_cut [1, 2, 3] rfl ?_
            exact HJ_7 hf
          · refine g_cut [1, 2, 3, 0] rfl ?_
            exact HJ_31 hf
    · refine g_iconst (v := (-1)) C dX6_mark_20 (by decide) ?_
      exact g_iretP C Kf hR dX6_mark_21 hf
abbrev rmX6_mean : Room := { frames := 2, cells := 0, slots := 0, locals := 45 }
set_option maxHeartbeats 4000000 in
set_option maxRecDepth 100000 in
theorem wL6_mean_44 {X : Gx St} {K : Kx} (hK0 : isKM K) (σ : St) (x1 : Int32) (r : Int32) (σ' : St) (C : gF X cX6_mean RX6 (some .int) 5 rmX6_mean) (Kf : kF X K) (hR : gR X K (some (.int r)) σ') (k : Int64 → Option (Int32 × St)) (Hk : ∀ (x2_5 : Int64), k x2_5 = some (r, σ') → gG X σ 77 [(0, .ref (K.2.1 0)), (1, .int x1), (2, .long x2_5)] []) : ∀ (n : Nat) (x2_3 : Int64) (x4_4 : Int32), L6_mean_44 σ x1 k n x2_3 x4_4 = some (r, σ') → gG X σ 44 [(0, .ref (K.2.1 0)), (1, .int x1), (2, .long x2_3), (4, .int x4_4)] [] := by
  intro n
  induction n with
  | zero => intro _ _ hf; unfold L6_mean_44 at hf; cases hf
  | succ n ih =>
  intro x2_3 x4_4 hf
  unfold L6_mean_44 at hf
  refine g_iload C 3 dX6_mean_44 rfl ?_
  refine g_aload_n C 0 dX6_mean_46 rfl ?_
  refine g_getR C Kf cl_X6 (qF_X6_0 hK0) (by decide) dX6_mean_47 kf_X6_7 ?_
  refine g_iload_n C 1 dX6_mean_50 rfl ?_
  refine g_iald C Kf (qAM_1 hK0) dX6_mean_51 hf (fun hf => ?_)
  refine g_icmp_ge C 77 dX6_mean_52 (by decide) hf (fun hf => ?_) (fun hf => ?_)
  · refine g_cut [0, 1, 2] rfl ?_
    exact Hk _ hf
  · refine g_lload_n C 2 dX6_mean_55 rfl ?_
    refine g_aload_n C 0 dX6_mean_56 rfl ?_
    refine g_getR C Kf cl_X6 (qF_X6_1 hK0) (by decide) dX6_mean_57 kf_X6_13 ?_
    refine g_bipush (v := 40) C dX6_mean_60 (by decide) ?_
    refine g_iload_n C 1 dX6_mean_62 rfl ?_
    refine g_imul C dX6_mean_63 ?_
    refine g_iload C 3 dX6_mean_64 rfl ?_
    refine g_iadd C dX6_mean_66 ?_
    refine g_iald C Kf (qAM_2 hK0) dX6_mean_67 hf (fun hf => ?_)
    refine g_i2l C dX6_mean_68 ?_
    refine g_ladd C dX6_mean_69 ?_
    refine g_lstore_nB C (fun x2_6 => [(2, .long x2_6), (0, .ref (K.2.1 0)), (1, .int x1), (4, .int x4_4)]) dX6_mean_70 rfl (by decide) (fun _ => rfl) hf (fun x2_6 hf => ?_)
    refine g_iinc (d := 1) C 3 (fun x4_7 => [(4, .int x4_7), (2, .long x2_6), (0, .ref (K.2.1 0)), (1, .int x1)]) dX6_mean_71 rfl (by decide) (by decide) (fun _ => rfl) hf (fun x4_7 hf => ?_)
    refine g_goto C 44 dX6_mean_74 (by decide) ?_
    refine g_cut [2, 3, 1, 0] rfl ?_
    exact ih _ _ hf
set_option maxHeartbeats 4000000 in
set_option maxRecDepth 100000 in
theorem mX6_mean {K : Kx} (hK0 : isKM K) (l : Launch) (σ : St) (x1 : Int32)  (r : Int32) (σ' : St) (hf : f6_mean σ x1 = some (r, σ')) : mC K l yX6_mean cX6_mean 5 (some .int) rmX6_mean [.ref (K.2.1 0), .int x1] σ (some (.int r)) σ' := by
  refine g_entry (own := RX6) rfl (by decide +kernel) (Nat.le_of_ble_eq_true rfl) (fun X hX C Kf hR => ?_)
  subst hX
  unfold f6_mean at hf
  show gG X σ 0 [(0, .ref (K.2.1 0)), (1, .int x1)] []
  refine g_iload_n C 1 dX6_mean_0 rfl ?_
  obtain ⟨r_2, h_1, hf⟩ := b1_some hf
  refine g_cS_i C Kf [.int x1] (mX6_isRow hK0 X.1.2.1 σ x1 r_2 h_1) mi_X6_isRow km_X6_75 ⟨rfl, rfl, by decide, by decide⟩ rfl rfl (Nat.le_of_ble_eq_true rfl) dX6_mean_1 ?_
  refine g_if_ne C 9 dX6_mean_4 (by decide) hf (fun hf => ?_) (fun hf => ?_)
  · refine g_aload_n C 0 dX6_mean_9 rfl ?_
    refine g_getR C Kf cl_X6 (qF_X6_0 hK0) (by decide) dX6_mean_10 kf_X6_7 ?_
    refine g_iload_n C 1 dX6_mean_13 rfl ?_
    refine g_iald C Kf (qAM_1 hK0) dX6_mean_14 hf (fun hf => ?_)
    refine g_if_ge C 24 dX6_mean_15 (by decide) hf (fun hf => ?_) (fun hf => ?_)
    · refine g_aload_n C 0 dX6_mean_24 rfl ?_
      refine g_getR C Kf cl_X6 (qF_X6_0 hK0) (by decide) dX6_mean_25 kf_X6_7 ?_
      refine g_iload_n C 1 dX6_mean_28 rfl ?_
      refine g_iald C Kf (qAM_1 hK0) dX6_mean_29 hf (fun hf => ?_)
      refine g_if_ne C 39 dX6_mean_30 (by decide) hf (fun hf => ?_) (fun hf => ?_)
      · refine g_lconst (v := 0) C dX6_mean_39 (by decide) ?_
        refine g_lstore_n C [(2, .long 0), (0, .ref (K.2.1 0)), (1, .int x1)] dX6_mean_40 rfl (by decide) rfl ?_
        refine g_iconst (v := 0) C dX6_mean_41 (by decide) ?_
        refine g_istore C [(4, .int 0), (2, .long 0), (0, .ref (K.2.1 0)), (1, .int x1)] dX6_mean_42 (by decide) rfl ?_
        refine g_cut [2, 3, 1, 0] rfl ?_
        refine wL6_mean_44 hK0 σ x1 _ _ C Kf hR _ (fun x2_8 hf => ?_) _ _ _ hf
        refine g_aload_n C 0 dX6_mean_77 rfl ?_
        refine g_lload_n C 2 dX6_mean_78 rfl ?_
        refine g_aload_n C 0 dX6_mean_79 rfl ?_
        refine g_getR C Kf cl_X6 (qF_X6_0 hK0) (by decide) dX6_mean_80 kf_X6_7 ?_
        refine g_iload_n C 1 dX6_mean_83 rfl ?_
        refine g_iald C Kf (qAM_1 hK0) dX6_mean_84 hf (fun hf => ?_)
        refine g_i2l C dX6_mean_85 ?_
        refine g_ldiv C dX6_mean_86 hf (fun hf => ?_)
        refine g_l2i C dX6_mean_87 ?_
        obtain ⟨r_10, σ_11, h_9, hf⟩ := b2_some hf
        refine g_cV_i C Kf [.int ((x2_8 / ((σ.1 1 x1.toNatClampNeg).toInt64)).toInt32)] (mX6_tell hK0 X.1.2.1 σ ((x2_8 / ((σ.1 1 x1.toNatClampNeg).toInt64)).toInt32) r_10 σ_11 h_9) mi_X6_tell (qO_X6 hK0) rfl km_X6_83 ⟨rfl, rfl, by decide, by decide⟩ rfl rfl (Nat.le_of_ble_eq_true rfl) dX6_mean_88 ?_
        exact g_iretP C Kf hR dX6_mean_91 hf
      · refine g_aload_n C 0 dX6_mean_33 rfl ?_
        refine g_iconst (v := 4) C dX6_mean_34 (by decide) ?_
        obtain ⟨r_13, σ_14, h_12, hf⟩ := b2_some hf
        refine g_cV_i C Kf [.int 4] (mX6_found hK0 X.1.2.1 σ 4 r_13 σ_14 h_12) mi_X6_found (qO_X6 hK0) rfl km_X6_79 ⟨rfl, rfl, by decide, by decide⟩ rfl rfl (Nat.le_of_ble_eq_true rfl) dX6_mean_35 ?_
        exact g_iretP C Kf hR dX6_mean_38 hf
    · refine g_aload_n C 0 dX6_mean_18 rfl ?_
      refine g_iconst (v := 1) C dX6_mean_19 (by decide) ?_
      obtain ⟨r_16, σ_17, h_15, hf⟩ := b2_some hf
      refine g_cV_i C Kf [.int 1] (mX6_found hK0 X.1.2.1 σ 1 r_16 σ_17 h_15) mi_X6_found (qO_X6 hK0) rfl km_X6_79 ⟨rfl, rfl, by decide, by decide⟩ rfl rfl (Nat.le_of_ble_eq_true rfl) dX6_mean_20 ?_
      exact g_iretP C Kf hR dX6_mean_23 hf
  · refine g_iconst (v := (-1)) C dX6_mean_7 (by decide) ?_
    exact g_iretP C Kf hR dX6_mean_8 hf
abbrev rmX6_mid : Room := { frames := 5, cells := 0, slots := 0, locals := 129 }
set_option maxHeartbeats 4000000 in
set_option maxRecDepth 100000 in
theorem mX6_mid {K : Kx} (hK0 : isKM K) (l : Launch) (σ : St) (x1 : Int32) (x2 : Int32) (x3 : Int32)  (r : Int32) (σ' : St) (hf : f6_mid σ x1 x2 x3 = some (r, σ')) : mC K l yX6_mid cX6_mid 4 (some .int) rmX6_mid [.ref (K.2.1 0), .int x1, .int x2, .int x3] σ (some (.int r)) σ' := by
  refine g_entry (own := RX6) rfl (by decide +kernel) (Nat.le_of_ble_eq_true rfl) (fun X hX C Kf hR => ?_)
  subst hX
  unfold f6_mid at hf
  show gG X σ 0 [(0, .ref (K.2.1 0)), (1, .int x1), (2, .int x2), (3, .int x3)] []
  refine g_aload_n C 0 dX6_mid_0 rfl ?_
  refine g_iload_n C 1 dX6_mid_1 rfl ?_
  refine g_iload_n C 2 dX6_mid_2 rfl ?_
  refine g_iload_n C 3 dX6_mid_3 rfl ?_
  refine g_iconst (v := 1) C dX6_mid_4 (by decide) ?_
  obtain ⟨r_2, σ_3, h_1, hf⟩ := b2_some hf
  refine g_cV_i C Kf [.int x1, .int x2, .int x3, .int 1] (mX6_chance hK0 X.1.2.1 σ x1 x2 x3 1 r_2 σ_3 h_1) mi_X6_chance (qO_X6 hK0) rfl km_X6_219 ⟨rfl, rfl, by decide, by decide⟩ rfl rfl (Nat.le_of_ble_eq_true rfl) dX6_mid_5 ?_
  exact g_iretP C Kf hR dX6_mid_8 hf
