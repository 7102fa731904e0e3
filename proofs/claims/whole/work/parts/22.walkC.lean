abbrev rmX4_reaches (d : Nat) : Room := { frames := 5 + d, cells := 0, slots := 0, locals := 117 + 25 * d }
set_option maxHeartbeats 4000000 in
set_option maxRecDepth 100000 in
theorem wL4_reaches_60 {X : Gx St} {K : Kx} (hK0 : isKC K) {d : Nat} {rec : St → Int32 → Int32 → Int32 → Option (Int32 × St)} (ihd : ∀ (l : Launch) (σ : St) (x2 : Int32) (x3 : Int32) (x4 : Int32) (r : Int32) (σ' : St), rec σ x2 x3 x4 = some (r, σ') → mC K l yX4_reaches cX4_reaches 6 (some .boolean) (rmX4_reaches d) [.ref (K.2.1 21), .ref (K.2.1 13), .int x2, .int x3, .int x4] σ (some (.int r)) σ') (σ : St) (x2 : Int32) (x3 : Int32) (x4 : Int32) (r : Int32) (σ' : St) (C : gF X cX4_reaches RX4 (some .boolean) 6 (rmX4_reaches (d + 1))) (Kf : kF X K) (hR : gR X K (some (.int r)) σ') (k : St → Option (Int32 × St)) (Hk : ∀ (σ_21 : St), k σ_21 = some (r, σ') → gG X σ_21 122 [] []) : ∀ (n : Nat) (x5_8 : Int32) (σ_9 : St), L4_reaches_60 rec x2 x3 x4 k n x5_8 σ_9 = some (r, σ') → gG X σ_9 60 [(0, .ref (K.2.1 21)), (1, .ref (K.2.1 13)), (2, .int x2), (3, .int x3), (4, .int x4), (5, .int x5_8)] [] := by
  intro n
  induction n with
  | zero => intro _ _ hf; unfold L4_reaches_60 at hf; cases hf
  | succ n ih =>
  intro x5_8 σ_9 hf
  unfold L4_reaches_60 at hf
  refine g_iload C 5 dX4_reaches_60 rfl ?_
  refine g_iconst (v := 3) C dX4_reaches_62 (by decide) ?_
  refine g_icmp_ge C 122 dX4_reaches_63 (by decide) hf (fun hf => ?_) (fun hf => ?_)
  · refine g_cut [] rfl ?_
    exact Hk _ hf
  · refine g_aload_n C 0 dX4_reaches_66 rfl ?_
    refine g_getR C Kf cl_X4 (qF_X4_1 hK0) (by decide) dX4_reaches_67 kf_X4_16 ?_
    refine g_iload_n C 2 dX4_reaches_70 rfl ?_
    refine g_iload C 5 dX4_reaches_71 rfl ?_
    refine g_iast C Kf (qAC_23 hK0) dX4_reaches_73 hf (fun σ_10 hf => ?_)
    refine g_aload_n C 1 dX4_reaches_74 rfl ?_
    refine g_aload_n C 0 dX4_reaches_75 rfl ?_
    refine g_getR C Kf cl_X4 (qF_X4_0 hK0) (by decide) dX4_reaches_76 kf_X4_11 ?_
    refine g_iload_n C 2 dX4_reaches_79 rfl ?_
    refine g_aald C Kf (qRC_22 hK0) dX4_reaches_80 hf (fun hl_11 hf => ?_)
    refine g_aload_n C 0 dX4_reaches_81 rfl ?_
    refine g_getR C Kf cl_X4 (qF_X4_0 hK0) (by decide) dX4_reaches_82 kf_X4_11 ?_
    refine g_iload_n C 2 dX4_reaches_85 rfl ?_
    refine g_iconst (v := 1) C dX4_reaches_86 (by decide) ?_
    refine g_iadd C dX4_reaches_87 ?_
    refine g_aald C Kf (qRC_22 hK0) dX4_reaches_88 hf (fun hl_12 hf => ?_)
    refine g_iload C 5 dX4_reaches_89 rfl ?_
    refine g_iload C 4 dX4_reaches_91 rfl ?_
    refine g_iconst (v := 0) C dX4_reaches_93 (by decide) ?_
    obtain ⟨σ_14, h_13, hf⟩ := b1_some hf
    refine g_cVN_v C Kf [.ref (K.2.1 (24 + x2.toNatClampNeg)), .ref (K.2.1 (24 + (x2 + 1).toNatClampNeg)), .int x5_8, .int x4, .int 0] (mX1_sift hK0 X.1.2.1 σ_10 (24 + x2.toNatClampNeg) (24 + (x2 + 1).toNatClampNeg) x5_8 x4 0 (by rw [lnC_lies hl_11]; decide) (by rw [lnC_lies hl_12]; decide) σ_14 h_13) mi_X1_sift (qO_X1 hK0) rfl km_X4_55 (by unfold rmOK; refine ⟨rfl, rfl, ?_, ?_⟩ <;> (simp [rmX4_reaches, rmX1_sift]; try omega)) rfl rfl (Nat.le_of_ble_eq_true rfl) dX4_reaches_94 ?_
    refine g_aload_n C 0 dX4_reaches_97 rfl ?_
    refine g_aload_n C 1 dX4_reaches_98 rfl ?_
    refine g_iload_n C 2 dX4_reaches_99 rfl ?_
    refine g_iconst (v := 1) C dX4_reaches_100 (by decide) ?_
    refine g_iadd C dX4_reaches_101 ?_
    refine g_iload_n C 3 dX4_reaches_102 rfl ?_
    refine g_iload C 4 dX4_reaches_103 rfl ?_
    obtain ⟨r_16, h_15, hf⟩ := b1_some hf
    refine g_cSN_i C Kf [.int x4] (mX5_onePassMore hK0 X.1.2.1 σ_14 x4 r_16 h_15) mi_X5_onePassMore km_X4_73 (by unfold rmOK; refine ⟨rfl, rfl, ?_, ?_⟩ <;> (simp [rmX4_reaches, rmX5_onePassMore]; try omega)) rfl rfl (Nat.le_of_ble_eq_true rfl) dX4_reaches_105 ?_
    obtain ⟨r_18, σ_19, h_17, hf⟩ := b2_some hf
    refine g_cV_i C Kf [.ref (K.2.1 13), .int (x2 + 1), .int x3, .int r_16] (ihd X.1.2.1 σ_14 (x2 + 1) x3 r_16 r_18 σ_19 h_17) mi_X4_reaches (qO_X4 hK0) rfl km_X4_76 (by unfold rmOK; refine ⟨rfl, rfl, ?_, ?_⟩ <;> (simp [rmX4_reaches]; try omega)) rfl rfl (Nat.le_of_ble_eq_true rfl) dX4_reaches_108 ?_
    refine g_if_eq C 116 dX4_reaches_111 (by decide) hf (fun hf => ?_) (fun hf => ?_)
    · refine g_iinc (d := 1) C 5 (fun x5_20 => [(5, .int x5_20), (0, .ref (K.2.1 21)), (1, .ref (K.2.1 13)), (2, .int x2), (3, .int x3), (4, .int x4)]) dX4_reaches_116 rfl (by decide) (by decide) (fun _ => rfl) hf (fun x5_20 hf => ?_)
      refine g_goto C 60 dX4_reaches_119 (by decide) ?_
      refine g_cut [1, 2, 3, 4, 5, 0] rfl ?_
      exact ih _ _ hf
    · refine g_iconst (v := 1) C dX4_reaches_114 (by decide) ?_
      exact g_zretP C Kf hR (Or.inr rfl) dX4_reaches_115 hf
set_option maxHeartbeats 4000000 in
set_option maxRecDepth 100000 in
theorem mX4_reaches {K : Kx} (hK0 : isKC K) : ∀ (d : Nat) (l : Launch) (σ : St) (x2 : Int32) (x3 : Int32) (x4 : Int32) (r : Int32) (σ' : St), f4_reaches d σ x2 x3 x4 = some (r, σ') → mC K l yX4_reaches cX4_reaches 6 (some .boolean) (rmX4_reaches d) [.ref (K.2.1 21), .ref (K.2.1 13), .int x2, .int x3, .int x4] σ (some (.int r)) σ' := by
  intro d
  induction d with
  | zero => intro l σ x2 x3 x4 r σ' hf; unfold f4_reaches at hf; cases hf
  | succ d ihd =>
  intro l σ x2 x3 x4 r σ' hf
  refine g_entry (own := RX4) rfl (by decide +kernel) (Nat.le_of_ble_eq_true rfl) (fun X hX C Kf hR => ?_)
  subst hX
  unfold f4_reaches at hf
  show gG X σ 0 [(0, .ref (K.2.1 21)), (1, .ref (K.2.1 13)), (2, .int x2), (3, .int x3), (4, .int x4)] []
  refine g_iload_n C 2 dX4_reaches_0 rfl ?_
  refine g_iload_n C 3 dX4_reaches_1 rfl ?_
  refine g_jn hf (fun j_1 ej_3 hf => ?_)
  have HJ_2 : j_1 = some (r, σ') → gG X σ 10 [(0, .ref (K.2.1 21)), (1, .ref (K.2.1 13)), (2, .int x2), (4, .int x4)] [] := by
    intro hf
    rw [ej_3] at hf
    refine g_aload_n C 0 dX4_reaches_10 rfl ?_
    refine g_getI C Kf cl_X4 (qF_X4_2 hK0) (by decide) dX4_reaches_11 kf_X4_20 ?_
    refine g_if_eq C 43 dX4_reaches_14 (by decide) hf (fun hf => ?_) (fun hf => ?_)
    · refine g_aload_n C 0 dX4_reaches_43 rfl ?_
      refine g_aload_n C 1 dX4_reaches_44 rfl ?_
      refine g_aload_n C 0 dX4_reaches_45 rfl ?_
      refine g_getR C Kf cl_X4 (qF_X4_0 hK0) (by decide) dX4_reaches_46 kf_X4_11 ?_
      refine g_iload_n C 2 dX4_reaches_49 rfl ?_
      refine g_aald C Kf (qRC_22 hK0) dX4_reaches_50 hf (fun hl_4 hf => ?_)
      refine g_iload C 3 dX4_reaches_51 rfl ?_
      obtain ⟨r_6, h_5, hf⟩ := b1_some hf
      refine g_cV_i C Kf [.ref (K.2.1 13), .ref (K.2.1 (24 + x2.toNatClampNeg)), .int x4] (mX4_inOrder hK0 X.1.2.1 σ (24 + x2.toNatClampNeg) x4 (by rw [lnC_lies hl_4]; decide) r_6 h_5) mi_X4_inOrder (qO_X4 hK0) rfl km_X4_80 (by unfold rmOK; refine ⟨rfl, rfl, ?_, ?_⟩ <;> (simp [rmX4_reaches, rmX4_inOrder]; try omega)) rfl rfl (Nat.le_of_ble_eq_true rfl) dX4_reaches_53 ?_
      exact g_zretPB C Kf hR dX4_reaches_56 hf
    · refine g_aload_n C 0 dX4_reaches_17 rfl ?_
      refine g_getR C Kf cl_X4 (qF_X4_0 hK0) (by decide) dX4_reaches_18 kf_X4_11 ?_
      refine g_iload_n C 2 dX4_reaches_21 rfl ?_
      refine g_aald C Kf (qRC_22 hK0) dX4_reaches_22 hf (fun hl_7 hf => ?_)
      refine g_aload_n C 0 dX4_reaches_23 rfl ?_
      refine g_getI C Kf cl_X4 (qF_X4_4 hK0) (by decide) dX4_reaches_24 kf_X4_28 ?_
      refine g_iald C Kf (qA_lies hK0 hl_7) dX4_reaches_27 hf (fun hf => ?_)
      refine g_aload_n C 0 dX4_reaches_28 rfl ?_
      refine g_getI C Kf cl_X4 (qF_X4_3 hK0) (by decide) dX4_reaches_29 kf_X4_24 ?_
      refine g_icmp_ne C 39 dX4_reaches_32 (by decide) hf (fun hf => ?_) (fun hf => ?_)
      · refine g_iconst (v := 0) C dX4_reaches_39 (by decide) ?_
        refine g_goto C 56 dX4_reaches_40 (by decide) ?_
        exact g_zretP C Kf hR (Or.inl rfl) dX4_reaches_56 hf
      · refine g_iconst (v := 1) C dX4_reaches_35 (by decide) ?_
        refine g_goto C 56 dX4_reaches_36 (by decide) ?_
        exact g_zretP C Kf hR (Or.inr rfl) dX4_reaches_56 hf
  refine g_icmp_ge C 10 dX4_reaches_2 (by decide) hf (fun hf => ?_) (fun hf => ?_)
  · refine g_cut [0, 1, 2, 4] rfl ?_
    exact HJ_2 hf
  · refine g_iload_n C 2 dX4_reaches_5 rfl ?_
    refine g_iconst (v := 5) C dX4_reaches_6 (by decide) ?_
    refine g_icmp_lt C 57 dX4_reaches_7 (by decide) hf (fun hf => ?_) (fun hf => ?_)
    · refine g_iconst (v := 0) C dX4_reaches_57 (by decide) ?_
      refine g_istore C [(5, .int 0), (0, .ref (K.2.1 21)), (1, .ref (K.2.1 13)), (2, .int x2), (3, .int x3), (4, .int x4)] dX4_reaches_58 (by decide) rfl ?_
      refine g_cut [1, 2, 3, 4, 5, 0] rfl ?_
      refine wL4_reaches_60 hK0 ihd σ x2 x3 x4 _ _ C Kf hR _ (fun σ_22 hf => ?_) _ _ _ hf
      refine g_iconst (v := 0) C dX4_reaches_122 (by decide) ?_
      exact g_zretP C Kf hR (Or.inl rfl) dX4_reaches_123 hf
    · refine g_cut [0, 1, 2, 4] rfl ?_
      exact HJ_2 hf
abbrev rmX4_seek : Room := { frames := 12, cells := 0, slots := 0, locals := 292 }
set_option maxHeartbeats 4000000 in
set_option maxRecDepth 100000 in
theorem wL4_seek_7 {X : Gx St} {K : Kx} (hK0 : isKC K) (σ : St) (r : Int32) (σ' : St) (C : gF X cX4_seek RX4 (some .int) 3 rmX4_seek) (Kf : kF X K) (hR : gR X K (some (.int r)) σ') (k : St → Option (Int32 × St)) (Hk : ∀ (σ_9 : St), k σ_9 = some (r, σ') → gG X σ_9 34 [] []) : ∀ (n : Nat) (x2_3 : Int32) (σ_4 : St), L4_seek_7 k n x2_3 σ_4 = some (r, σ') → gG X σ_4 7 [(0, .ref (K.2.1 21)), (1, .ref (K.2.1 13)), (2, .int x2_3)] [] := by
  intro n
  induction n with
  | zero => intro _ _ hf; unfold L4_seek_7 at hf; cases hf
  | succ n ih =>
  intro x2_3 σ_4 hf
  unfold L4_seek_7 at hf
  refine g_iload_n C 2 dX4_seek_7 rfl ?_
  refine g_iconst (v := 5) C dX4_seek_8 (by decide) ?_
  refine g_icmp_gt C 34 dX4_seek_9 (by decide) hf (fun hf => ?_) (fun hf => ?_)
  · refine g_cut [] rfl ?_
    exact Hk _ hf
  · refine g_aload_n C 0 dX4_seek_12 rfl ?_
    refine g_aload_n C 1 dX4_seek_13 rfl ?_
    refine g_iconst (v := 0) C dX4_seek_14 (by decide) ?_
    refine g_iload_n C 2 dX4_seek_15 rfl ?_
    refine g_aload_n C 1 dX4_seek_16 rfl ?_
    refine g_getIN C Kf cl_X1 (qF_X1_8 hK0) (by decide) dX4_seek_17 kf_X4_52 ?_
    obtain ⟨r_6, σ_7, h_5, hf⟩ := b2_some hf
    refine g_cV_i C Kf [.ref (K.2.1 13), .int 0, .int x2_3, .int (σ_4.1 13 8)] (mX4_reaches hK0 6 X.1.2.1 σ_4 0 x2_3 (σ_4.1 13 8) r_6 σ_7 h_5) mi_X4_reaches (qO_X4 hK0) rfl km_X4_76 ⟨rfl, rfl, by decide, by decide⟩ rfl rfl (Nat.le_of_ble_eq_true rfl) dX4_seek_20 ?_
    refine g_if_eq C 28 dX4_seek_23 (by decide) hf (fun hf => ?_) (fun hf => ?_)
    · refine g_iinc (d := 1) C 2 (fun x2_8 => [(2, .int x2_8), (0, .ref (K.2.1 21)), (1, .ref (K.2.1 13))]) dX4_seek_28 rfl (by decide) (by decide) (fun _ => rfl) hf (fun x2_8 hf => ?_)
      refine g_goto C 7 dX4_seek_31 (by decide) ?_
      refine g_cut [1, 2, 0] rfl ?_
      exact ih _ _ hf
    · refine g_iload_n C 2 dX4_seek_26 rfl ?_
      exact g_iretP C Kf hR dX4_seek_27 hf
set_option maxHeartbeats 4000000 in
set_option maxRecDepth 100000 in
theorem mX4_seek {K : Kx} (hK0 : isKC K) (l : Launch) (σ : St)   (r : Int32) (σ' : St) (hf : f4_seek σ = some (r, σ')) : mC K l yX4_seek cX4_seek 3 (some .int) rmX4_seek [.ref (K.2.1 21), .ref (K.2.1 13)] σ (some (.int r)) σ' := by
  refine g_entry (own := RX4) rfl (by decide +kernel) (Nat.le_of_ble_eq_true rfl) (fun X hX C Kf hR => ?_)
  subst hX
  unfold f4_seek at hf
  show gG X σ 0 [(0, .ref (K.2.1 21)), (1, .ref (K.2.1 13))] []
  refine g_aload_n C 0 dX4_seek_0 rfl ?_
  refine g_aload_n C 1 dX4_seek_1 rfl ?_
  obtain ⟨σ_2, h_1, hf⟩ := b1_some hf
  refine g_cV_v C Kf [.ref (K.2.1 13)] (mX4_start hK0 X.1.2.1 σ σ_2 h_1) mi_X4_start (qO_X4 hK0) rfl km_X4_59 ⟨rfl, rfl, by decide, by decide⟩ rfl rfl (Nat.le_of_ble_eq_true rfl) dX4_seek_2 ?_
  refine g_iconst (v := 0) C dX4_seek_5 (by decide) ?_
  refine g_istore_n C [(2, .int 0), (0, .ref (K.2.1 21)), (1, .ref (K.2.1 13))] dX4_seek_6 rfl (by decide) rfl ?_
  refine g_cut [1, 2, 0] rfl ?_
  refine wL4_seek_7 hK0 σ_2 _ _ C Kf hR _ (fun σ_10 hf => ?_) _ _ _ hf
  refine g_bipush (v := (-9)) C dX4_seek_34 (by decide) ?_
  exact g_iretP C Kf hR dX4_seek_36 hf
abbrev rmX4_wantOrder : Room := { frames := 0, cells := 0, slots := 0, locals := 0 }
set_option maxHeartbeats 4000000 in
set_option maxRecDepth 100000 in
theorem mX4_wantOrder {K : Kx} (hK0 : isKC K) (l : Launch) (σ : St) (x1 : Int32)  (σ' : St) (hf : f4_wantOrder σ x1 = some σ') : mC K l yX4_wantOrder cX4_wantOrder 2 none rmX4_wantOrder [.ref (K.2.1 21), .int x1] σ none σ' := by
  refine g_entry (own := RX4) rfl (by decide +kernel) (Nat.le_of_ble_eq_true rfl) (fun X hX C Kf hR => ?_)
  subst hX
  unfold f4_wantOrder at hf
  show gG X σ 0 [(0, .ref (K.2.1 21)), (1, .int x1)] []
  refine g_aload_n C 0 dX4_wantOrder_0 rfl ?_
  refine g_iconst (v := 0) C dX4_wantOrder_1 (by decide) ?_
  refine g_putI C Kf cl_X4 (qF_X4_2 hK0) (by decide) rfl rfl rfl dX4_wantOrder_2 kf_X4_20 hf (fun σ_1 hf => ?_)
  refine g_aload_n C 0 dX4_wantOrder_5 rfl ?_
  refine g_iload_n C 1 dX4_wantOrder_6 rfl ?_
  refine g_putI C Kf cl_X4 (qF_X4_5 hK0) (by decide) rfl rfl rfl dX4_wantOrder_7 kf_X4_31 hf (fun σ_2 hf => ?_)
  exact g_vretP C Kf hR dX4_wantOrder_10 hf
abbrev rmX4_wantPlace : Room := { frames := 0, cells := 0, slots := 0, locals := 0 }
set_option maxHeartbeats 4000000 in
set_option maxRecDepth 100000 in
theorem mX4_wantPlace {K : Kx} (hK0 : isKC K) (l : Launch) (σ : St) (x1 : Int32) (x2 : Int32)  (σ' : St) (hf : f4_wantPlace σ x1 x2 = some σ') : mC K l yX4_wantPlace cX4_wantPlace 3 none rmX4_wantPlace [.ref (K.2.1 21), .int x1, .int x2] σ none σ' := by
  refine g_entry (own := RX4) rfl (by decide +kernel) (Nat.le_of_ble_eq_true rfl) (fun X hX C Kf hR => ?_)
  subst hX
  unfold f4_wantPlace at hf
  show gG X σ 0 [(0, .ref (K.2.1 21)), (1, .int x1), (2, .int x2)] []
  refine g_aload_n C 0 dX4_wantPlace_0 rfl ?_
  refine g_iconst (v := 1) C dX4_wantPlace_1 (by decide) ?_
  refine g_putI C Kf cl_X4 (qF_X4_2 hK0) (by decide) rfl rfl rfl dX4_wantPlace_2 kf_X4_20 hf (fun σ_1 hf => ?_)
  refine g_aload_n C 0 dX4_wantPlace_5 rfl ?_
  refine g_iload_n C 1 dX4_wantPlace_6 rfl ?_
  refine g_putI C Kf cl_X4 (qF_X4_3 hK0) (by decide) rfl rfl rfl dX4_wantPlace_7 kf_X4_24 hf (fun σ_2 hf => ?_)
  refine g_aload_n C 0 dX4_wantPlace_10 rfl ?_
  refine g_iload_n C 2 dX4_wantPlace_11 rfl ?_
  refine g_putI C Kf cl_X4 (qF_X4_4 hK0) (by decide) rfl rfl rfl dX4_wantPlace_12 kf_X4_28 hf (fun σ_3 hf => ?_)
  exact g_vretP C Kf hR dX4_wantPlace_15 hf
abbrev rmX5_isColumn : Room := { frames := 0, cells := 0, slots := 0, locals := 0 }
set_option maxHeartbeats 4000000 in
set_option maxRecDepth 100000 in
theorem mX5_isColumn {K : Kx} (hK0 : isKC K) (l : Launch) (σ : St) (x0 : Int32)  (r : Int32) (hf : f5_isColumn x0 = some r) : mC K l yX5_isColumn cX5_isColumn 1 (some .boolean) rmX5_isColumn [.int x0] σ (some (.int r)) σ := by
  refine g_entry (own := RX5) rfl (by decide +kernel) (Nat.le_of_ble_eq_true rfl) (fun X hX C Kf hR => ?_)
  subst hX
  unfold f5_isColumn at hf
  show gG X σ 0 [(0, .int x0)] []
  refine g_iload_n C 0 dX5_isColumn_0 rfl ?_
  refine g_if_lt C 13 dX5_isColumn_1 (by decide) hf (fun hf => ?_) (fun hf => ?_)
  · refine g_iconst (v := 0) C dX5_isColumn_13 (by decide) ?_
    exact g_zretR C Kf hR (Or.inl rfl) dX5_isColumn_14 hf
  · refine g_iload_n C 0 dX5_isColumn_4 rfl ?_
    refine g_iconst (v := 3) C dX5_isColumn_5 (by decide) ?_
    refine g_icmp_ge C 13 dX5_isColumn_6 (by decide) hf (fun hf => ?_) (fun hf => ?_)
    · refine g_iconst (v := 0) C dX5_isColumn_13 (by decide) ?_
      exact g_zretR C Kf hR (Or.inl rfl) dX5_isColumn_14 hf
    · refine g_iconst (v := 1) C dX5_isColumn_9 (by decide) ?_
      refine g_goto C 14 dX5_isColumn_10 (by decide) ?_
      exact g_zretR C Kf hR (Or.inr rfl) dX5_isColumn_14 hf
abbrev rmX5_allColumns : Room := { frames := 3, cells := 0, slots := 0, locals := 66 }
set_option maxHeartbeats 4000000 in
set_option maxRecDepth 100000 in
theorem wL5_allColumns_2 {X : Gx St} {K : Kx} (hK0 : isKC K) (σ : St) (x1 : Int32) (r : Int32) (C : gF X cX5_allColumns RX5 (some .boolean) 3 rmX5_allColumns) (Kf : kF X K) (hR : gR X K (some (.int r)) σ) (k : Option (Int32)) (Hk : k = some r → gG X σ 37 [] []) : ∀ (n : Nat) (x2_1 : Int32), L5_allColumns_2 σ x1 k n x2_1 = some r → gG X σ 2 [(0, .ref (K.2.1 0)), (1, .int x1), (2, .int x2_1)] [] := by
  intro n
  induction n with
  | zero => intro _ hf; unfold L5_allColumns_2 at hf; cases hf
  | succ n ih =>
  intro x2_1 hf
  unfold L5_allColumns_2 at hf
  refine g_iload_n C 2 dX5_allColumns_2 rfl ?_
  refine g_aload_n C 0 dX5_allColumns_3 rfl ?_
  refine g_getR C Kf cl_X5 (qF_X5_0 hK0) (by decide) dX5_allColumns_4 kf_X5_14 ?_
  refine g_iload_n C 1 dX5_allColumns_7 rfl ?_
  obtain ⟨r_3, h_2, hf⟩ := b1_some hf
  refine g_cVN_i C Kf [.int x1] (mX3_sizeOf hK0 X.1.2.1 σ 1 x1 (sh_1) r_3 h_2) mi_X3_sizeOf (qO_X3 hK0 sh_1) rfl km_X5_106 ⟨rfl, rfl, by decide, by decide⟩ rfl rfl (Nat.le_of_ble_eq_true rfl) dX5_allColumns_8 ?_
  refine g_icmp_ge C 37 dX5_allColumns_11 (by decide) hf (fun hf => ?_) (fun hf => ?_)
  · refine g_cut [] rfl ?_
    exact Hk hf
  · refine g_aload_n C 0 dX5_allColumns_14 rfl ?_
    refine g_getR C Kf cl_X5 (qF_X5_0 hK0) (by decide) dX5_allColumns_15 kf_X5_14 ?_
    refine g_iload_n C 1 dX5_allColumns_18 rfl ?_
    refine g_iload_n C 2 dX5_allColumns_19 rfl ?_
    obtain ⟨r_5, h_4, hf⟩ := b1_some hf
    refine g_cVN_i C Kf [.int x1, .int x2_1] (mX3_get hK0 X.1.2.1 σ 1 x1 x2_1 (sh_1) r_5 h_4) mi_X3_get (qO_X3 hK0 sh_1) rfl km_X5_86 ⟨rfl, rfl, by decide, by decide⟩ rfl rfl (Nat.le_of_ble_eq_true rfl) dX5_allColumns_20 ?_
    obtain ⟨r_7, h_6, hf⟩ := b1_some hf
    refine g_cS_i C Kf [.int r_5] (mX5_isColumn hK0 X.1.2.1 σ r_5 r_7 h_6) mi_X5_isColumn km_X5_153 ⟨rfl, rfl, by decide, by decide⟩ rfl rfl (Nat.le_of_ble_eq_true rfl) dX5_allColumns_23 ?_
    refine g_if_ne C 31 dX5_allColumns_26 (by decide) hf (fun hf => ?_) (fun hf => ?_)
    · refine g_iinc (d := 1) C 2 (fun x2_8 => [(2, .int x2_8), (0, .ref (K.2.1 0)), (1, .int x1)]) dX5_allColumns_31 rfl (by decide) (by decide) (fun _ => rfl) hf (fun x2_8 hf => ?_)
      refine g_goto C 2 dX5_allColumns_34 (by decide) ?_
      refine g_cut [1, 2, 0] rfl ?_
      exact ih _ hf
    · refine g_iconst (v := 0) C dX5_allColumns_29 (by decide) ?_
      exact g_zretR C Kf hR (Or.inl rfl) dX5_allColumns_30 hf
set_option maxHeartbeats 4000000 in
set_option maxRecDepth 100000 in
theorem mX5_allColumns {K : Kx} (hK0 : isKC K) (l : Launch) (σ : St) (x1 : Int32)  (r : Int32) (hf : f5_allColumns σ x1 = some r) : mC K l yX5_allColumns cX5_allColumns 3 (some .boolean) rmX5_allColumns [.ref (K.2.1 0), .int x1] σ (some (.int r)) σ := by
  refine g_entry (own := RX5) rfl (by decide +kernel) (Nat.le_of_ble_eq_true rfl) (fun X hX C Kf hR => ?_)
  subst hX
  unfold f5_allColumns at hf
  show gG X σ 0 [(0, .ref (K.2.1 0)), (1, .int x1)] []
  refine g_iconst (v := 0) C dX5_allColumns_0 (by decide) ?_
  refine g_istore_n C [(2, .int 0), (0, .ref (K.2.1 0)), (1, .int x1)] dX5_allColumns_1 rfl (by decide) rfl ?_
  refine g_cut [1, 2, 0] rfl ?_
  refine wL5_allColumns_2 hK0 σ x1 _ C Kf hR _ (fun  hf => ?_) _ _ hf
  refine g_iconst (v := 1) C dX5_allColumns_37 (by decide) ?_
  exact g_zretR C Kf hR (Or.inr rfl) dX5_allColumns_38 hf
abbrev rmX5_allWeights : Room := { frames := 0, cells := 0, slots := 0, locals := 0 }
set_option maxHeartbeats 4000000 in
set_option maxRecDepth 100000 in
theorem wL5_allWeights_4 {X : Gx St} {K : Kx} (hK0 : isKC K) (σ : St) (r : Int64) (C : gF X cX5_allWeights RX5 (some .long) 4 rmX5_allWeights) (Kf : kF X K) (hR : gR X K (some (.long r)) σ) (k : Int64 → Option (Int64)) (Hk : ∀ (x1_3 : Int64), k x1_3 = some r → gG X σ 27 [(1, .long x1_3)] []) : ∀ (n : Nat) (x1_1 : Int64) (x3_2 : Int32), L5_allWeights_4 σ k n x1_1 x3_2 = some r → gG X σ 4 [(0, .ref (K.2.1 0)), (1, .long x1_1), (3, .int x3_2)] [] := by
  intro n
  induction n with
  | zero => intro _ _ hf; unfold L5_allWeights_4 at hf; cases hf
  | succ n ih =>
  intro x1_1 x3_2 hf
  unfold L5_allWeights_4 at hf
  refine g_iload_n C 2 dX5_allWeights_4 rfl ?_
  refine g_aload_n C 0 dX5_allWeights_5 rfl ?_
  refine g_getR C Kf cl_X5 (qF_X5_4 hK0) (by decide) dX5_allWeights_6 kf_X5_34 ?_
  refine g_getIN C Kf cl_X1 (qF_X1_7 hK0) (by decide) dX5_allWeights_9 kf_X5_123 ?_
  refine g_icmp_ge C 27 dX5_allWeights_12 (by decide) hf (fun hf => ?_) (fun hf => ?_)
  · refine g_cut [1] rfl ?_
    exact Hk _ hf
  · refine g_lload_n C 1 dX5_allWeights_15 rfl ?_
    refine g_ldc2 (v := 12) C dX5_allWeights_16 kl_X5_294 ?_
    refine g_lmul C dX5_allWeights_19 ?_
    refine g_lstore_nB C (fun x1_4 => [(1, .long x1_4), (0, .ref (K.2.1 0)), (3, .int x3_2)]) dX5_allWeights_20 rfl (by decide) (fun _ => rfl) hf (fun x1_4 hf => ?_)
    refine g_iinc (d := 1) C 2 (fun x3_5 => [(3, .int x3_5), (1, .long x1_4), (0, .ref (K.2.1 0))]) dX5_allWeights_21 rfl (by decide) (by decide) (fun _ => rfl) hf (fun x3_5 hf => ?_)
    refine g_goto C 4 dX5_allWeights_24 (by decide) ?_
    refine g_cut [2, 1, 0] rfl ?_
    exact ih _ _ hf
set_option maxHeartbeats 4000000 in
set_option maxRecDepth 100000 in
theorem mX5_allWeights {K : Kx} (hK0 : isKC K) (l : Launch) (σ : St)   (r : Int64) (hf : f5_allWeights σ = some r) : mC K l yX5_allWeights cX5_allWeights 4 (some .long) rmX5_allWeights [.ref (K.2.1 0)] σ (some (.long r)) σ := by
  refine g_entry (own := RX5) rfl (by decide +kernel) (Nat.le_of_ble_eq_true rfl) (fun X hX C Kf hR => ?_)
  subst hX
  unfold f5_allWeights at hf
  show gG X σ 0 [(0, .ref (K.2.1 0))] []
  refine g_lconst (v := 1) C dX5_allWeights_0 (by decide) ?_
  refine g_lstore_n C [(1, .long 1), (0, .ref (K.2.1 0))] dX5_allWeights_1 rfl (by decide) rfl ?_
  refine g_iconst (v := 0) C dX5_allWeights_2 (by decide) ?_
  refine g_istore_n C [(3, .int 0), (1, .long 1), (0, .ref (K.2.1 0))] dX5_allWeights_3 rfl (by decide) rfl ?_
  refine g_cut [2, 1, 0] rfl ?_
  refine wL5_allWeights_4 hK0 σ _ C Kf hR _ (fun x1_6 hf => ?_) _ _ _ hf
  refine g_lload_n C 0 dX5_allWeights_27 rfl ?_
  exact g_lretR C Kf hR dX5_allWeights_28 hf
abbrev rmX5_asked : Room := { frames := 0, cells := 0, slots := 0, locals := 0 }
set_option maxHeartbeats 4000000 in
set_option maxRecDepth 100000 in
theorem mX5_asked {K : Kx} (hK0 : isKC K) (l : Launch) (σ : St)   (r : Int32) (hf : f5_asked σ = some r) : mC K l yX5_asked cX5_asked 1 (some .int) rmX5_asked [.ref (K.2.1 0)] σ (some (.int r)) σ := by
  refine g_entry (own := RX5) rfl (by decide +kernel) (Nat.le_of_ble_eq_true rfl) (fun X hX C Kf hR => ?_)
  subst hX
  unfold f5_asked at hf
  show gG X σ 0 [(0, .ref (K.2.1 0))] []
  refine g_aload_n C 0 dX5_asked_0 rfl ?_
  refine g_getI C Kf cl_X5 (qF_X5_9 hK0) (by decide) dX5_asked_1 kf_X5_60 ?_
  exact g_iretR C Kf hR dX5_asked_4 hf
abbrev rmX5_isRow : Room := { frames := 0, cells := 0, slots := 0, locals := 0 }
set_option maxHeartbeats 4000000 in
set_option maxRecDepth 100000 in
theorem mX5_isRow {K : Kx} (hK0 : isKC K) (l : Launch) (σ : St) (x0 : Int32)  (r : Int32) (hf : f5_isRow x0 = some r) : mC K l yX5_isRow cX5_isRow 1 (some .boolean) rmX5_isRow [.int x0] σ (some (.int r)) σ := by
  refine g_entry (own := RX5) rfl (by decide +kernel) (Nat.le_of_ble_eq_true rfl) (fun X hX C Kf hR => ?_)
  subst hX
  unfold f5_isRow at hf
  show gG X σ 0 [(0, .int x0)] []
  refine g_iload_n C 0 dX5_isRow_0 rfl ?_
  refine g_if_lt C 14 dX5_isRow_1 (by decide) hf (fun hf => ?_) (fun hf => ?_)
  · refine g_iconst (v := 0) C dX5_isRow_14 (by decide) ?_
    exact g_zretR C Kf hR (Or.inl rfl) dX5_isRow_15 hf
  · refine g_iload_n C 0 dX5_isRow_4 rfl ?_
    refine g_bipush (v := 6) C dX5_isRow_5 (by decide) ?_
    refine g_icmp_ge C 14 dX5_isRow_7 (by decide) hf (fun hf => ?_) (fun hf => ?_)
    · refine g_iconst (v := 0) C dX5_isRow_14 (by decide) ?_
      exact g_zretR C Kf hR (Or.inl rfl) dX5_isRow_15 hf
    · refine g_iconst (v := 1) C dX5_isRow_10 (by decide) ?_
      refine g_goto C 15 dX5_isRow_11 (by decide) ?_
      exact g_zretR C Kf hR (Or.inr rfl) dX5_isRow_15 hf
abbrev rmX5_found : Room := { frames := 0, cells := 0, slots := 0, locals := 0 }
set_option maxHeartbeats 4000000 in
set_option maxRecDepth 100000 in
theorem mX5_found {K : Kx} (hK0 : isKC K) (l : Launch) (σ : St) (x1 : Int32)  (r : Int32) (σ' : St) (hf : f5_found σ x1 = some (r, σ')) : mC K l yX5_found cX5_found 2 (some .int) rmX5_found [.ref (K.2.1 0), .int x1] σ (some (.int r)) σ' := by
  refine g_entry (own := RX5) rfl (by decide +kernel) (Nat.le_of_ble_eq_true rfl) (fun X hX C Kf hR => ?_)
  subst hX
  unfold f5_found at hf
  show gG X σ 0 [(0, .ref (K.2.1 0)), (1, .int x1)] []
  refine g_aload_n C 0 dX5_found_0 rfl ?_
  refine g_iload_n C 1 dX5_found_1 rfl ?_
  refine g_putI C Kf cl_X5 (qF_X5_8 hK0) (by decide) rfl rfl rfl dX5_found_2 kf_X5_56 hf (fun σ_1 hf => ?_)
  refine g_aload_n C 0 dX5_found_5 rfl ?_
  refine g_getR C Kf cl_X5 (qF_X5_7 hK0) (by decide) dX5_found_6 kf_X5_52 ?_
  refine g_iload_n C 1 dX5_found_9 rfl ?_
  refine g_dup2 C dX5_found_10 rfl rfl ?_
  refine g_iald C Kf (qAC_34 hK0) dX5_found_11 hf (fun hf => ?_)
  refine g_iconst (v := 1) C dX5_found_12 (by decide) ?_
  refine g_iadd C dX5_found_13 ?_
  refine g_iast C Kf (qAC_34 hK0) dX5_found_14 hf (fun σ_2 hf => ?_)
  refine g_bipush (v := (-3)) C dX5_found_15 (by decide) ?_
  exact g_iretP C Kf hR dX5_found_17 hf
abbrev rmX5_refusedRow : Room := { frames := 2, cells := 0, slots := 0, locals := 42 }
set_option maxHeartbeats 4000000 in
set_option maxRecDepth 100000 in
theorem mX5_refusedRow {K : Kx} (hK0 : isKC K) (l : Launch) (σ : St) (x1 : Int32)  (r : Int32) (σ' : St) (hf : f5_refusedRow σ x1 = some (r, σ')) : mC K l yX5_refusedRow cX5_refusedRow 2 (some .int) rmX5_refusedRow [.ref (K.2.1 0), .int x1] σ (some (.int r)) σ' := by
  refine g_entry (own := RX5) rfl (by decide +kernel) (Nat.le_of_ble_eq_true rfl) (fun X hX C Kf hR => ?_)
  subst hX
  unfold f5_refusedRow at hf
  show gG X σ 0 [(0, .ref (K.2.1 0)), (1, .int x1)] []
  refine g_iload_n C 1 dX5_refusedRow_0 rfl ?_
  obtain ⟨r_2, h_1, hf⟩ := b1_some hf
  refine g_cS_i C Kf [.int x1] (mX5_isRow hK0 X.1.2.1 σ x1 r_2 h_1) mi_X5_isRow km_X5_70 ⟨rfl, rfl, by decide, by decide⟩ rfl rfl (Nat.le_of_ble_eq_true rfl) dX5_refusedRow_1 ?_
  refine g_if_ne C 9 dX5_refusedRow_4 (by decide) hf (fun hf => ?_) (fun hf => ?_)
  · refine g_aload_n C 0 dX5_refusedRow_9 rfl ?_
    refine g_getR C Kf cl_X5 (qF_X5_0 hK0) (by decide) dX5_refusedRow_10 kf_X5_14 ?_
    refine g_iload_n C 1 dX5_refusedRow_13 rfl ?_
    obtain ⟨r_4, h_3, hf⟩ := b1_some hf
    refine g_cVN_i C Kf [.int x1] (mX3_holds hK0 X.1.2.1 σ 1 x1 (sh_1) r_4 h_3) mi_X3_holds (qO_X3 hK0 sh_1) rfl km_X5_99 ⟨rfl, rfl, by decide, by decide⟩ rfl rfl (Nat.le_of_ble_eq_true rfl) dX5_refusedRow_14 ?_
    refine g_if_eq C 24 dX5_refusedRow_17 (by decide) hf (fun hf => ?_) (fun hf => ?_)
    · refine g_aload_n C 0 dX5_refusedRow_24 rfl ?_
      refine g_iconst (v := 1) C dX5_refusedRow_25 (by decide) ?_
      obtain ⟨r_6, σ_7, h_5, hf⟩ := b2_some hf
      refine g_cV_i C Kf [.int 1] (mX5_found hK0 X.1.2.1 σ 1 r_6 σ_7 h_5) mi_X5_found (qO_X5 hK0) rfl km_X5_74 ⟨rfl, rfl, by decide, by decide⟩ rfl rfl (Nat.le_of_ble_eq_true rfl) dX5_refusedRow_26 ?_
      exact g_iretP C Kf hR dX5_refusedRow_29 hf
    · refine g_iconst (v := 0) C dX5_refusedRow_20 (by decide) ?_
      refine g_goto C 29 dX5_refusedRow_21 (by decide) ?_
      exact g_iretP C Kf hR dX5_refusedRow_29 hf
  · refine g_iconst (v := (-1)) C dX5_refusedRow_7 (by decide) ?_
    exact g_iretP C Kf hR dX5_refusedRow_8 hf
abbrev rmX5_refusedPlace : Room := { frames := 3, cells := 0, slots := 0, locals := 63 }
set_option maxHeartbeats 4000000 in
set_option maxRecDepth 100000 in
theorem mX5_refusedPlace {K : Kx} (hK0 : isKC K) (l : Launch) (σ : St) (x1 : Int32) (x2 : Int32)  (r : Int32) (σ' : St) (hf : f5_refusedPlace σ x1 x2 = some (r, σ')) : mC K l yX5_refusedPlace cX5_refusedPlace 4 (some .int) rmX5_refusedPlace [.ref (K.2.1 0), .int x1, .int x2] σ (some (.int r)) σ' := by
  refine g_entry (own := RX5) rfl (by decide +kernel) (Nat.le_of_ble_eq_true rfl) (fun X hX C Kf hR => ?_)
  subst hX
  unfold f5_refusedPlace at hf
  show gG X σ 0 [(0, .ref (K.2.1 0)), (1, .int x1), (2, .int x2)] []
  refine g_aload_n C 0 dX5_refusedPlace_0 rfl ?_
  refine g_iload_n C 1 dX5_refusedPlace_1 rfl ?_
  obtain ⟨r_2, σ_3, h_1, hf⟩ := b2_some hf
  refine g_cV_i C Kf [.int x1] (mX5_refusedRow hK0 X.1.2.1 σ x1 r_2 σ_3 h_1) mi_X5_refusedRow (qO_X5 hK0) rfl km_X5_92 ⟨rfl, rfl, by decide, by decide⟩ rfl rfl (Nat.le_of_ble_eq_true rfl) dX5_refusedPlace_2 ?_
  refine g_istore_n C [(3, .int r_2), (0, .ref (K.2.1 0)), (1, .int x1), (2, .int x2)] dX5_refusedPlace_5 rfl (by decide) rfl ?_
  refine g_iload_n C 0 dX5_refusedPlace_6 rfl ?_
  refine g_if_eq C 12 dX5_refusedPlace_7 (by decide) hf (fun hf => ?_) (fun hf => ?_)
  · refine g_aload_n C 1 dX5_refusedPlace_12 rfl ?_
    refine g_getR C Kf cl_X5 (qF_X5_0 hK0) (by decide) dX5_refusedPlace_13 kf_X5_14 ?_
    refine g_iload_n C 2 dX5_refusedPlace_16 rfl ?_
    refine g_iload_n C 3 dX5_refusedPlace_17 rfl ?_
    refine g_iconst (v := 1) C dX5_refusedPlace_18 (by decide) ?_
    obtain ⟨r_5, h_4, hf⟩ := b1_some hf
    refine g_cVN_i C Kf [.int x1, .int x2, .int 1] (mX3_spans hK0 X.1.2.1 σ_3 1 x1 x2 1 (sh_1) r_5 h_4) mi_X3_spans (qO_X3 hK0 sh_1) rfl km_X5_102 ⟨rfl, rfl, by decide, by decide⟩ rfl rfl (Nat.le_of_ble_eq_true rfl) dX5_refusedPlace_19 ?_
    refine g_if_eq C 29 dX5_refusedPlace_22 (by decide) hf (fun hf => ?_) (fun hf => ?_)
    · refine g_aload_n C 1 dX5_refusedPlace_29 rfl ?_
      refine g_iconst (v := 2) C dX5_refusedPlace_30 (by decide) ?_
      obtain ⟨r_7, σ_8, h_6, hf⟩ := b2_some hf
      refine g_cV_i C Kf [.int 2] (mX5_found hK0 X.1.2.1 σ_3 2 r_7 σ_8 h_6) mi_X5_found (qO_X5 hK0) rfl km_X5_74 ⟨rfl, rfl, by decide, by decide⟩ rfl rfl (Nat.le_of_ble_eq_true rfl) dX5_refusedPlace_31 ?_
      exact g_iretP C Kf hR dX5_refusedPlace_34 hf
    · refine g_iconst (v := 0) C dX5_refusedPlace_25 (by decide) ?_
      refine g_goto C 34 dX5_refusedPlace_26 (by decide) ?_
      exact g_iretP C Kf hR dX5_refusedPlace_34 hf
  · refine g_iload_n C 0 dX5_refusedPlace_10 rfl ?_
    exact g_iretP C Kf hR dX5_refusedPlace_11 hf
abbrev rmX5_at : Room := { frames := 4, cells := 0, slots := 0, locals := 86 }
set_option maxHeartbeats 4000000 in
set_option maxRecDepth 100000 in
theorem mX5_at {K : Kx} (hK0 : isKC K) (l : Launch) (σ : St) (x1 : Int32) (x2 : Int32)  (r : Int32) (σ' : St) (hf : f5_at σ x1 x2 = some (r, σ')) : mC K l yX5_at cX5_at 4 (some .int) rmX5_at [.ref (K.2.1 0), .int x1, .int x2] σ (some (.int r)) σ' := by
  refine g_entry (own := RX5) rfl (by decide +kernel) (Nat.le_of_ble_eq_true rfl) (fun X hX C Kf hR => ?_)
  subst hX
  unfold f5_at at hf
  show gG X σ 0 [(0, .ref (K.2.1 0)), (1, .int x1), (2, .int x2)] []
  refine g_aload_n C 0 dX5_at_0 rfl ?_
  refine g_iload_n C 1 dX5_at_1 rfl ?_
  refine g_iload_n C 2 dX5_at_2 rfl ?_
  obtain ⟨r_2, σ_3, h_1, hf⟩ := b2_some hf
  refine g_cV_i C Kf [.int x1, .int x2] (mX5_refusedPlace hK0 X.1.2.1 σ x1 x2 r_2 σ_3 h_1) mi_X5_refusedPlace (qO_X5 hK0) rfl km_X5_82 ⟨rfl, rfl, by decide, by decide⟩ rfl rfl (Nat.le_of_ble_eq_true rfl) dX5_at_3 ?_
  refine g_istore_n C [(3, .int r_2), (0, .ref (K.2.1 0)), (1, .int x1), (2, .int x2)] dX5_at_6 rfl (by decide) rfl ?_
  refine g_iload_n C 0 dX5_at_7 rfl ?_
  refine g_if_eq C 13 dX5_at_8 (by decide) hf (fun hf => ?_) (fun hf => ?_)
  · refine g_aload_n C 1 dX5_at_13 rfl ?_
    refine g_aload_n C 1 dX5_at_14 rfl ?_
    refine g_getR C Kf cl_X5 (qF_X5_0 hK0) (by decide) dX5_at_15 kf_X5_14 ?_
    refine g_iload_n C 2 dX5_at_18 rfl ?_
    refine g_iload_n C 3 dX5_at_19 rfl ?_
    obtain ⟨r_5, h_4, hf⟩ := b1_some hf
    refine g_cVN_i C Kf [.int x1, .int x2] (mX3_get hK0 X.1.2.1 σ_3 1 x1 x2 (sh_1) r_5 h_4) mi_X3_get (qO_X3 hK0 sh_1) rfl km_X5_86 ⟨rfl, rfl, by decide, by decide⟩ rfl rfl (Nat.le_of_ble_eq_true rfl) dX5_at_20 ?_
    refine g_putI C Kf cl_X5 (qF_X5_9 hK0) (by decide) rfl rfl rfl dX5_at_23 kf_X5_60 hf (fun σ_6 hf => ?_)
    refine g_iconst (v := 1) C dX5_at_26 (by decide) ?_
    exact g_iretP C Kf hR dX5_at_27 hf
  · refine g_iload_n C 0 dX5_at_11 rfl ?_
    exact g_iretP C Kf hR dX5_at_12 hf
abbrev rmX5_isCard : Room := { frames := 0, cells := 0, slots := 0, locals := 0 }
set_option maxHeartbeats 4000000 in
set_option maxRecDepth 100000 in
theorem mX5_isCard {K : Kx} (hK0 : isKC K) (l : Launch) (σ : St) (x1 : Int32)  (r : Int32) (hf : f5_isCard σ x1 = some r) : mC K l yX5_isCard cX5_isCard 2 (some .boolean) rmX5_isCard [.ref (K.2.1 0), .int x1] σ (some (.int r)) σ := by
  refine g_entry (own := RX5) rfl (by decide +kernel) (Nat.le_of_ble_eq_true rfl) (fun X hX C Kf hR => ?_)
  subst hX
  unfold f5_isCard at hf
  show gG X σ 0 [(0, .ref (K.2.1 0)), (1, .int x1)] []
  refine g_iload_n C 1 dX5_isCard_0 rfl ?_
  refine g_if_lt C 19 dX5_isCard_1 (by decide) hf (fun hf => ?_) (fun hf => ?_)
  · refine g_iconst (v := 0) C dX5_isCard_19 (by decide) ?_
    exact g_zretR C Kf hR (Or.inl rfl) dX5_isCard_20 hf
  · refine g_iload_n C 1 dX5_isCard_4 rfl ?_
    refine g_aload_n C 0 dX5_isCard_5 rfl ?_
    refine g_getR C Kf cl_X5 (qF_X5_4 hK0) (by decide) dX5_isCard_6 kf_X5_34 ?_
    refine g_getIN C Kf cl_X1 (qF_X1_7 hK0) (by decide) dX5_isCard_9 kf_X5_123 ?_
    refine g_icmp_ge C 19 dX5_isCard_12 (by decide) hf (fun hf => ?_) (fun hf => ?_)
    · refine g_iconst (v := 0) C dX5_isCard_19 (by decide) ?_
      exact g_zretR C Kf hR (Or.inl rfl) dX5_isCard_20 hf
    · refine g_iconst (v := 1) C dX5_isCard_15 (by decide) ?_
      refine g_goto C 20 dX5_isCard_16 (by decide) ?_
      exact g_zretR C Kf hR (Or.inr rfl) dX5_isCard_20 hf
abbrev rmX5_cardFact : Room := { frames := 4, cells := 0, slots := 0, locals := 91 }
set_option maxHeartbeats 4000000 in
set_option maxRecDepth 100000 in
theorem mX5_cardFact {K : Kx} (hK0 : isKC K) (l : Launch) (σ : St) (x1 : Int32) (x2 : Int32)  (r : Int32) (hf : f5_cardFact σ x1 x2 = some r) : mC K l yX5_cardFact cX5_cardFact 3 (some .int) rmX5_cardFact [.ref (K.2.1 0), .int x1, .int x2] σ (some (.int r)) σ := by
  refine g_entry (own := RX5) rfl (by decide +kernel) (Nat.le_of_ble_eq_true rfl) (fun X hX C Kf hR => ?_)
  subst hX
  unfold f5_cardFact at hf
  show gG X σ 0 [(0, .ref (K.2.1 0)), (1, .int x1), (2, .int x2)] []
  refine g_iload_n C 2 dX5_cardFact_0 rfl ?_
  refine g_if_ne C 14 dX5_cardFact_1 (by decide) hf (fun hf => ?_) (fun hf => ?_)
  · refine g_iload_n C 2 dX5_cardFact_14 rfl ?_
    refine g_iconst (v := 3) C dX5_cardFact_15 (by decide) ?_
    refine g_icmp_gt C 31 dX5_cardFact_16 (by decide) hf (fun hf => ?_) (fun hf => ?_)
    · refine g_iload_n C 2 dX5_cardFact_31 rfl ?_
      refine g_iconst (v := 4) C dX5_cardFact_32 (by decide) ?_
      refine g_icmp_ne C 45 dX5_cardFact_33 (by decide) hf (fun hf => ?_) (fun hf => ?_)
      · refine g_aload_n C 0 dX5_cardFact_45 rfl ?_
        refine g_getR C Kf cl_X5 (qF_X5_4 hK0) (by decide) dX5_cardFact_46 kf_X5_34 ?_
        refine g_iload_n C 1 dX5_cardFact_49 rfl ?_
        refine g_iload_n C 2 dX5_cardFact_50 rfl ?_
        refine g_iconst (v := 3) C dX5_cardFact_51 (by decide) ?_
        refine g_isub C dX5_cardFact_52 ?_
        refine g_iconst (v := 2) C dX5_cardFact_53 (by decide) ?_
        refine g_isub C dX5_cardFact_54 ?_
        refine g_aload_n C 0 dX5_cardFact_55 rfl ?_
        refine g_getR C Kf cl_X5 (qF_X5_4 hK0) (by decide) dX5_cardFact_56 kf_X5_34 ?_
        refine g_getIN C Kf cl_X1 (qF_X1_8 hK0) (by decide) dX5_cardFact_59 kf_X5_139 ?_
        obtain ⟨r_2, h_1, hf⟩ := b1_some hf
        refine g_cVN_i C Kf [.int x1, .int ((x2 - 3) - 2), .int (σ.1 13 8)] (mX1_readsBehind hK0 X.1.2.1 σ x1 ((x2 - 3) - 2) (σ.1 13 8) r_2 h_1) mi_X1_readsBehind (qO_X1 hK0) rfl km_X5_178 ⟨rfl, rfl, by decide, by decide⟩ rfl rfl (Nat.le_of_ble_eq_true rfl) dX5_cardFact_62 ?_
        exact g_iretR C Kf hR dX5_cardFact_65 hf
      · refine g_aload_n C 0 dX5_cardFact_36 rfl ?_
        refine g_getR C Kf cl_X5 (qF_X5_4 hK0) (by decide) dX5_cardFact_37 kf_X5_34 ?_
        refine g_iload_n C 1 dX5_cardFact_40 rfl ?_
        obtain ⟨r_4, h_3, hf⟩ := b1_some hf
        refine g_cVN_i C Kf [.int x1] (mX1_placeOf hK0 X.1.2.1 σ x1 r_4 h_3) mi_X1_placeOf (qO_X1 hK0) rfl km_X5_147 ⟨rfl, rfl, by decide, by decide⟩ rfl rfl (Nat.le_of_ble_eq_true rfl) dX5_cardFact_41 ?_
        exact g_iretR C Kf hR dX5_cardFact_44 hf
    · refine g_aload_n C 0 dX5_cardFact_19 rfl ?_
      refine g_getR C Kf cl_X5 (qF_X5_4 hK0) (by decide) dX5_cardFact_20 kf_X5_34 ?_
      refine g_iload_n C 1 dX5_cardFact_23 rfl ?_
      refine g_iload_n C 2 dX5_cardFact_24 rfl ?_
      refine g_iconst (v := 1) C dX5_cardFact_25 (by decide) ?_
      refine g_isub C dX5_cardFact_26 ?_
      obtain ⟨r_6, h_5, hf⟩ := b1_some hf
      refine g_cVN_i C Kf [.int x1, .int (x2 - 1)] (mX1_figureOf hK0 X.1.2.1 σ x1 (x2 - 1) r_6 h_5) mi_X1_figureOf (qO_X1 hK0) rfl km_X5_166 ⟨rfl, rfl, by decide, by decide⟩ rfl rfl (Nat.le_of_ble_eq_true rfl) dX5_cardFact_27 ?_
      exact g_iretR C Kf hR dX5_cardFact_30 hf
  · refine g_aload_n C 0 dX5_cardFact_4 rfl ?_
    refine g_getR C Kf cl_X5 (qF_X5_4 hK0) (by decide) dX5_cardFact_5 kf_X5_34 ?_
    refine g_getRN C Kf cl_X1 (qF_X1_0 hK0) (by decide) dX5_cardFact_8 kf_X5_132 ?_
    refine g_iload_n C 1 dX5_cardFact_11 rfl ?_
    refine g_iald C Kf (qAC_14 hK0) dX5_cardFact_12 hf (fun hf => ?_)
    exact g_iretR C Kf hR dX5_cardFact_13 hf
abbrev rmX5_card : Room := { frames := 5, cells := 0, slots := 0, locals := 113 }
set_option maxHeartbeats 4000000 in
set_option maxRecDepth 100000 in
theorem mX5_card {K : Kx} (hK0 : isKC K) (l : Launch) (σ : St) (x1 : Int32) (x2 : Int32)  (r : Int32) (σ' : St) (hf : f5_card σ x1 x2 = some (r, σ')) : mC K l yX5_card cX5_card 3 (some .int) rmX5_card [.ref (K.2.1 0), .int x1, .int x2] σ (some (.int r)) σ' := by
  refine g_entry (own := RX5) rfl (by decide +kernel) (Nat.le_of_ble_eq_true rfl) (fun X hX C Kf hR => ?_)
  subst hX
  unfold f5_card at hf
  show gG X σ 0 [(0, .ref (K.2.1 0)), (1, .int x1), (2, .int x2)] []
  refine g_aload_n C 0 dX5_card_0 rfl ?_
  refine g_iload_n C 1 dX5_card_1 rfl ?_
  obtain ⟨r_2, h_1, hf⟩ := b1_some hf
  refine g_cV_i C Kf [.int x1] (mX5_isCard hK0 X.1.2.1 σ x1 r_2 h_1) mi_X5_isCard (qO_X5 hK0) rfl km_X5_126 ⟨rfl, rfl, by decide, by decide⟩ rfl rfl (Nat.le_of_ble_eq_true rfl) dX5_card_2 ?_
  refine g_if_eq C 18 dX5_card_5 (by decide) hf (fun hf => ?_) (fun hf => ?_)
  · refine g_iconst (v := (-1)) C dX5_card_18 (by decide) ?_
    exact g_iretP C Kf hR dX5_card_19 hf
  · refine g_iload_n C 2 dX5_card_8 rfl ?_
    refine g_if_lt C 18 dX5_card_9 (by decide) hf (fun hf => ?_) (fun hf => ?_)
    · refine g_iconst (v := (-1)) C dX5_card_18 (by decide) ?_
      exact g_iretP C Kf hR dX5_card_19 hf
    · refine g_iload_n C 2 dX5_card_12 rfl ?_
      refine g_bipush (v := 8) C dX5_card_13 (by decide) ?_
      refine g_icmp_lt C 20 dX5_card_15 (by decide) hf (fun hf => ?_) (fun hf => ?_)
      · refine g_aload_n C 0 dX5_card_20 rfl ?_
        refine g_aload_n C 0 dX5_card_21 rfl ?_
        refine g_iload_n C 1 dX5_card_22 rfl ?_
        refine g_iload_n C 2 dX5_card_23 rfl ?_
        obtain ⟨r_4, h_3, hf⟩ := b1_some hf
        refine g_cV_i C Kf [.int x1, .int x2] (mX5_cardFact hK0 X.1.2.1 σ x1 x2 r_4 h_3) mi_X5_cardFact (qO_X5 hK0) rfl km_X5_129 ⟨rfl, rfl, by decide, by decide⟩ rfl rfl (Nat.le_of_ble_eq_true rfl) dX5_card_24 ?_
        refine g_putI C Kf cl_X5 (qF_X5_9 hK0) (by decide) rfl rfl rfl dX5_card_27 kf_X5_60 hf (fun σ_5 hf => ?_)
        refine g_iconst (v := 1) C dX5_card_30 (by decide) ?_
        exact g_iretP C Kf hR dX5_card_31 hf
      · refine g_iconst (v := (-1)) C dX5_card_18 (by decide) ?_
        exact g_iretP C Kf hR dX5_card_19 hf
abbrev rmX5_eachCardOnce : Room := { frames := 3, cells := 0, slots := 0, locals := 66 }
set_option maxHeartbeats 4000000 in
set_option maxRecDepth 100000 in
theorem wL5_eachCardOnce_4 {X : Gx St} {K : Kx} (hK0 : isKC K) (σ : St) (x1 : Int32) (r : Int32) (C : gF X cX5_eachCardOnce RX5 (some .boolean) 5 rmX5_eachCardOnce) (Kf : kF X K) (hR : gR X K (some (.int r)) σ) (k : Option (Int32)) (Hk : k = some r → gG X σ 60 [] []) : ∀ (n : Nat) (x2_1 : Int32) (x3_2 : Int32), L5_eachCardOnce_4 σ x1 k n x2_1 x3_2 = some r → gG X σ 4 [(0, .ref (K.2.1 0)), (1, .int x1), (2, .int x2_1), (3, .int x3_2)] [] := by
  intro n
  induction n with
  | zero => intro _ _ hf; unfold L5_eachCardOnce_4 at hf; cases hf
  | succ n ih =>
  intro x2_1 x3_2 hf
  unfold L5_eachCardOnce_4 at hf
  refine g_iload_n C 3 dX5_eachCardOnce_4 rfl ?_
  refine g_aload_n C 0 dX5_eachCardOnce_5 rfl ?_
  refine g_getR C Kf cl_X5 (qF_X5_0 hK0) (by decide) dX5_eachCardOnce_6 kf_X5_14 ?_
  refine g_iload_n C 1 dX5_eachCardOnce_9 rfl ?_
  obtain ⟨r_4, h_3, hf⟩ := b1_some hf
  refine g_cVN_i C Kf [.int x1] (mX3_sizeOf hK0 X.1.2.1 σ 1 x1 (sh_1) r_4 h_3) mi_X3_sizeOf (qO_X3 hK0 sh_1) rfl km_X5_106 ⟨rfl, rfl, by decide, by decide⟩ rfl rfl (Nat.le_of_ble_eq_true rfl) dX5_eachCardOnce_10 ?_
  refine g_icmp_ge C 60 dX5_eachCardOnce_13 (by decide) hf (fun hf => ?_) (fun hf => ?_)
  · refine g_cut [] rfl ?_
    exact Hk hf
  · refine g_aload_n C 0 dX5_eachCardOnce_16 rfl ?_
    refine g_getR C Kf cl_X5 (qF_X5_0 hK0) (by decide) dX5_eachCardOnce_17 kf_X5_14 ?_
    refine g_iload_n C 1 dX5_eachCardOnce_20 rfl ?_
    refine g_iload_n C 3 dX5_eachCardOnce_21 rfl ?_
    obtain ⟨r_6, h_5, hf⟩ := b1_some hf
    refine g_cVN_i C Kf [.int x1, .int x3_2] (mX3_get hK0 X.1.2.1 σ 1 x1 x3_2 (sh_1) r_6 h_5) mi_X3_get (qO_X3 hK0 sh_1) rfl km_X5_86 ⟨rfl, rfl, by decide, by decide⟩ rfl rfl (Nat.le_of_ble_eq_true rfl) dX5_eachCardOnce_22 ?_
    refine g_istore C [(4, .int r_6), (0, .ref (K.2.1 0)), (1, .int x1), (2, .int x2_1), (3, .int x3_2)] dX5_eachCardOnce_25 (by decide) rfl ?_
    refine g_aload_n C 1 dX5_eachCardOnce_27 rfl ?_
    refine g_iload C 0 dX5_eachCardOnce_28 rfl ?_
    obtain ⟨r_8, h_7, hf⟩ := b1_some hf
    refine g_cV_i C Kf [.int r_6] (mX5_isCard hK0 X.1.2.1 σ r_6 r_8 h_7) mi_X5_isCard (qO_X5 hK0) rfl km_X5_126 ⟨rfl, rfl, by decide, by decide⟩ rfl rfl (Nat.le_of_ble_eq_true rfl) dX5_eachCardOnce_30 ?_
    refine g_if_eq C 45 dX5_eachCardOnce_33 (by decide) hf (fun hf => ?_) (fun hf => ?_)
    · refine g_iconst (v := 0) C dX5_eachCardOnce_45 (by decide) ?_
      exact g_zretR C Kf hR (Or.inl rfl) dX5_eachCardOnce_46 hf
    · refine g_iload_n C 3 dX5_eachCardOnce_36 rfl ?_
      refine g_iload C 0 dX5_eachCardOnce_37 rfl ?_
      refine g_ishr C dX5_eachCardOnce_39 ?_
      refine g_iconst (v := 1) C dX5_eachCardOnce_40 (by decide) ?_
      refine g_iand C dX5_eachCardOnce_41 ?_
      refine g_if_eq C 47 dX5_eachCardOnce_42 (by decide) hf (fun hf => ?_) (fun hf => ?_)
      · refine g_iload_n C 3 dX5_eachCardOnce_47 rfl ?_
        refine g_iconst (v := 1) C dX5_eachCardOnce_48 (by decide) ?_
        refine g_iload C 0 dX5_eachCardOnce_49 rfl ?_
        refine g_ishl C dX5_eachCardOnce_51 ?_
        refine g_ior C dX5_eachCardOnce_52 ?_
        refine g_istore_nB C (fun x2_9 => [(2, .int x2_9), (4, .int r_6), (0, .ref (K.2.1 0)), (1, .int x1), (3, .int x3_2)]) dX5_eachCardOnce_53 rfl (by decide) (fun _ => rfl) hf (fun x2_9 hf => ?_)
        refine g_iinc (d := 1) C 4 (fun x3_10 => [(3, .int x3_10), (2, .int x2_9), (4, .int r_6), (0, .ref (K.2.1 0)), (1, .int x1)]) dX5_eachCardOnce_54 rfl (by decide) (by decide) (fun _ => rfl) hf (fun x3_10 hf => ?_)
        refine g_goto C 4 dX5_eachCardOnce_57 (by decide) ?_
        refine g_cut [3, 4, 1, 0] rfl ?_
        exact ih _ _ hf
      · refine g_iconst (v := 0) C dX5_eachCardOnce_45 (by decide) ?_
        exact g_zretR C Kf hR (Or.inl rfl) dX5_eachCardOnce_46 hf
set_option maxHeartbeats 4000000 in
set_option maxRecDepth 100000 in
theorem mX5_eachCardOnce {K : Kx} (hK0 : isKC K) (l : Launch) (σ : St) (x1 : Int32)  (r : Int32) (hf : f5_eachCardOnce σ x1 = some r) : mC K l yX5_eachCardOnce cX5_eachCardOnce 5 (some .boolean) rmX5_eachCardOnce [.ref (K.2.1 0), .int x1] σ (some (.int r)) σ := by
  refine g_entry (own := RX5) rfl (by decide +kernel) (Nat.le_of_ble_eq_true rfl) (fun X hX C Kf hR => ?_)
  subst hX
  unfold f5_eachCardOnce at hf
  show gG X σ 0 [(0, .ref (K.2.1 0)), (1, .int x1)] []
  refine g_iconst (v := 0) C dX5_eachCardOnce_0 (by decide) ?_
  refine g_istore_n C [(2, .int 0), (0, .ref (K.2.1 0)), (1, .int x1)] dX5_eachCardOnce_1 rfl (by decide) rfl ?_
  refine g_iconst (v := 0) C dX5_eachCardOnce_2 (by decide) ?_
  refine g_istore_n C [(3, .int 0), (2, .int 0), (0, .ref (K.2.1 0)), (1, .int x1)] dX5_eachCardOnce_3 rfl (by decide) rfl ?_
  refine g_cut [2, 3, 1, 0] rfl ?_
  refine wL5_eachCardOnce_4 hK0 σ x1 _ C Kf hR _ (fun  hf => ?_) _ _ _ hf
  refine g_iconst (v := 1) C dX5_eachCardOnce_60 (by decide) ?_
  exact g_zretR C Kf hR (Or.inr rfl) dX5_eachCardOnce_61 hf
abbrev rmX5_liesAs : Room := { frames := 3, cells := 0, slots := 0, locals := 66 }
set_option maxHeartbeats 4000000 in
set_option maxRecDepth 100000 in
theorem wL5_liesAs_2 {X : Gx St} {K : Kx} (hK0 : isKC K) (σ : St) (a2 : Nat) (ha2 : 0 < lnC a2) (x1 : Int32) (r : Int32) (C : gF X cX5_liesAs RX5 (some .boolean) 4 rmX5_liesAs) (Kf : kF X K) (hR : gR X K (some (.int r)) σ) (k : Option (Int32)) (Hk : k = some r → gG X σ 36 [] []) : ∀ (n : Nat) (x3_1 : Int32), L5_liesAs_2 σ a2 x1 k n x3_1 = some r → gG X σ 2 [(0, .ref (K.2.1 0)), (1, .int x1), (2, .ref (K.2.1 a2)), (3, .int x3_1)] [] := by
  intro n
  induction n with
  | zero => intro _ hf; unfold L5_liesAs_2 at hf; cases hf
  | succ n ih =>
  intro x3_1 hf
  unfold L5_liesAs_2 at hf
  refine g_iload_n C 3 dX5_liesAs_2 rfl ?_
  refine g_aload_n C 0 dX5_liesAs_3 rfl ?_
  refine g_getR C Kf cl_X5 (qF_X5_4 hK0) (by decide) dX5_liesAs_4 kf_X5_34 ?_
  refine g_getIN C Kf cl_X1 (qF_X1_7 hK0) (by decide) dX5_liesAs_7 kf_X5_123 ?_
  refine g_icmp_ge C 36 dX5_liesAs_10 (by decide) hf (fun hf => ?_) (fun hf => ?_)
  · refine g_cut [] rfl ?_
    exact Hk hf
  · refine g_aload_n C 0 dX5_liesAs_13 rfl ?_
    refine g_getR C Kf cl_X5 (qF_X5_0 hK0) (by decide) dX5_liesAs_14 kf_X5_14 ?_
    refine g_iload_n C 1 dX5_liesAs_17 rfl ?_
    refine g_iload_n C 3 dX5_liesAs_18 rfl ?_
    obtain ⟨r_3, h_2, hf⟩ := b1_some hf
    refine g_cVN_i C Kf [.int x1, .int x3_1] (mX3_get hK0 X.1.2.1 σ 1 x1 x3_1 (sh_1) r_3 h_2) mi_X3_get (qO_X3 hK0 sh_1) rfl km_X5_86 ⟨rfl, rfl, by decide, by decide⟩ rfl rfl (Nat.le_of_ble_eq_true rfl) dX5_liesAs_19 ?_
    refine g_aload_n C 2 dX5_liesAs_22 rfl ?_
    refine g_iload_n C 3 dX5_liesAs_23 rfl ?_
    refine g_iald C Kf (qAC hK0 ha2) dX5_liesAs_24 hf (fun hf => ?_)
    refine g_icmp_eq C 30 dX5_liesAs_25 (by decide) hf (fun hf => ?_) (fun hf => ?_)
    · refine g_iinc (d := 1) C 3 (fun x3_4 => [(3, .int x3_4), (0, .ref (K.2.1 0)), (1, .int x1), (2, .ref (K.2.1 a2))]) dX5_liesAs_30 rfl (by decide) (by decide) (fun _ => rfl) hf (fun x3_4 hf => ?_)
      refine g_goto C 2 dX5_liesAs_33 (by decide) ?_
      refine g_cut [1, 2, 3, 0] rfl ?_
      exact ih _ hf
    · refine g_iconst (v := 0) C dX5_liesAs_28 (by decide) ?_
      exact g_zretR C Kf hR (Or.inl rfl) dX5_liesAs_29 hf
set_option maxHeartbeats 4000000 in
set_option maxRecDepth 100000 in
theorem mX5_liesAs {K : Kx} (hK0 : isKC K) (l : Launch) (σ : St) (x1 : Int32) (a2 : Nat) (ha2 : 0 < lnC a2) (r : Int32) (hf : f5_liesAs σ x1 a2 = some r) : mC K l yX5_liesAs cX5_liesAs 4 (some .boolean) rmX5_liesAs [.ref (K.2.1 0), .int x1, .ref (K.2.1 a2)] σ (some (.int r)) σ := by
  refine g_entry (own := RX5) rfl (by decide +kernel) (Nat.le_of_ble_eq_true rfl) (fun X hX C Kf hR => ?_)
  subst hX
  unfold f5_liesAs at hf
  show gG X σ 0 [(0, .ref (K.2.1 0)), (1, .int x1), (2, .ref (K.2.1 a2))] []
  refine g_iconst (v := 0) C dX5_liesAs_0 (by decide) ?_
  refine g_istore_n C [(3, .int 0), (0, .ref (K.2.1 0)), (1, .int x1), (2, .ref (K.2.1 a2))] dX5_liesAs_1 rfl (by decide) rfl ?_
  refine g_cut [1, 2, 3, 0] rfl ?_
  refine wL5_liesAs_2 hK0 σ a2 ha2 x1 _ C Kf hR _ (fun  hf => ?_) _ _ hf
  refine g_iconst (v := 1) C dX5_liesAs_36 (by decide) ?_
  exact g_zretR C Kf hR (Or.inr rfl) dX5_liesAs_37 hf
abbrev rmX5_columns : Room := { frames := 5, cells := 0, slots := 0, locals := 122 }
set_option maxHeartbeats 4000000 in
set_option maxRecDepth 100000 in
theorem wL5_columns_81 {X : Gx St} {K : Kx} (hK0 : isKC K) (σ : St) (x1 : Int32) (r : Int32) (σ' : St) (C : gF X cX5_columns RX5 (some .int) 4 rmX5_columns) (Kf : kF X K) (hR : gR X K (some (.int r)) σ') (k : Int32 → St → Option (Int32 × St)) (Hk : ∀ (x2_12 : Int32) (σ_24 : St), k x2_12 σ_24 = some (r, σ') → gG X σ_24 119 [(2, .int x2_12)] []) : ∀ (n : Nat) (x2_9 : Int32) (x3_10 : Int32) (σ_11 : St), L5_columns_81 x1 k n x2_9 x3_10 σ_11 = some (r, σ') → gG X σ_11 81 [(0, .ref (K.2.1 0)), (1, .int x1), (2, .int x2_9), (3, .int x3_10)] [] := by
  intro n
  induction n with
  | zero => intro _ _ _ hf; unfold L5_columns_81 at hf; cases hf
  | succ n ih =>
  intro x2_9 x3_10 σ_11 hf
  unfold L5_columns_81 at hf
  refine g_iload_n C 3 dX5_columns_81 rfl ?_
  refine g_iconst (v := 3) C dX5_columns_82 (by decide) ?_
  refine g_icmp_ge C 119 dX5_columns_83 (by decide) hf (fun hf => ?_) (fun hf => ?_)
  · refine g_cut [2] rfl ?_
    exact Hk _ _ hf
  · refine g_aload_n C 0 dX5_columns_86 rfl ?_
    refine g_iload_n C 1 dX5_columns_87 rfl ?_
    refine g_aload_n C 0 dX5_columns_88 rfl ?_
    refine g_getR C Kf cl_X5 (qF_X5_5 hK0) (by decide) dX5_columns_89 kf_X5_41 ?_
    refine g_aload_n C 0 dX5_columns_92 rfl ?_
    refine g_getR C Kf cl_X5 (qF_X5_4 hK0) (by decide) dX5_columns_93 kf_X5_34 ?_
    refine g_iload_n C 3 dX5_columns_96 rfl ?_
    refine g_iconst (v := 0) C dX5_columns_97 (by decide) ?_
    obtain ⟨r_14, σ_15, h_13, hf⟩ := b2_some hf
    have hq_h_13 := cell_X4_passOnce h_13; subst hq_h_13
    refine g_cVN_r C Kf [.ref (K.2.1 13), .int x3_10, .int 0] (mX4_passOnce hK0 X.1.2.1 σ_11 x3_10 0 24 σ_15 h_13) mi_X4_passOnce (qO_X4 hK0) rfl km_X5_205 ⟨rfl, rfl, by decide, by decide⟩ rfl rfl (Nat.le_of_ble_eq_true rfl) dX5_columns_98 ?_
    obtain ⟨r_17, h_16, hf⟩ := b1_some hf
    refine g_cV_i C Kf [.int x1, .ref (K.2.1 24)] (mX5_liesAs hK0 X.1.2.1 σ_15 x1 24 (by decide) r_17 h_16) mi_X5_liesAs (qO_X5 hK0) rfl km_X5_209 ⟨rfl, rfl, by decide, by decide⟩ rfl rfl (Nat.le_of_ble_eq_true rfl) dX5_columns_101 ?_
    refine g_jn hf (fun j_19 ej_21 hf => ?_)
    have HJ_20 : ∀ (x2_18 : Int32), j_19 x2_18 = some (r, σ') → gG X σ_15 113 [(0, .ref (K.2.1 0)), (1, .int x1), (2, .int x2_18), (3, .int x3_10)] [] := by
      intro x2_18 hf
      rw [ej_21] at hf
      refine g_iinc (d := 1) C 3 (fun x3_22 => [(3, .int x3_22), (0, .ref (K.2.1 0)), (1, .int x1), (2, .int x2_18)]) dX5_columns_113 rfl (by decide) (by decide) (fun _ => rfl) hf (fun x3_22 hf => ?_)
      refine g_goto C 81 dX5_columns_116 (by decide) ?_
      refine g_cut [1, 2, 3, 0] rfl ?_
      exact ih _ _ _ hf
    refine g_if_eq C 113 dX5_columns_104 (by decide) hf (fun hf => ?_) (fun hf => ?_)
    · exact HJ_20 _ hf
    · refine g_iload_n C 2 dX5_columns_107 rfl ?_
      refine g_iconst (v := 1) C dX5_columns_108 (by decide) ?_
      refine g_iload_n C 3 dX5_columns_109 rfl ?_
      refine g_ishl C dX5_columns_110 ?_
      refine g_ior C dX5_columns_111 ?_
      refine g_istore_nB C (fun x2_23 => [(2, .int x2_23), (0, .ref (K.2.1 0)), (1, .int x1), (3, .int x3_10)]) dX5_columns_112 rfl (by decide) (fun _ => rfl) hf (fun x2_23 hf => ?_)
      refine g_cut [1, 2, 0, 3] rfl ?_
      exact HJ_20 _ hf
set_option maxHeartbeats 4000000 in
set_option maxRecDepth 100000 in
theorem mX5_columns {K : Kx} (hK0 : isKC K) (l : Launch) (σ : St) (x1 : Int32)  (r : Int32) (σ' : St) (hf : f5_columns σ x1 = some (r, σ')) : mC K l yX5_columns cX5_columns 4 (some .int) rmX5_columns [.ref (K.2.1 0), .int x1] σ (some (.int r)) σ' := by
  refine g_entry (own := RX5) rfl (by decide +kernel) (Nat.le_of_ble_eq_true rfl) (fun X hX C Kf hR => ?_)
  subst hX
  unfold f5_columns at hf
  show gG X σ 0 [(0, .ref (K.2.1 0)), (1, .int x1)] []
  refine g_iload_n C 1 dX5_columns_0 rfl ?_
  obtain ⟨r_2, h_1, hf⟩ := b1_some hf
  refine g_cS_i C Kf [.int x1] (mX5_isRow hK0 X.1.2.1 σ x1 r_2 h_1) mi_X5_isRow km_X5_70 ⟨rfl, rfl, by decide, by decide⟩ rfl rfl (Nat.le_of_ble_eq_true rfl) dX5_columns_1 ?_
  refine g_if_ne C 9 dX5_columns_4 (by decide) hf (fun hf => ?_) (fun hf => ?_)
  · refine g_aload_n C 0 dX5_columns_9 rfl ?_
    refine g_getR C Kf cl_X5 (qF_X5_4 hK0) (by decide) dX5_columns_10 kf_X5_34 ?_
    refine g_getIN C Kf cl_X1 (qF_X1_7 hK0) (by decide) dX5_columns_13 kf_X5_123 ?_
    refine g_if_ne C 22 dX5_columns_16 (by decide) hf (fun hf => ?_) (fun hf => ?_)
    · refine g_aload_n C 0 dX5_columns_22 rfl ?_
      refine g_getR C Kf cl_X5 (qF_X5_0 hK0) (by decide) dX5_columns_23 kf_X5_14 ?_
      refine g_iload_n C 1 dX5_columns_26 rfl ?_
      obtain ⟨r_4, h_3, hf⟩ := b1_some hf
      refine g_cVN_i C Kf [.int x1] (mX3_holds hK0 X.1.2.1 σ 1 x1 (sh_1) r_4 h_3) mi_X3_holds (qO_X3 hK0 sh_1) rfl km_X5_99 ⟨rfl, rfl, by decide, by decide⟩ rfl rfl (Nat.le_of_ble_eq_true rfl) dX5_columns_27 ?_
      refine g_if_ne C 39 dX5_columns_30 (by decide) hf (fun hf => ?_) (fun hf => ?_)
      · refine g_aload_n C 0 dX5_columns_39 rfl ?_
        refine g_getR C Kf cl_X5 (qF_X5_0 hK0) (by decide) dX5_columns_40 kf_X5_14 ?_
        refine g_iload_n C 1 dX5_columns_43 rfl ?_
        obtain ⟨r_6, h_5, hf⟩ := b1_some hf
        refine g_cVN_i C Kf [.int x1] (mX3_sizeOf hK0 X.1.2.1 σ 1 x1 (sh_1) r_6 h_5) mi_X3_sizeOf (qO_X3 hK0 sh_1) rfl km_X5_106 ⟨rfl, rfl, by decide, by decide⟩ rfl rfl (Nat.le_of_ble_eq_true rfl) dX5_columns_44 ?_
        refine g_aload_n C 0 dX5_columns_47 rfl ?_
        refine g_getR C Kf cl_X5 (qF_X5_4 hK0) (by decide) dX5_columns_48 kf_X5_34 ?_
        refine g_getIN C Kf cl_X1 (qF_X1_7 hK0) (by decide) dX5_columns_51 kf_X5_123 ?_
        refine g_icmp_eq C 63 dX5_columns_54 (by decide) hf (fun hf => ?_) (fun hf => ?_)
        · refine g_aload_n C 0 dX5_columns_63 rfl ?_
          refine g_iload_n C 1 dX5_columns_64 rfl ?_
          obtain ⟨r_8, h_7, hf⟩ := b1_some hf
          refine g_cV_i C Kf [.int x1] (mX5_eachCardOnce hK0 X.1.2.1 σ x1 r_8 h_7) mi_X5_eachCardOnce (qO_X5 hK0) rfl km_X5_202 ⟨rfl, rfl, by decide, by decide⟩ rfl rfl (Nat.le_of_ble_eq_true rfl) dX5_columns_65 ?_
          refine g_if_ne C 77 dX5_columns_68 (by decide) hf (fun hf => ?_) (fun hf => ?_)
          · refine g_iconst (v := 0) C dX5_columns_77 (by decide) ?_
            refine g_istore_n C [(2, .int 0), (0, .ref (K.2.1 0)), (1, .int x1)] dX5_columns_78 rfl (by decide) rfl ?_
            refine g_iconst (v := 0) C dX5_columns_79 (by decide) ?_
            refine g_istore_n C [(3, .int 0), (2, .int 0), (0, .ref (K.2.1 0)), (1, .int x1)] dX5_columns_80 rfl (by decide) rfl ?_
            refine g_cut [2, 3, 1, 0] rfl ?_
            refine wL5_columns_81 hK0 σ x1 _ _ C Kf hR _ (fun x2_25 σ_26 hf => ?_) _ _ _ _ hf
            refine g_iload_n C 0 dX5_columns_119 rfl ?_
            exact g_iretP C Kf hR dX5_columns_120 hf
          · refine g_aload_n C 0 dX5_columns_71 rfl ?_
            refine g_iconst (v := 3) C dX5_columns_72 (by decide) ?_
            obtain ⟨r_28, σ_29, h_27, hf⟩ := b2_some hf
            refine g_cV_i C Kf [.int 3] (mX5_found hK0 X.1.2.1 σ 3 r_28 σ_29 h_27) mi_X5_found (qO_X5 hK0) rfl km_X5_74 ⟨rfl, rfl, by decide, by decide⟩ rfl rfl (Nat.le_of_ble_eq_true rfl) dX5_columns_73 ?_
            exact g_iretP C Kf hR dX5_columns_76 hf
        · refine g_aload_n C 0 dX5_columns_57 rfl ?_
          refine g_iconst (v := 5) C dX5_columns_58 (by decide) ?_
          obtain ⟨r_31, σ_32, h_30, hf⟩ := b2_some hf
          refine g_cV_i C Kf [.int 5] (mX5_found hK0 X.1.2.1 σ 5 r_31 σ_32 h_30) mi_X5_found (qO_X5 hK0) rfl km_X5_74 ⟨rfl, rfl, by decide, by decide⟩ rfl rfl (Nat.le_of_ble_eq_true rfl) dX5_columns_59 ?_
          exact g_iretP C Kf hR dX5_columns_62 hf
      · refine g_aload_n C 0 dX5_columns_33 rfl ?_
        refine g_iconst (v := 1) C dX5_columns_34 (by decide) ?_
        obtain ⟨r_34, σ_35, h_33, hf⟩ := b2_some hf
        refine g_cV_i C Kf [.int 1] (mX5_found hK0 X.1.2.1 σ 1 r_34 σ_35 h_33) mi_X5_found (qO_X5 hK0) rfl km_X5_74 ⟨rfl, rfl, by decide, by decide⟩ rfl rfl (Nat.le_of_ble_eq_true rfl) dX5_columns_35 ?_
        exact g_iretP C Kf hR dX5_columns_38 hf
    · refine g_bipush (v := (-4)) C dX5_columns_19 (by decide) ?_
      exact g_iretP C Kf hR dX5_columns_21 hf
  · refine g_iconst (v := (-1)) C dX5_columns_7 (by decide) ?_
    exact g_iretP C Kf hR dX5_columns_8 hf
abbrev rmX5_commonDivisor : Room := { frames := 0, cells := 0, slots := 0, locals := 0 }
set_option maxHeartbeats 4000000 in
set_option maxRecDepth 100000 in
theorem wL5_commonDivisor_3 {X : Gx St} {K : Kx} (hK0 : isKC K) (σ : St) (r : Int64) (C : gF X cX5_commonDivisor RX5 (some .long) 7 rmX5_commonDivisor) (Kf : kF X K) (hR : gR X K (some (.long r)) σ) (k : Int64 → Option (Int64)) (Hk : ∀ (x0_4 : Int64), k x0_4 = some r → gG X σ 33 [(0, .long x0_4)] []) : ∀ (n : Nat) (x0_1 : Int64) (x2_2 : Int64) (x4_3 : Int32), L5_commonDivisor_3 k n x0_1 x2_2 x4_3 = some r → gG X σ 3 [(0, .long x0_1), (2, .long x2_2), (4, .int x4_3)] [] := by
  intro n
  induction n with
  | zero => intro _ _ _ hf; unfold L5_commonDivisor_3 at hf; cases hf
  | succ n ih =>
  intro x0_1 x2_2 x4_3 hf
  unfold L5_commonDivisor_3 at hf
  refine g_iload C 2 dX5_commonDivisor_3 rfl ?_
  refine g_sipush (v := 200) C dX5_commonDivisor_5 (by decide) ?_
  refine g_icmp_ge C 33 dX5_commonDivisor_8 (by decide) hf (fun hf => ?_) (fun hf => ?_)
  · refine g_cut [0] rfl ?_
    exact Hk _ hf
  · refine g_lload_n C 1 dX5_commonDivisor_11 rfl ?_
    refine g_lconst (v := 0) C dX5_commonDivisor_12 (by decide) ?_
    refine g_lcmp_eq C 33 dX5_commonDivisor_13 dX5_commonDivisor_14 (by decide) hf (fun hf => ?_) (fun hf => ?_)
    · refine g_cut [0] rfl ?_
      exact Hk _ hf
    · refine g_lload_n C 0 dX5_commonDivisor_17 rfl ?_
      refine g_lload_n C 1 dX5_commonDivisor_18 rfl ?_
      refine g_lrem C dX5_commonDivisor_19 hf (fun hf => ?_)
      refine g_lstoreB C (fun x5_5 => [(5, .long x5_5), (0, .long x0_1), (2, .long x2_2), (4, .int x4_3)]) dX5_commonDivisor_20 (by decide) (fun _ => rfl) hf (fun x5_5 hf => ?_)
      refine g_lload_n C 2 dX5_commonDivisor_22 rfl ?_
      refine g_lstore_n C [(0, .long x2_2), (5, .long x5_5), (2, .long x2_2), (4, .int x4_3)] dX5_commonDivisor_23 rfl (by decide) rfl ?_
      refine g_lload C 1 dX5_commonDivisor_24 rfl ?_
      refine g_lstore_n C [(2, .long x5_5), (0, .long x2_2), (5, .long x5_5), (4, .int x4_3)] dX5_commonDivisor_26 rfl (by decide) rfl ?_
      refine g_iinc (d := 1) C 3 (fun x4_6 => [(4, .int x4_6), (2, .long x5_5), (0, .long x2_2), (5, .long x5_5)]) dX5_commonDivisor_27 rfl (by decide) (by decide) (fun _ => rfl) hf (fun x4_6 hf => ?_)
      refine g_goto C 3 dX5_commonDivisor_30 (by decide) ?_
      refine g_cut [2, 1, 0] rfl ?_
      exact ih _ _ _ hf
set_option maxHeartbeats 4000000 in
set_option maxRecDepth 100000 in
theorem mX5_commonDivisor {K : Kx} (hK0 : isKC K) (l : Launch) (σ : St) (x0 : Int64) (x2 : Int64)  (r : Int64) (hf : f5_commonDivisor x0 x2 = some r) : mC K l yX5_commonDivisor cX5_commonDivisor 7 (some .long) rmX5_commonDivisor [.long x0, .long x2] σ (some (.long r)) σ := by
  refine g_entry (own := RX5) rfl (by decide +kernel) (Nat.le_of_ble_eq_true rfl) (fun X hX C Kf hR => ?_)
  subst hX
  unfold f5_commonDivisor at hf
  show gG X σ 0 [(0, .long x0), (2, .long x2)] []
  refine g_iconst (v := 0) C dX5_commonDivisor_0 (by decide) ?_
  refine g_istore C [(4, .int 0), (0, .long x0), (2, .long x2)] dX5_commonDivisor_1 (by decide) rfl ?_
  refine g_cut [1, 2, 0] rfl ?_
  refine wL5_commonDivisor_3 hK0 σ _ C Kf hR _ (fun x0_7 hf => ?_) _ _ _ _ hf
  refine g_lload_n C 0 dX5_commonDivisor_33 rfl ?_
  exact g_lretR C Kf hR dX5_commonDivisor_34 hf
abbrev rmX5_copy : Room := { frames := 3, cells := 0, slots := 0, locals := 67 }
set_option maxHeartbeats 4000000 in
set_option maxRecDepth 100000 in
theorem wL5_copy_144 {X : Gx St} {K : Kx} (hK0 : isKC K) (σ : St) (x1 : Int32) (x2 : Int32) (x3 : Int32) (x4 : Int32) (x5 : Int32) (r : Int32) (σ' : St) (C : gF X cX5_copy RX5 (some .int) 7 rmX5_copy) (Kf : kF X K) (hR : gR X K (some (.int r)) σ') (k : St → Option (Int32 × St)) (Hk : ∀ (σ_32 : St), k σ_32 = some (r, σ') → gG X σ_32 182 [] []) : ∀ (n : Nat) (x6_25 : Int32) (σ_26 : St), L5_copy_144 x1 x2 x3 x4 x5 k n x6_25 σ_26 = some (r, σ') → gG X σ_26 144 [(0, .ref (K.2.1 0)), (1, .int x1), (2, .int x2), (3, .int x3), (4, .int x4), (5, .int x5), (6, .int x6_25)] [] := by
  intro n
  induction n with
  | zero => intro _ _ hf; unfold L5_copy_144 at hf; cases hf
  | succ n ih =>
  intro x6_25 σ_26 hf
  unfold L5_copy_144 at hf
  refine g_iload C 6 dX5_copy_144 rfl ?_
  refine g_iload C 5 dX5_copy_146 rfl ?_
  refine g_icmp_ge C 182 dX5_copy_148 (by decide) hf (fun hf => ?_) (fun hf => ?_)
  · refine g_cut [] rfl ?_
    exact Hk _ hf
  · refine g_aload_n C 0 dX5_copy_151 rfl ?_
    refine g_getR C Kf cl_X5 (qF_X5_0 hK0) (by decide) dX5_copy_152 kf_X5_14 ?_
    refine g_iload_n C 3 dX5_copy_155 rfl ?_
    refine g_iload C 4 dX5_copy_156 rfl ?_
    refine g_iload C 6 dX5_copy_158 rfl ?_
    refine g_iadd C dX5_copy_160 ?_
    refine g_aload_n C 0 dX5_copy_161 rfl ?_
    refine g_getR C Kf cl_X5 (qF_X5_0 hK0) (by decide) dX5_copy_162 kf_X5_14 ?_
    refine g_iload_n C 1 dX5_copy_165 rfl ?_
    refine g_iload_n C 2 dX5_copy_166 rfl ?_
    refine g_iload C 6 dX5_copy_167 rfl ?_
    refine g_iadd C dX5_copy_169 ?_
    obtain ⟨r_28, h_27, hf⟩ := b1_some hf
    refine g_cVN_i C Kf [.int x1, .int (x2 + x6_25)] (mX3_get hK0 X.1.2.1 σ_26 1 x1 (x2 + x6_25) (sh_1) r_28 h_27) mi_X3_get (qO_X3 hK0 sh_1) rfl km_X5_86 ⟨rfl, rfl, by decide, by decide⟩ rfl rfl (Nat.le_of_ble_eq_true rfl) dX5_copy_170 ?_
    obtain ⟨σ_30, h_29, hf⟩ := b1_some hf
    refine g_cVN_v C Kf [.int x3, .int (x4 + x6_25), .int r_28] (mX3_set hK0 X.1.2.1 σ_26 1 x3 (x4 + x6_25) r_28 (sh_1) σ_30 h_29) mi_X3_set (qO_X3 hK0 sh_1) rfl km_X5_89 ⟨rfl, rfl, by decide, by decide⟩ rfl rfl (Nat.le_of_ble_eq_true rfl) dX5_copy_173 ?_
    refine g_iinc (d := 1) C 6 (fun x6_31 => [(6, .int x6_31), (0, .ref (K.2.1 0)), (1, .int x1), (2, .int x2), (3, .int x3), (4, .int x4), (5, .int x5)]) dX5_copy_176 rfl (by decide) (by decide) (fun _ => rfl) hf (fun x6_31 hf => ?_)
    refine g_goto C 144 dX5_copy_179 (by decide) ?_
    refine g_cut [1, 2, 3, 4, 5, 6, 0] rfl ?_
    exact ih _ _ hf
set_option maxHeartbeats 4000000 in
set_option maxRecDepth 100000 in
theorem wL5_copy_102 {X : Gx St} {K : Kx} (hK0 : isKC K) (σ : St) (x1 : Int32) (x2 : Int32) (x3 : Int32) (x4 : Int32) (r : Int32) (σ' : St) (C : gF X cX5_copy RX5 (some .int) 7 rmX5_copy) (Kf : kF X K) (hR : gR X K (some (.int r)) σ') (k : St → Option (Int32 × St)) (Hk : ∀ (σ_42 : St), k σ_42 = some (r, σ') → gG X σ_42 138 [] []) : ∀ (n : Nat) (x6_35 : Int32) (σ_36 : St), L5_copy_102 x1 x2 x3 x4 k n x6_35 σ_36 = some (r, σ') → gG X σ_36 102 [(0, .ref (K.2.1 0)), (1, .int x1), (2, .int x2), (3, .int x3), (4, .int x4), (6, .int x6_35)] [] := by
  intro n
  induction n with
  | zero => intro _ _ hf; unfold L5_copy_102 at hf; cases hf
  | succ n ih =>
  intro x6_35 σ_36 hf
  unfold L5_copy_102 at hf
  refine g_iload C 5 dX5_copy_102 rfl ?_
  refine g_if_lt C 138 dX5_copy_104 (by decide) hf (fun hf => ?_) (fun hf => ?_)
  · refine g_cut [] rfl ?_
    exact Hk _ hf
  · refine g_aload_n C 0 dX5_copy_107 rfl ?_
    refine g_getR C Kf cl_X5 (qF_X5_0 hK0) (by decide) dX5_copy_108 kf_X5_14 ?_
    refine g_iload_n C 3 dX5_copy_111 rfl ?_
    refine g_iload C 4 dX5_copy_112 rfl ?_
    refine g_iload C 5 dX5_copy_114 rfl ?_
    refine g_iadd C dX5_copy_116 ?_
    refine g_aload_n C 0 dX5_copy_117 rfl ?_
    refine g_getR C Kf cl_X5 (qF_X5_0 hK0) (by decide) dX5_copy_118 kf_X5_14 ?_
    refine g_iload_n C 1 dX5_copy_121 rfl ?_
    refine g_iload_n C 2 dX5_copy_122 rfl ?_
    refine g_iload C 5 dX5_copy_123 rfl ?_
    refine g_iadd C dX5_copy_125 ?_
    obtain ⟨r_38, h_37, hf⟩ := b1_some hf
    refine g_cVN_i C Kf [.int x1, .int (x2 + x6_35)] (mX3_get hK0 X.1.2.1 σ_36 1 x1 (x2 + x6_35) (sh_1) r_38 h_37) mi_X3_get (qO_X3 hK0 sh_1) rfl km_X5_86 ⟨rfl, rfl, by decide, by decide⟩ rfl rfl (Nat.le_of_ble_eq_true rfl) dX5_copy_126 ?_
    obtain ⟨σ_40, h_39, hf⟩ := b1_some hf
    refine g_cVN_v C Kf [.int x3, .int (x4 + x6_35), .int r_38] (mX3_set hK0 X.1.2.1 σ_36 1 x3 (x4 + x6_35) r_38 (sh_1) σ_40 h_39) mi_X3_set (qO_X3 hK0 sh_1) rfl km_X5_89 ⟨rfl, rfl, by decide, by decide⟩ rfl rfl (Nat.le_of_ble_eq_true rfl) dX5_copy_129 ?_
    refine g_iinc (d := (-1)) C 5 (fun x6_41 => [(6, .int x6_41), (0, .ref (K.2.1 0)), (1, .int x1), (2, .int x2), (3, .int x3), (4, .int x4)]) dX5_copy_132 rfl (by decide) (by decide) (fun _ => rfl) hf (fun x6_41 hf => ?_)
    refine g_goto C 102 dX5_copy_135 (by decide) ?_
    refine g_cut [1, 2, 3, 4, 5, 0] rfl ?_
    exact ih _ _ hf
set_option maxHeartbeats 4000000 in
set_option maxRecDepth 100000 in
theorem mX5_copy {K : Kx} (hK0 : isKC K) (l : Launch) (σ : St) (x1 : Int32) (x2 : Int32) (x3 : Int32) (x4 : Int32) (x5 : Int32)  (r : Int32) (σ' : St) (hf : f5_copy σ x1 x2 x3 x4 x5 = some (r, σ')) : mC K l yX5_copy cX5_copy 7 (some .int) rmX5_copy [.ref (K.2.1 0), .int x1, .int x2, .int x3, .int x4, .int x5] σ (some (.int r)) σ' := by
  refine g_entry (own := RX5) rfl (by decide +kernel) (Nat.le_of_ble_eq_true rfl) (fun X hX C Kf hR => ?_)
  subst hX
  unfold f5_copy at hf
  show gG X σ 0 [(0, .ref (K.2.1 0)), (1, .int x1), (2, .int x2), (3, .int x3), (4, .int x4), (5, .int x5)] []
  refine g_iload_n C 1 dX5_copy_0 rfl ?_
  obtain ⟨r_2, h_1, hf⟩ := b1_some hf
  refine g_cS_i C Kf [.int x1] (mX5_isRow hK0 X.1.2.1 σ x1 r_2 h_1) mi_X5_isRow km_X5_70 ⟨rfl, rfl, by decide, by decide⟩ rfl rfl (Nat.le_of_ble_eq_true rfl) dX5_copy_1 ?_
  refine g_if_eq C 14 dX5_copy_4 (by decide) hf (fun hf => ?_) (fun hf => ?_)
  · refine g_iconst (v := (-1)) C dX5_copy_14 (by decide) ?_
    exact g_iretP C Kf hR dX5_copy_15 hf
  · refine g_iload_n C 3 dX5_copy_7 rfl ?_
    obtain ⟨r_4, h_3, hf⟩ := b1_some hf
    refine g_cS_i C Kf [.int x3] (mX5_isRow hK0 X.1.2.1 σ x3 r_4 h_3) mi_X5_isRow km_X5_70 ⟨rfl, rfl, by decide, by decide⟩ rfl rfl (Nat.le_of_ble_eq_true rfl) dX5_copy_8 ?_
    refine g_if_ne C 16 dX5_copy_11 (by decide) hf (fun hf => ?_) (fun hf => ?_)
    · refine g_iload C 5 dX5_copy_16 rfl ?_
      refine g_if_ge C 27 dX5_copy_18 (by decide) hf (fun hf => ?_) (fun hf => ?_)
      · refine g_aload_n C 0 dX5_copy_27 rfl ?_
        refine g_getR C Kf cl_X5 (qF_X5_0 hK0) (by decide) dX5_copy_28 kf_X5_14 ?_
        refine g_iload_n C 1 dX5_copy_31 rfl ?_
        obtain ⟨r_6, h_5, hf⟩ := b1_some hf
        refine g_cVN_i C Kf [.int x1] (mX3_holds hK0 X.1.2.1 σ 1 x1 (sh_1) r_6 h_5) mi_X3_holds (qO_X3 hK0 sh_1) rfl km_X5_99 ⟨rfl, rfl, by decide, by decide⟩ rfl rfl (Nat.le_of_ble_eq_true rfl) dX5_copy_32 ?_
        refine g_jn hf (fun j_7 ej_9 hf => ?_)
        have HJ_8 : j_7 = some (r, σ') → gG X σ 49 [(0, .ref (K.2.1 0))] [] := by
          intro hf
          rw [ej_9] at hf
          refine g_aload_n C 0 dX5_copy_49 rfl ?_
          refine g_iconst (v := 1) C dX5_copy_50 (by decide) ?_
          obtain ⟨r_11, σ_12, h_10, hf⟩ := b2_some hf
          refine g_cV_i C Kf [.int 1] (mX5_found hK0 X.1.2.1 σ 1 r_11 σ_12 h_10) mi_X5_found (qO_X5 hK0) rfl km_X5_74 ⟨rfl, rfl, by decide, by decide⟩ rfl rfl (Nat.le_of_ble_eq_true rfl) dX5_copy_51 ?_
          exact g_iretP C Kf hR dX5_copy_54 hf
        refine g_if_eq C 49 dX5_copy_35 (by decide) hf (fun hf => ?_) (fun hf => ?_)
        · refine g_cut [0] rfl ?_
          exact HJ_8 hf
        · refine g_aload_n C 0 dX5_copy_38 rfl ?_
          refine g_getR C Kf cl_X5 (qF_X5_0 hK0) (by decide) dX5_copy_39 kf_X5_14 ?_
          refine g_iload_n C 3 dX5_copy_42 rfl ?_
          obtain ⟨r_14, h_13, hf⟩ := b1_some hf
          refine g_cVN_i C Kf [.int x3] (mX3_holds hK0 X.1.2.1 σ 1 x3 (sh_1) r_14 h_13) mi_X3_holds (qO_X3 hK0 sh_1) rfl km_X5_99 ⟨rfl, rfl, by decide, by decide⟩ rfl rfl (Nat.le_of_ble_eq_true rfl) dX5_copy_43 ?_
          refine g_if_ne C 55 dX5_copy_46 (by decide) hf (fun hf => ?_) (fun hf => ?_)
          · refine g_aload_n C 0 dX5_copy_55 rfl ?_
            refine g_getR C Kf cl_X5 (qF_X5_0 hK0) (by decide) dX5_copy_56 kf_X5_14 ?_
            refine g_iload_n C 1 dX5_copy_59 rfl ?_
            refine g_iload_n C 2 dX5_copy_60 rfl ?_
            refine g_iload C 5 dX5_copy_61 rfl ?_
            obtain ⟨r_16, h_15, hf⟩ := b1_some hf
            refine g_cVN_i C Kf [.int x1, .int x2, .int x5] (mX3_spans hK0 X.1.2.1 σ 1 x1 x2 x5 (sh_1) r_16 h_15) mi_X3_spans (qO_X3 hK0 sh_1) rfl km_X5_102 ⟨rfl, rfl, by decide, by decide⟩ rfl rfl (Nat.le_of_ble_eq_true rfl) dX5_copy_63 ?_
            refine g_jn hf (fun j_17 ej_19 hf => ?_)
            have HJ_18 : j_17 = some (r, σ') → gG X σ 84 [(0, .ref (K.2.1 0))] [] := by
              intro hf
              rw [ej_19] at hf
              refine g_aload_n C 0 dX5_copy_84 rfl ?_
              refine g_iconst (v := 2) C dX5_copy_85 (by decide) ?_
              obtain ⟨r_21, σ_22, h_20, hf⟩ := b2_some hf
              refine g_cV_i C Kf [.int 2] (mX5_found hK0 X.1.2.1 σ 2 r_21 σ_22 h_20) mi_X5_found (qO_X5 hK0) rfl km_X5_74 ⟨rfl, rfl, by decide, by decide⟩ rfl rfl (Nat.le_of_ble_eq_true rfl) dX5_copy_86 ?_
              exact g_iretP C Kf hR dX5_copy_89 hf
            refine g_if_eq C 84 dX5_copy_66 (by decide) hf (fun hf => ?_) (fun hf => ?_)
            · refine g_cut [0] rfl ?_
              exact HJ_18 hf
            · refine g_aload_n C 0 dX5_copy_69 rfl ?_
              refine g_getR C Kf cl_X5 (qF_X5_0 hK0) (by decide) dX5_copy_70 kf_X5_14 ?_
              refine g_iload_n C 3 dX5_copy_73 rfl ?_
              refine g_iload C 4 dX5_copy_74 rfl ?_
              refine g_iload C 5 dX5_copy_76 rfl ?_
              obtain ⟨r_24, h_23, hf⟩ := b1_some hf
              refine g_cVN_i C Kf [.int x3, .int x4, .int x5] (mX3_spans hK0 X.1.2.1 σ 1 x3 x4 x5 (sh_1) r_24 h_23) mi_X3_spans (qO_X3 hK0 sh_1) rfl km_X5_102 ⟨rfl, rfl, by decide, by decide⟩ rfl rfl (Nat.le_of_ble_eq_true rfl) dX5_copy_78 ?_
              refine g_if_ne C 90 dX5_copy_81 (by decide) hf (fun hf => ?_) (fun hf => ?_)
              · refine g_iload_n C 2 dX5_copy_90 rfl ?_
                refine g_iload C 4 dX5_copy_91 rfl ?_
                refine g_icmp_ge C 141 dX5_copy_93 (by decide) hf (fun hf => ?_) (fun hf => ?_)
                · refine g_iconst (v := 0) C dX5_copy_141 (by decide) ?_
                  refine g_istore C [(6, .int 0), (0, .ref (K.2.1 0)), (1, .int x1), (2, .int x2), (3, .int x3), (4, .int x4), (5, .int x5)] dX5_copy_142 (by decide) rfl ?_
                  refine g_cut [1, 2, 3, 4, 5, 6, 0] rfl ?_
                  refine wL5_copy_144 hK0 σ x1 x2 x3 x4 x5 _ _ C Kf hR _ (fun σ_33 hf => ?_) _ _ _ hf
                  refine g_iconst (v := 1) C dX5_copy_182 (by decide) ?_
                  exact g_iretP C Kf hR dX5_copy_183 hf
                · refine g_iload C 5 dX5_copy_96 rfl ?_
                  refine g_iconst (v := 1) C dX5_copy_98 (by decide) ?_
                  refine g_isub C dX5_copy_99 ?_
                  refine g_istoreB C (fun x6_34 => [(6, .int x6_34), (0, .ref (K.2.1 0)), (1, .int x1), (2, .int x2), (3, .int x3), (4, .int x4), (5, .int x5)]) dX5_copy_100 (by decide) (fun _ => rfl) hf (fun x6_34 hf => ?_)
                  refine g_cut [1, 2, 3, 4, 5, 0] rfl ?_
                  refine wL5_copy_102 hK0 σ x1 x2 x3 x4 _ _ C Kf hR _ (fun σ_43 hf => ?_) _ _ _ hf
                  refine g_goto C 182 dX5_copy_138 (by decide) ?_
                  refine g_iconst (v := 1) C dX5_copy_182 (by decide) ?_
                  exact g_iretP C Kf hR dX5_copy_183 hf
              · refine g_cut [0] rfl ?_
                exact HJ_18 hf
          · refine g_cut [0] rfl ?_
            exact HJ_8 hf
      · refine g_aload_n C 0 dX5_copy_21 rfl ?_
        refine g_iconst (v := 5) C dX5_copy_22 (by decide) ?_
        obtain ⟨r_45, σ_46, h_44, hf⟩ := b2_some hf
        refine g_cV_i C Kf [.int 5] (mX5_found hK0 X.1.2.1 σ 5 r_45 σ_46 h_44) mi_X5_found (qO_X5 hK0) rfl km_X5_74 ⟨rfl, rfl, by decide, by decide⟩ rfl rfl (Nat.le_of_ble_eq_true rfl) dX5_copy_23 ?_
        exact g_iretP C Kf hR dX5_copy_26 hf
    · refine g_iconst (v := (-1)) C dX5_copy_14 (by decide) ?_
      exact g_iretP C Kf hR dX5_copy_15 hf
abbrev rmX5_counted : Room := { frames := 3, cells := 0, slots := 0, locals := 68 }
set_option maxHeartbeats 4000000 in
set_option maxRecDepth 100000 in
theorem mX5_counted {K : Kx} (hK0 : isKC K) (l : Launch) (σ : St) (x1 : Int32)  (r : Int32) (hf : f5_counted σ x1 = some r) : mC K l yX5_counted cX5_counted 2 (some .int) rmX5_counted [.ref (K.2.1 0), .int x1] σ (some (.int r)) σ := by
  refine g_entry (own := RX5) rfl (by decide +kernel) (Nat.le_of_ble_eq_true rfl) (fun X hX C Kf hR => ?_)
  subst hX
  unfold f5_counted at hf
  show gG X σ 0 [(0, .ref (K.2.1 0)), (1, .int x1)] []
  refine g_iload_n C 1 dX5_counted_0 rfl ?_
  by_cases hs_3 : x1 = 0
  · rw [if_pos hs_3] at hf
    refine g_tabIn C 52 hs_3 dX5_counted_1 (by decide) (by decide) rfl (by decide) ?_
    refine g_aload_n C 0 dX5_counted_52 rfl ?_
    refine g_getR C Kf cl_X5 (qF_X5_4 hK0) (by decide) dX5_counted_53 kf_X5_34 ?_
    refine g_getIN C Kf cl_X1 (qF_X1_7 hK0) (by decide) dX5_counted_56 kf_X5_123 ?_
    exact g_iretR C Kf hR dX5_counted_59 hf
  · rw [if_neg hs_3] at hf
    by_cases hs_4 : x1 = 1
    · rw [if_pos hs_4] at hf
      refine g_tabIn C 60 hs_4 dX5_counted_1 (by decide) (by decide) rfl (by decide) ?_
      refine g_aload_n C 0 dX5_counted_60 rfl ?_
      refine g_getR C Kf cl_X5 (qF_X5_4 hK0) (by decide) dX5_counted_61 kf_X5_34 ?_
      refine g_getIN C Kf cl_X1 (qF_X1_8 hK0) (by decide) dX5_counted_64 kf_X5_139 ?_
      exact g_iretR C Kf hR dX5_counted_67 hf
    · rw [if_neg hs_4] at hf
      by_cases hs_5 : x1 = 2
      · rw [if_pos hs_5] at hf
        refine g_tabIn C 68 hs_5 dX5_counted_1 (by decide) (by decide) rfl (by decide) ?_
        refine g_aload_n C 0 dX5_counted_68 rfl ?_
        refine g_getR C Kf cl_X5 (qF_X5_4 hK0) (by decide) dX5_counted_69 kf_X5_34 ?_
        refine g_getIN C Kf cl_X1 (qF_X1_9 hK0) (by decide) dX5_counted_72 kf_X5_169 ?_
        exact g_iretR C Kf hR dX5_counted_75 hf
      · rw [if_neg hs_5] at hf
        by_cases hs_6 : x1 = 3
        · rw [if_pos hs_6] at hf
          refine g_tabIn C 76 hs_6 dX5_counted_1 (by decide) (by decide) rfl (by decide) ?_
          refine g_aload_n C 0 dX5_counted_76 rfl ?_
          refine g_getR C Kf cl_X5 (qF_X5_4 hK0) (by decide) dX5_counted_77 kf_X5_34 ?_
          refine g_getIN C Kf cl_X1 (qF_X1_7 hK0) (by decide) dX5_counted_80 kf_X5_123 ?_
          refine g_if_ne C 91 dX5_counted_83 (by decide) hf (fun hf => ?_) (fun hf => ?_)
          · refine g_aload_n C 0 dX5_counted_91 rfl ?_
            refine g_getR C Kf cl_X5 (qF_X5_4 hK0) (by decide) dX5_counted_92 kf_X5_34 ?_
            refine g_getRN C Kf cl_X1 (qF_X1_3 hK0) (by decide) dX5_counted_95 kf_X5_263 ?_
            refine g_iconst (v := 0) C dX5_counted_98 (by decide) ?_
            refine g_ialdL C Kf 0 (by decide) (by unfold vp_in; decide) (qAC_17 hK0) dX5_counted_99 ?_
            exact g_iretR C Kf hR dX5_counted_100 hf
          · refine g_bipush (v := (-9)) C dX5_counted_86 (by decide) ?_
            refine g_goto C 100 dX5_counted_88 (by decide) ?_
            exact g_iretR C Kf hR dX5_counted_100 hf
        · rw [if_neg hs_6] at hf
          by_cases hs_7 : x1 = 4
          · rw [if_pos hs_7] at hf
            refine g_tabIn C 101 hs_7 dX5_counted_1 (by decide) (by decide) rfl (by decide) ?_
            refine g_aload_n C 0 dX5_counted_101 rfl ?_
            refine g_getR C Kf cl_X5 (qF_X5_4 hK0) (by decide) dX5_counted_102 kf_X5_34 ?_
            obtain ⟨r_13, h_12, hf⟩ := b1_some hf
            refine g_cVN_i C Kf [] (mX1_sumOfAll hK0 X.1.2.1 σ r_13 h_12) mi_X1_sumOfAll (qO_X1 hK0) rfl km_X5_277 ⟨rfl, rfl, by decide, by decide⟩ rfl rfl (Nat.le_of_ble_eq_true rfl) dX5_counted_105 ?_
            exact g_iretR C Kf hR dX5_counted_108 hf
          · rw [if_neg hs_7] at hf
            by_cases hs_8 : x1 = 5
            · rw [if_pos hs_8] at hf
              refine g_tabIn C 109 hs_8 dX5_counted_1 (by decide) (by decide) rfl (by decide) ?_
              refine g_aload_n C 0 dX5_counted_109 rfl ?_
              refine g_getR C Kf cl_X5 (qF_X5_4 hK0) (by decide) dX5_counted_110 kf_X5_34 ?_
              refine g_iconst (v := 2) C dX5_counted_113 (by decide) ?_
              obtain ⟨r_15, h_14, hf⟩ := b1_some hf
              refine g_cVN_i C Kf [.int 2] (mX1_manyOf hK0 X.1.2.1 σ 2 r_15 h_14) mi_X1_manyOf (qO_X1 hK0) rfl km_X5_281 ⟨rfl, rfl, by decide, by decide⟩ rfl rfl (Nat.le_of_ble_eq_true rfl) dX5_counted_114 ?_
              exact g_iretR C Kf hR dX5_counted_117 hf
            · rw [if_neg hs_8] at hf
              by_cases hs_9 : x1 = 6
              · rw [if_pos hs_9] at hf
                refine g_tabIn C 118 hs_9 dX5_counted_1 (by decide) (by decide) rfl (by decide) ?_
                refine g_aload_n C 0 dX5_counted_118 rfl ?_
                refine g_getR C Kf cl_X5 (qF_X5_4 hK0) (by decide) dX5_counted_119 kf_X5_34 ?_
                refine g_iconst (v := 3) C dX5_counted_122 (by decide) ?_
                obtain ⟨r_17, h_16, hf⟩ := b1_some hf
                refine g_cVN_i C Kf [.int 3] (mX1_manyOf hK0 X.1.2.1 σ 3 r_17 h_16) mi_X1_manyOf (qO_X1 hK0) rfl km_X5_281 ⟨rfl, rfl, by decide, by decide⟩ rfl rfl (Nat.le_of_ble_eq_true rfl) dX5_counted_123 ?_
                exact g_iretR C Kf hR dX5_counted_126 hf
              · rw [if_neg hs_9] at hf
                by_cases hs_10 : x1 = 7
                · rw [if_pos hs_10] at hf
                  refine g_tabIn C 127 hs_10 dX5_counted_1 (by decide) (by decide) rfl (by decide) ?_
                  refine g_aload_n C 0 dX5_counted_127 rfl ?_
                  refine g_getR C Kf cl_X5 (qF_X5_0 hK0) (by decide) dX5_counted_128 kf_X5_14 ?_
                  obtain ⟨r_19, h_18, hf⟩ := b1_some hf
                  refine g_cVN_i C Kf [] (mX3_held hK0 X.1.2.1 σ 1 (sh_1) r_19 h_18) mi_X3_held (qO_X3 hK0 sh_1) rfl km_X5_284 ⟨rfl, rfl, by decide, by decide⟩ rfl rfl (Nat.le_of_ble_eq_true rfl) dX5_counted_131 ?_
                  exact g_iretR C Kf hR dX5_counted_134 hf
                · rw [if_neg hs_10] at hf
                  by_cases hs_11 : x1 = 8
                  · rw [if_pos hs_11] at hf
                    refine g_tabIn C 135 hs_11 dX5_counted_1 (by decide) (by decide) rfl (by decide) ?_
                    refine g_aload_n C 0 dX5_counted_135 rfl ?_
                    refine g_getR C Kf cl_X5 (qF_X5_1 hK0) (by decide) dX5_counted_136 kf_X5_18 ?_
                    obtain ⟨r_21, h_20, hf⟩ := b1_some hf
                    refine g_cVN_i C Kf [] (mX3_held hK0 X.1.2.1 σ 4 (sh_4) r_21 h_20) mi_X3_held (qO_X3 hK0 sh_4) rfl km_X5_284 ⟨rfl, rfl, by decide, by decide⟩ rfl rfl (Nat.le_of_ble_eq_true rfl) dX5_counted_139 ?_
                    exact g_iretR C Kf hR dX5_counted_142 hf
                  · rw [if_neg hs_11] at hf
                    refine g_tabOut C 143 dX5_counted_1 (by have ehs_3 := sw_ne (n := 0) (by decide) hs_3; have ehs_4 := sw_ne (n := 1) (by decide) hs_4; have ehs_5 := sw_ne (n := 2) (by decide) hs_5; have ehs_6 := sw_ne (n := 3) (by decide) hs_6; have ehs_7 := sw_ne (n := 4) (by decide) hs_7; have ehs_8 := sw_ne (n := 5) (by decide) hs_8; have ehs_9 := sw_ne (n := 6) (by decide) hs_9; have ehs_10 := sw_ne (n := 7) (by decide) hs_10; have ehs_11 := sw_ne (n := 8) (by decide) hs_11; omega) (by decide) ?_
                    refine g_aload_n C 0 dX5_counted_143 rfl ?_
                    refine g_getR C Kf cl_X5 (qF_X5_2 hK0) (by decide) dX5_counted_144 kf_X5_21 ?_
                    obtain ⟨r_2, h_1, hf⟩ := b1_some hf
                    refine g_cVN_i C Kf [] (mX3_held hK0 X.1.2.1 σ 7 (sh_7) r_2 h_1) mi_X3_held (qO_X3 hK0 sh_7) rfl km_X5_284 ⟨rfl, rfl, by decide, by decide⟩ rfl rfl (Nat.le_of_ble_eq_true rfl) dX5_counted_147 ?_
                    exact g_iretR C Kf hR dX5_counted_150 hf
