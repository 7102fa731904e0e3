abbrev rmX5_lower : Room := { frames := 0, cells := 0, slots := 0, locals := 0 }
set_option maxHeartbeats 4000000 in
set_option maxRecDepth 100000 in
theorem mX5_lower {K : Kx} (hK0 : isKC K) (l : Launch) (σ : St)   (r : Int64) (hf : f5_lower σ = some r) : mC K l yX5_lower cX5_lower 1 (some .long) rmX5_lower [.ref (K.2.1 0)] σ (some (.long r)) σ := by
  refine g_entry (own := RX5) rfl (by decide +kernel) (Nat.le_of_ble_eq_true rfl) (fun X hX C Kf hR => ?_)
  subst hX
  unfold f5_lower at hf
  show gG X σ 0 [(0, .ref (K.2.1 0))] []
  refine g_aload_n C 0 dX5_lower_0 rfl ?_
  refine g_getL C Kf cl_X5 (qF_X5_11 hK0) (by decide) dX5_lower_1 kf_X5_67 ?_
  exact g_lretR C Kf hR dX5_lower_4 hf
abbrev rmX5_markedColumns : Room := { frames := 4, cells := 0, slots := 0, locals := 91 }
set_option maxHeartbeats 4000000 in
set_option maxRecDepth 100000 in
theorem wL5_markedColumns_5 {X : Gx St} {K : Kx} (hK0 : isKC K) (σ : St) (x1 : Int32) (x2 : Int32) (r : Int32) (C : gF X cX5_markedColumns RX5 (some .int) 8 rmX5_markedColumns) (Kf : kF X K) (hR : gR X K (some (.int r)) σ) (k : Int32 → Option (Int32)) (Hk : ∀ (x3_3 : Int32), k x3_3 = some r → gG X σ 114 [(3, .int x3_3)] []) : ∀ (n : Nat) (x3_1 : Int32) (x4_2 : Int32), L5_markedColumns_5 σ x1 x2 k n x3_1 x4_2 = some r → gG X σ 5 [(0, .ref (K.2.1 0)), (1, .int x1), (2, .int x2), (3, .int x3_1), (4, .int x4_2)] [] := by
  intro n
  induction n with
  | zero => intro _ _ hf; unfold L5_markedColumns_5 at hf; cases hf
  | succ n ih =>
  intro x3_1 x4_2 hf
  unfold L5_markedColumns_5 at hf
  refine g_iload C 4 dX5_markedColumns_5 rfl ?_
  refine g_iconst (v := 3) C dX5_markedColumns_7 (by decide) ?_
  refine g_icmp_ge C 114 dX5_markedColumns_8 (by decide) hf (fun hf => ?_) (fun hf => ?_)
  · refine g_cut [3] rfl ?_
    exact Hk _ hf
  · refine g_aload_n C 0 dX5_markedColumns_11 rfl ?_
    refine g_getR C Kf cl_X5 (qF_X5_4 hK0) (by decide) dX5_markedColumns_12 kf_X5_34 ?_
    refine g_iload_n C 1 dX5_markedColumns_15 rfl ?_
    refine g_iload C 4 dX5_markedColumns_16 rfl ?_
    refine g_aload_n C 0 dX5_markedColumns_18 rfl ?_
    refine g_getR C Kf cl_X5 (qF_X5_4 hK0) (by decide) dX5_markedColumns_19 kf_X5_34 ?_
    refine g_getIN C Kf cl_X1 (qF_X1_8 hK0) (by decide) dX5_markedColumns_22 kf_X5_139 ?_
    obtain ⟨r_5, h_4, hf⟩ := b1_some hf
    refine g_cVN_i C Kf [.int x1, .int x4_2, .int (σ.1 13 8)] (mX1_readsBehind hK0 X.1.2.1 σ x1 x4_2 (σ.1 13 8) r_5 h_4) mi_X1_readsBehind (qO_X1 hK0) rfl km_X5_178 ⟨rfl, rfl, by decide, by decide⟩ rfl rfl (Nat.le_of_ble_eq_true rfl) dX5_markedColumns_25 ?_
    refine g_istore C [(5, .int r_5), (0, .ref (K.2.1 0)), (1, .int x1), (2, .int x2), (3, .int x3_1), (4, .int x4_2)] dX5_markedColumns_28 (by decide) rfl ?_
    refine g_aload_n C 1 dX5_markedColumns_30 rfl ?_
    refine g_getR C Kf cl_X5 (qF_X5_4 hK0) (by decide) dX5_markedColumns_31 kf_X5_34 ?_
    refine g_iload_n C 2 dX5_markedColumns_34 rfl ?_
    refine g_iload C 5 dX5_markedColumns_35 rfl ?_
    obtain ⟨r_7, h_6, hf⟩ := b1_some hf
    refine g_cVN_i C Kf [.int x1, .int x4_2] (mX1_figureOf hK0 X.1.2.1 σ x1 x4_2 r_7 h_6) mi_X1_figureOf (qO_X1 hK0) rfl km_X5_166 ⟨rfl, rfl, by decide, by decide⟩ rfl rfl (Nat.le_of_ble_eq_true rfl) dX5_markedColumns_37 ?_
    refine g_istore C [(6, .int r_7), (5, .int r_5), (0, .ref (K.2.1 0)), (1, .int x1), (2, .int x2), (3, .int x3_1), (4, .int x4_2)] dX5_markedColumns_40 (by decide) rfl ?_
    refine g_iload_n C 4 dX5_markedColumns_42 rfl ?_
    refine g_iconst (v := 1) C dX5_markedColumns_43 (by decide) ?_
    refine g_jn hf (fun j_9 ej_11 hf => ?_)
    have HJ_10 : ∀ (x7_8 : Int32), j_9 x7_8 = some r → gG X σ 100 [(0, .ref (K.2.1 0)), (1, .int x1), (2, .int x2), (3, .int x3_1), (4, .int x4_2), (7, .int x7_8)] [] := by
      intro x7_8 hf
      rw [ej_11] at hf
      refine g_iload C 5 dX5_markedColumns_100 rfl ?_
      refine g_jn hf (fun j_13 ej_15 hf => ?_)
      have HJ_14 : ∀ (x3_12 : Int32), j_13 x3_12 = some r → gG X σ 108 [(0, .ref (K.2.1 0)), (1, .int x1), (2, .int x2), (3, .int x3_12), (4, .int x4_2)] [] := by
        intro x3_12 hf
        rw [ej_15] at hf
        refine g_iinc (d := 1) C 4 (fun x4_16 => [(4, .int x4_16), (0, .ref (K.2.1 0)), (1, .int x1), (2, .int x2), (3, .int x3_12)]) dX5_markedColumns_108 rfl (by decide) (by decide) (fun _ => rfl) hf (fun x4_16 hf => ?_)
        refine g_goto C 5 dX5_markedColumns_111 (by decide) ?_
        refine g_cut [1, 2, 3, 4, 0] rfl ?_
        exact ih _ _ hf
      refine g_if_eq C 108 dX5_markedColumns_102 (by decide) hf (fun hf => ?_) (fun hf => ?_)
      · refine g_cut [0, 1, 2, 3, 4] rfl ?_
        exact HJ_14 _ hf
      · refine g_iinc (d := 1) C 3 (fun x3_17 => [(3, .int x3_17), (0, .ref (K.2.1 0)), (1, .int x1), (2, .int x2), (4, .int x4_2), (7, .int x7_8)]) dX5_markedColumns_105 rfl (by decide) (by decide) (fun _ => rfl) hf (fun x3_17 hf => ?_)
        refine g_cut [1, 2, 3, 0, 4] rfl ?_
        exact HJ_14 _ hf
    refine g_icmp_ne C 64 dX5_markedColumns_44 (by decide) hf (fun hf => ?_) (fun hf => ?_)
    · refine g_iload_n C 4 dX5_markedColumns_64 rfl ?_
      refine g_iconst (v := 3) C dX5_markedColumns_65 (by decide) ?_
      refine g_icmp_ne C 86 dX5_markedColumns_66 (by decide) hf (fun hf => ?_) (fun hf => ?_)
      · refine g_iload C 1 dX5_markedColumns_86 rfl ?_
        refine g_bipush (v := 10) C dX5_markedColumns_88 (by decide) ?_
        refine g_jn hf (fun j_19 ej_21 hf => ?_)
        have HJ_20 : ∀ (y_18 : Int32), j_19 y_18 = some r → gG X σ 98 [(0, .ref (K.2.1 0)), (1, .int x1), (2, .int x2), (3, .int x3_1), (4, .int x4_2)] [.int y_18] := by
          intro y_18 hf
          rw [ej_21] at hf
          refine g_istore C [(7, .int y_18), (0, .ref (K.2.1 0)), (1, .int x1), (2, .int x2), (3, .int x3_1), (4, .int x4_2)] dX5_markedColumns_98 (by decide) rfl ?_
          refine g_cut [1, 2, 3, 4, 5, 0] rfl ?_
          exact HJ_10 _ hf
        refine g_icmp_ne C 97 dX5_markedColumns_90 (by decide) hf (fun hf => ?_) (fun hf => ?_)
        · refine g_iconst (v := 0) C dX5_markedColumns_97 (by decide) ?_
          refine g_cut [2, 3, 4, 5, 6] rfl ?_
          exact HJ_20 _ hf
        · refine g_iconst (v := 1) C dX5_markedColumns_93 (by decide) ?_
          refine g_goto C 98 dX5_markedColumns_94 (by decide) ?_
          refine g_cut [2, 3, 4, 5, 6] rfl ?_
          exact HJ_20 _ hf
      · refine g_iload C 1 dX5_markedColumns_69 rfl ?_
        refine g_iload C 0 dX5_markedColumns_71 rfl ?_
        refine g_jn hf (fun j_23 ej_25 hf => ?_)
        have HJ_24 : ∀ (y_22 : Int32), j_23 y_22 = some r → gG X σ 81 [(0, .ref (K.2.1 0)), (1, .int x1), (2, .int x2), (3, .int x3_1), (4, .int x4_2)] [.int y_22] := by
          intro y_22 hf
          rw [ej_25] at hf
          refine g_istore C [(7, .int y_22), (0, .ref (K.2.1 0)), (1, .int x1), (2, .int x2), (3, .int x3_1), (4, .int x4_2)] dX5_markedColumns_81 (by decide) rfl ?_
          refine g_goto C 100 dX5_markedColumns_83 (by decide) ?_
          refine g_cut [1, 2, 3, 4, 5, 0] rfl ?_
          exact HJ_10 _ hf
        refine g_icmp_le C 80 dX5_markedColumns_73 (by decide) hf (fun hf => ?_) (fun hf => ?_)
        · refine g_iconst (v := 0) C dX5_markedColumns_80 (by decide) ?_
          refine g_cut [2, 3, 4, 5, 6] rfl ?_
          exact HJ_24 _ hf
        · refine g_iconst (v := 1) C dX5_markedColumns_76 (by decide) ?_
          refine g_goto C 81 dX5_markedColumns_77 (by decide) ?_
          refine g_cut [2, 3, 4, 5, 6] rfl ?_
          exact HJ_24 _ hf
    · refine g_iload C 1 dX5_markedColumns_47 rfl ?_
      refine g_iload C 0 dX5_markedColumns_49 rfl ?_
      refine g_jn hf (fun j_27 ej_29 hf => ?_)
      have HJ_28 : ∀ (y_26 : Int32), j_27 y_26 = some r → gG X σ 59 [(0, .ref (K.2.1 0)), (1, .int x1), (2, .int x2), (3, .int x3_1), (4, .int x4_2)] [.int y_26] := by
        intro y_26 hf
        rw [ej_29] at hf
        refine g_istore C [(7, .int y_26), (0, .ref (K.2.1 0)), (1, .int x1), (2, .int x2), (3, .int x3_1), (4, .int x4_2)] dX5_markedColumns_59 (by decide) rfl ?_
        refine g_goto C 100 dX5_markedColumns_61 (by decide) ?_
        refine g_cut [1, 2, 3, 4, 5, 0] rfl ?_
        exact HJ_10 _ hf
      refine g_icmp_eq C 58 dX5_markedColumns_51 (by decide) hf (fun hf => ?_) (fun hf => ?_)
      · refine g_iconst (v := 0) C dX5_markedColumns_58 (by decide) ?_
        refine g_cut [2, 3, 4, 5, 6] rfl ?_
        exact HJ_28 _ hf
      · refine g_iconst (v := 1) C dX5_markedColumns_54 (by decide) ?_
        refine g_goto C 59 dX5_markedColumns_55 (by decide) ?_
        refine g_cut [2, 3, 4, 5, 6] rfl ?_
        exact HJ_28 _ hf
set_option maxHeartbeats 4000000 in
set_option maxRecDepth 100000 in
theorem mX5_markedColumns {K : Kx} (hK0 : isKC K) (l : Launch) (σ : St) (x1 : Int32) (x2 : Int32)  (r : Int32) (hf : f5_markedColumns σ x1 x2 = some r) : mC K l yX5_markedColumns cX5_markedColumns 8 (some .int) rmX5_markedColumns [.ref (K.2.1 0), .int x1, .int x2] σ (some (.int r)) σ := by
  refine g_entry (own := RX5) rfl (by decide +kernel) (Nat.le_of_ble_eq_true rfl) (fun X hX C Kf hR => ?_)
  subst hX
  unfold f5_markedColumns at hf
  show gG X σ 0 [(0, .ref (K.2.1 0)), (1, .int x1), (2, .int x2)] []
  refine g_iconst (v := 0) C dX5_markedColumns_0 (by decide) ?_
  refine g_istore_n C [(3, .int 0), (0, .ref (K.2.1 0)), (1, .int x1), (2, .int x2)] dX5_markedColumns_1 rfl (by decide) rfl ?_
  refine g_iconst (v := 0) C dX5_markedColumns_2 (by decide) ?_
  refine g_istore C [(4, .int 0), (3, .int 0), (0, .ref (K.2.1 0)), (1, .int x1), (2, .int x2)] dX5_markedColumns_3 (by decide) rfl ?_
  refine g_cut [2, 3, 4, 1, 0] rfl ?_
  refine wL5_markedColumns_5 hK0 σ x1 x2 _ C Kf hR _ (fun x3_30 hf => ?_) _ _ _ hf
  refine g_iload_n C 0 dX5_markedColumns_114 rfl ?_
  exact g_iretR C Kf hR dX5_markedColumns_115 hf
abbrev rmX5_mark : Room := { frames := 5, cells := 0, slots := 0, locals := 118 }
set_option maxHeartbeats 4000000 in
set_option maxRecDepth 100000 in
theorem mX5_mark {K : Kx} (hK0 : isKC K) (l : Launch) (σ : St) (x1 : Int32) (x2 : Int32)  (r : Int32) (σ' : St) (hf : f5_mark σ x1 x2 = some (r, σ')) : mC K l yX5_mark cX5_mark 3 (some .int) rmX5_mark [.ref (K.2.1 0), .int x1, .int x2] σ (some (.int r)) σ' := by
  refine g_entry (own := RX5) rfl (by decide +kernel) (Nat.le_of_ble_eq_true rfl) (fun X hX C Kf hR => ?_)
  subst hX
  unfold f5_mark at hf
  show gG X σ 0 [(0, .ref (K.2.1 0)), (1, .int x1), (2, .int x2)] []
  refine g_aload_n C 0 dX5_mark_0 rfl ?_
  refine g_iload_n C 1 dX5_mark_1 rfl ?_
  obtain ⟨r_2, h_1, hf⟩ := b1_some hf
  refine g_cV_i C Kf [.int x1] (mX5_isCard hK0 X.1.2.1 σ x1 r_2 h_1) mi_X5_isCard (qO_X5 hK0) rfl km_X5_126 ⟨rfl, rfl, by decide, by decide⟩ rfl rfl (Nat.le_of_ble_eq_true rfl) dX5_mark_2 ?_
  refine g_if_eq C 18 dX5_mark_5 (by decide) hf (fun hf => ?_) (fun hf => ?_)
  · refine g_iconst (v := (-1)) C dX5_mark_18 (by decide) ?_
    exact g_iretP C Kf hR dX5_mark_19 hf
  · refine g_iload_n C 2 dX5_mark_8 rfl ?_
    refine g_if_le C 18 dX5_mark_9 (by decide) hf (fun hf => ?_) (fun hf => ?_)
    · refine g_iconst (v := (-1)) C dX5_mark_18 (by decide) ?_
      exact g_iretP C Kf hR dX5_mark_19 hf
    · refine g_iload_n C 2 dX5_mark_12 rfl ?_
      refine g_bipush (v := 6) C dX5_mark_13 (by decide) ?_
      refine g_icmp_lt C 20 dX5_mark_15 (by decide) hf (fun hf => ?_) (fun hf => ?_)
      · refine g_aload_n C 0 dX5_mark_20 rfl ?_
        refine g_getR C Kf cl_X5 (qF_X5_4 hK0) (by decide) dX5_mark_21 kf_X5_34 ?_
        refine g_getRN C Kf cl_X1 (qF_X1_0 hK0) (by decide) dX5_mark_24 kf_X5_132 ?_
        refine g_iload_n C 1 dX5_mark_27 rfl ?_
        refine g_iald C Kf (qAC_14 hK0) dX5_mark_28 hf (fun hf => ?_)
        refine g_iload_n C 2 dX5_mark_29 rfl ?_
        obtain ⟨r_4, h_3, hf⟩ := b1_some hf
        refine g_cS_i C Kf [.int (σ.1 14 x1.toNatClampNeg), .int x2] (mX5_isOf hK0 X.1.2.1 σ (σ.1 14 x1.toNatClampNeg) x2 r_4 h_3) mi_X5_isOf km_X5_135 ⟨rfl, rfl, by decide, by decide⟩ rfl rfl (Nat.le_of_ble_eq_true rfl) dX5_mark_30 ?_
        refine g_if_ne C 42 dX5_mark_33 (by decide) hf (fun hf => ?_) (fun hf => ?_)
        · refine g_iload_n C 2 dX5_mark_42 rfl ?_
          by_cases hs_7 : x2 = 2
          · rw [if_pos hs_7] at hf
            refine g_lookV (off := 25) C 68 hs_7 dX5_mark_43 (by decide) (by decide +kernel) (by decide) ?_
            refine g_bipush (v := 9) C dX5_mark_68 (by decide) ?_
            refine g_aload_n C 0 dX5_mark_70 rfl ?_
            refine g_getR C Kf cl_X5 (qF_X5_4 hK0) (by decide) dX5_mark_71 kf_X5_34 ?_
            refine g_getIN C Kf cl_X1 (qF_X1_8 hK0) (by decide) dX5_mark_74 kf_X5_139 ?_
            refine g_iconst (v := 4) C dX5_mark_77 (by decide) ?_
            refine g_idiv0 C dX5_mark_78 (by decide) ?_
            refine g_min C dX5_mark_79 km_X5_142 kmath_min ⟨Nat.le_of_ble_eq_true rfl, Nat.le_of_ble_eq_true rfl⟩ ?_
            exact g_iretP C Kf hR dX5_mark_82 hf
          · rw [if_neg hs_7] at hf
            by_cases hs_8 : x2 = 5
            · rw [if_pos hs_8] at hf
              refine g_lookV (off := 40) C 83 hs_8 dX5_mark_43 (by decide) (by decide +kernel) (by decide) ?_
              refine g_aload_n C 0 dX5_mark_83 rfl ?_
              refine g_getR C Kf cl_X5 (qF_X5_4 hK0) (by decide) dX5_mark_84 kf_X5_34 ?_
              refine g_iload_n C 1 dX5_mark_87 rfl ?_
              obtain ⟨r_10, h_9, hf⟩ := b1_some hf
              refine g_cVN_i C Kf [.int x1] (mX1_placeOf hK0 X.1.2.1 σ x1 r_10 h_9) mi_X1_placeOf (qO_X1 hK0) rfl km_X5_147 ⟨rfl, rfl, by decide, by decide⟩ rfl rfl (Nat.le_of_ble_eq_true rfl) dX5_mark_88 ?_
              exact g_iretP C Kf hR dX5_mark_91 hf
            · rw [if_neg hs_8] at hf
              refine g_look (off := 49) C 92 dX5_mark_43 (by decide) (by have ehs_7 := (sw_ne (n := 2) (by decide) hs_7).symm; have ehs_8 := (sw_ne (n := 5) (by decide) hs_8).symm; simp [Op.lookupswitch.offset, ehs_7, ehs_8]) (by decide) ?_
              refine g_aload_n C 0 dX5_mark_92 rfl ?_
              refine g_iload_n C 1 dX5_mark_93 rfl ?_
              refine g_iload_n C 2 dX5_mark_94 rfl ?_
              obtain ⟨r_6, h_5, hf⟩ := b1_some hf
              refine g_cV_i C Kf [.int x1, .int x2] (mX5_markedColumns hK0 X.1.2.1 σ x1 x2 r_6 h_5) mi_X5_markedColumns (qO_X5 hK0) rfl km_X5_150 ⟨rfl, rfl, by decide, by decide⟩ rfl rfl (Nat.le_of_ble_eq_true rfl) dX5_mark_95 ?_
              exact g_iretP C Kf hR dX5_mark_98 hf
        · refine g_aload_n C 0 dX5_mark_36 rfl ?_
          refine g_iconst (v := 3) C dX5_mark_37 (by decide) ?_
          obtain ⟨r_12, σ_13, h_11, hf⟩ := b2_some hf
          refine g_cV_i C Kf [.int 3] (mX5_found hK0 X.1.2.1 σ 3 r_12 σ_13 h_11) mi_X5_found (qO_X5 hK0) rfl km_X5_74 ⟨rfl, rfl, by decide, by decide⟩ rfl rfl (Nat.le_of_ble_eq_true rfl) dX5_mark_38 ?_
          exact g_iretP C Kf hR dX5_mark_41 hf
      · refine g_iconst (v := (-1)) C dX5_mark_18 (by decide) ?_
        exact g_iretP C Kf hR dX5_mark_19 hf
abbrev rmX5_mean : Room := { frames := 3, cells := 0, slots := 0, locals := 66 }
set_option maxHeartbeats 4000000 in
set_option maxRecDepth 100000 in
theorem wL5_mean_37 {X : Gx St} {K : Kx} (hK0 : isKC K) (σ : St) (x1 : Int32) (x3 : Int32) (r : Int32) (σ' : St) (C : gF X cX5_mean RX5 (some .int) 7 rmX5_mean) (Kf : kF X K) (hR : gR X K (some (.int r)) σ') (k : Int64 → Option (Int32 × St)) (Hk : ∀ (x4_8 : Int64), k x4_8 = some (r, σ') → gG X σ 65 [(0, .ref (K.2.1 0)), (3, .int x3), (4, .long x4_8)] []) : ∀ (n : Nat) (x4_6 : Int64) (x6_7 : Int32), L5_mean_37 σ x1 x3 k n x4_6 x6_7 = some (r, σ') → gG X σ 37 [(0, .ref (K.2.1 0)), (1, .int x1), (3, .int x3), (4, .long x4_6), (6, .int x6_7)] [] := by
  intro n
  induction n with
  | zero => intro _ _ hf; unfold L5_mean_37 at hf; cases hf
  | succ n ih =>
  intro x4_6 x6_7 hf
  unfold L5_mean_37 at hf
  refine g_iload C 4 dX5_mean_37 rfl ?_
  refine g_iload_n C 2 dX5_mean_39 rfl ?_
  refine g_icmp_ge C 65 dX5_mean_40 (by decide) hf (fun hf => ?_) (fun hf => ?_)
  · refine g_cut [0, 2, 3] rfl ?_
    exact Hk _ hf
  · refine g_lload C 3 dX5_mean_43 rfl ?_
    refine g_aload_n C 0 dX5_mean_45 rfl ?_
    refine g_getR C Kf cl_X5 (qF_X5_0 hK0) (by decide) dX5_mean_46 kf_X5_14 ?_
    refine g_iload_n C 1 dX5_mean_49 rfl ?_
    refine g_iload C 4 dX5_mean_50 rfl ?_
    obtain ⟨r_10, h_9, hf⟩ := b1_some hf
    refine g_cVN_i C Kf [.int x1, .int x6_7] (mX3_get hK0 X.1.2.1 σ 1 x1 x6_7 (sh_1) r_10 h_9) mi_X3_get (qO_X3 hK0 sh_1) rfl km_X5_86 ⟨rfl, rfl, by decide, by decide⟩ rfl rfl (Nat.le_of_ble_eq_true rfl) dX5_mean_52 ?_
    refine g_i2l C dX5_mean_55 ?_
    refine g_ladd C dX5_mean_56 ?_
    refine g_lstoreB C (fun x4_11 => [(4, .long x4_11), (0, .ref (K.2.1 0)), (1, .int x1), (3, .int x3), (6, .int x6_7)]) dX5_mean_57 (by decide) (fun _ => rfl) hf (fun x4_11 hf => ?_)
    refine g_iinc (d := 1) C 4 (fun x6_12 => [(6, .int x6_12), (4, .long x4_11), (0, .ref (K.2.1 0)), (1, .int x1), (3, .int x3)]) dX5_mean_59 rfl (by decide) (by decide) (fun _ => rfl) hf (fun x6_12 hf => ?_)
    refine g_goto C 37 dX5_mean_62 (by decide) ?_
    refine g_cut [2, 3, 4, 1, 0] rfl ?_
    exact ih _ _ hf
set_option maxHeartbeats 4000000 in
set_option maxRecDepth 100000 in
theorem mX5_mean {K : Kx} (hK0 : isKC K) (l : Launch) (σ : St) (x1 : Int32)  (r : Int32) (σ' : St) (hf : f5_mean σ x1 = some (r, σ')) : mC K l yX5_mean cX5_mean 7 (some .int) rmX5_mean [.ref (K.2.1 0), .int x1] σ (some (.int r)) σ' := by
  refine g_entry (own := RX5) rfl (by decide +kernel) (Nat.le_of_ble_eq_true rfl) (fun X hX C Kf hR => ?_)
  subst hX
  unfold f5_mean at hf
  show gG X σ 0 [(0, .ref (K.2.1 0)), (1, .int x1)] []
  refine g_aload_n C 0 dX5_mean_0 rfl ?_
  refine g_iload_n C 1 dX5_mean_1 rfl ?_
  obtain ⟨r_2, σ_3, h_1, hf⟩ := b2_some hf
  refine g_cV_i C Kf [.int x1] (mX5_refusedRow hK0 X.1.2.1 σ x1 r_2 σ_3 h_1) mi_X5_refusedRow (qO_X5 hK0) rfl km_X5_92 ⟨rfl, rfl, by decide, by decide⟩ rfl rfl (Nat.le_of_ble_eq_true rfl) dX5_mean_2 ?_
  refine g_istore_n C [(2, .int r_2), (0, .ref (K.2.1 0)), (1, .int x1)] dX5_mean_5 rfl (by decide) rfl ?_
  refine g_iload_n C 0 dX5_mean_6 rfl ?_
  refine g_if_eq C 12 dX5_mean_7 (by decide) hf (fun hf => ?_) (fun hf => ?_)
  · refine g_aload_n C 1 dX5_mean_12 rfl ?_
    refine g_getR C Kf cl_X5 (qF_X5_0 hK0) (by decide) dX5_mean_13 kf_X5_14 ?_
    refine g_iload_n C 2 dX5_mean_16 rfl ?_
    obtain ⟨r_5, h_4, hf⟩ := b1_some hf
    refine g_cVN_i C Kf [.int x1] (mX3_sizeOf hK0 X.1.2.1 σ_3 1 x1 (sh_1) r_5 h_4) mi_X3_sizeOf (qO_X3 hK0 sh_1) rfl km_X5_106 ⟨rfl, rfl, by decide, by decide⟩ rfl rfl (Nat.le_of_ble_eq_true rfl) dX5_mean_17 ?_
    refine g_istore_n C [(3, .int r_5), (2, .int r_2), (0, .ref (K.2.1 0)), (1, .int x1)] dX5_mean_20 rfl (by decide) rfl ?_
    refine g_iload_n C 0 dX5_mean_21 rfl ?_
    refine g_if_gt C 31 dX5_mean_22 (by decide) hf (fun hf => ?_) (fun hf => ?_)
    · refine g_lconst (v := 0) C dX5_mean_31 (by decide) ?_
      refine g_lstore C [(4, .long 0), (3, .int r_5), (2, .int r_2), (0, .ref (K.2.1 0)), (1, .int x1)] dX5_mean_32 (by decide) rfl ?_
      refine g_iconst (v := 0) C dX5_mean_34 (by decide) ?_
      refine g_istore C [(6, .int 0), (4, .long 0), (3, .int r_5), (2, .int r_2), (0, .ref (K.2.1 0)), (1, .int x1)] dX5_mean_35 (by decide) rfl ?_
      refine g_cut [4, 5, 2, 1, 0] rfl ?_
      refine wL5_mean_37 hK0 σ_3 x1 r_5 _ _ C Kf hR _ (fun x4_13 hf => ?_) _ _ _ hf
      refine g_aload_n C 0 dX5_mean_65 rfl ?_
      refine g_lload C 2 dX5_mean_66 rfl ?_
      refine g_iload_n C 1 dX5_mean_68 rfl ?_
      refine g_i2l C dX5_mean_69 ?_
      refine g_ldiv C dX5_mean_70 hf (fun hf => ?_)
      refine g_l2i C dX5_mean_71 ?_
      refine g_putI C Kf cl_X5 (qF_X5_9 hK0) (by decide) rfl rfl rfl dX5_mean_72 kf_X5_60 hf (fun σ_14 hf => ?_)
      refine g_iconst (v := 1) C dX5_mean_75 (by decide) ?_
      exact g_iretP C Kf hR dX5_mean_76 hf
    · refine g_aload_n C 2 dX5_mean_25 rfl ?_
      refine g_iconst (v := 4) C dX5_mean_26 (by decide) ?_
      obtain ⟨r_16, σ_17, h_15, hf⟩ := b2_some hf
      refine g_cV_i C Kf [.int 4] (mX5_found hK0 X.1.2.1 σ_3 4 r_16 σ_17 h_15) mi_X5_found (qO_X5 hK0) rfl km_X5_74 ⟨rfl, rfl, by decide, by decide⟩ rfl rfl (Nat.le_of_ble_eq_true rfl) dX5_mean_27 ?_
      exact g_iretP C Kf hR dX5_mean_30 hf
  · refine g_iload_n C 0 dX5_mean_10 rfl ?_
    exact g_iretP C Kf hR dX5_mean_11 hf
abbrev rmX5_weightOf : Room := { frames := 0, cells := 0, slots := 0, locals := 0 }
set_option maxHeartbeats 4000000 in
set_option maxRecDepth 100000 in
theorem wL5_weightOf_5 {X : Gx St} {K : Kx} (hK0 : isKC K) (σ : St) (x1 : Int32) (x2 : Int32) (r : Int64) (C : gF X cX5_weightOf RX5 (some .long) 6 rmX5_weightOf) (Kf : kF X K) (hR : gR X K (some (.long r)) σ) (k : Int64 → Option (Int64)) (Hk : ∀ (x3_3 : Int64), k x3_3 = some r → gG X σ 45 [(3, .long x3_3)] []) : ∀ (n : Nat) (x3_1 : Int64) (x5_2 : Int32), L5_weightOf_5 σ x1 x2 k n x3_1 x5_2 = some r → gG X σ 5 [(0, .ref (K.2.1 0)), (1, .int x1), (2, .int x2), (3, .long x3_1), (5, .int x5_2)] [] := by
  intro n
  induction n with
  | zero => intro _ _ hf; unfold L5_weightOf_5 at hf; cases hf
  | succ n ih =>
  intro x3_1 x5_2 hf
  unfold L5_weightOf_5 at hf
  refine g_iload C 4 dX5_weightOf_5 rfl ?_
  refine g_aload_n C 0 dX5_weightOf_7 rfl ?_
  refine g_getR C Kf cl_X5 (qF_X5_4 hK0) (by decide) dX5_weightOf_8 kf_X5_34 ?_
  refine g_getIN C Kf cl_X1 (qF_X1_7 hK0) (by decide) dX5_weightOf_11 kf_X5_123 ?_
  refine g_icmp_ge C 45 dX5_weightOf_14 (by decide) hf (fun hf => ?_) (fun hf => ?_)
  · refine g_cut [3] rfl ?_
    exact Hk _ hf
  · refine g_lload_n C 3 dX5_weightOf_17 rfl ?_
    refine g_iload_n C 1 dX5_weightOf_18 rfl ?_
    refine g_iload C 4 dX5_weightOf_19 rfl ?_
    refine g_ishr C dX5_weightOf_21 ?_
    refine g_iconst (v := 1) C dX5_weightOf_22 (by decide) ?_
    refine g_iand C dX5_weightOf_23 ?_
    refine g_jn hf (fun j_5 ej_7 hf => ?_)
    have HJ_6 : ∀ (y_4 : Int64), j_5 y_4 = some r → gG X σ 37 [(0, .ref (K.2.1 0)), (1, .int x1), (2, .int x2), (5, .int x5_2)] [.long y_4, .long x3_1] := by
      intro y_4 hf
      rw [ej_7] at hf
      refine g_lmul C dX5_weightOf_37 ?_
      refine g_lstore_nB C (fun x3_8 => [(3, .long x3_8), (0, .ref (K.2.1 0)), (1, .int x1), (2, .int x2), (5, .int x5_2)]) dX5_weightOf_38 rfl (by decide) (fun _ => rfl) hf (fun x3_8 hf => ?_)
      refine g_iinc (d := 1) C 4 (fun x5_9 => [(5, .int x5_9), (3, .long x3_8), (0, .ref (K.2.1 0)), (1, .int x1), (2, .int x2)]) dX5_weightOf_39 rfl (by decide) (by decide) (fun _ => rfl) hf (fun x5_9 hf => ?_)
      refine g_goto C 5 dX5_weightOf_42 (by decide) ?_
      refine g_cut [2, 3, 4, 1, 0] rfl ?_
      exact ih _ _ hf
    refine g_if_eq C 32 dX5_weightOf_24 (by decide) hf (fun hf => ?_) (fun hf => ?_)
    · refine g_bipush (v := 12) C dX5_weightOf_32 (by decide) ?_
      refine g_iload_n C 2 dX5_weightOf_34 rfl ?_
      refine g_isub C dX5_weightOf_35 ?_
      refine g_i2l C dX5_weightOf_36 ?_
      refine g_cut [0, 1, 2, 4] rfl ?_
      exact HJ_6 _ hf
    · refine g_iload_n C 2 dX5_weightOf_27 rfl ?_
      refine g_i2l C dX5_weightOf_28 ?_
      refine g_goto C 37 dX5_weightOf_29 (by decide) ?_
      refine g_cut [0, 1, 2, 4] rfl ?_
      exact HJ_6 _ hf
set_option maxHeartbeats 4000000 in
set_option maxRecDepth 100000 in
theorem mX5_weightOf {K : Kx} (hK0 : isKC K) (l : Launch) (σ : St) (x1 : Int32) (x2 : Int32)  (r : Int64) (hf : f5_weightOf σ x1 x2 = some r) : mC K l yX5_weightOf cX5_weightOf 6 (some .long) rmX5_weightOf [.ref (K.2.1 0), .int x1, .int x2] σ (some (.long r)) σ := by
  refine g_entry (own := RX5) rfl (by decide +kernel) (Nat.le_of_ble_eq_true rfl) (fun X hX C Kf hR => ?_)
  subst hX
  unfold f5_weightOf at hf
  show gG X σ 0 [(0, .ref (K.2.1 0)), (1, .int x1), (2, .int x2)] []
  refine g_lconst (v := 1) C dX5_weightOf_0 (by decide) ?_
  refine g_lstore_n C [(3, .long 1), (0, .ref (K.2.1 0)), (1, .int x1), (2, .int x2)] dX5_weightOf_1 rfl (by decide) rfl ?_
  refine g_iconst (v := 0) C dX5_weightOf_2 (by decide) ?_
  refine g_istore C [(5, .int 0), (3, .long 1), (0, .ref (K.2.1 0)), (1, .int x1), (2, .int x2)] dX5_weightOf_3 (by decide) rfl ?_
  refine g_cut [2, 3, 4, 1, 0] rfl ?_
  refine wL5_weightOf_5 hK0 σ x1 x2 _ C Kf hR _ (fun x3_10 hf => ?_) _ _ _ hf
  refine g_lload_n C 0 dX5_weightOf_45 rfl ?_
  exact g_lretR C Kf hR dX5_weightOf_46 hf
abbrev rmX5_tellParts : Room := { frames := 1, cells := 0, slots := 0, locals := 26 }
set_option maxHeartbeats 4000000 in
set_option maxRecDepth 100000 in
theorem mX5_tellParts {K : Kx} (hK0 : isKC K) (l : Launch) (σ : St) (x1 : Int64) (x3 : Int64)  (σ' : St) (hf : f5_tellParts σ x1 x3 = some σ') : mC K l yX5_tellParts cX5_tellParts 7 none rmX5_tellParts [.ref (K.2.1 0), .long x1, .long x3] σ none σ' := by
  refine g_entry (own := RX5) rfl (by decide +kernel) (Nat.le_of_ble_eq_true rfl) (fun X hX C Kf hR => ?_)
  subst hX
  unfold f5_tellParts at hf
  show gG X σ 0 [(0, .ref (K.2.1 0)), (1, .long x1), (3, .long x3)] []
  refine g_lload_n C 1 dX5_tellParts_0 rfl ?_
  refine g_lload_n C 2 dX5_tellParts_1 rfl ?_
  obtain ⟨r_2, h_1, hf⟩ := b1_some hf
  refine g_cS_l C Kf [.long x1, .long x3] (mX5_commonDivisor hK0 X.1.2.1 σ x1 x3 r_2 h_1) mi_X5_commonDivisor km_X5_296 ⟨rfl, rfl, by decide, by decide⟩ rfl rfl (Nat.le_of_ble_eq_true rfl) dX5_tellParts_2 ?_
  refine g_lstore C [(5, .long r_2), (0, .ref (K.2.1 0)), (1, .long x1), (3, .long x3)] dX5_tellParts_5 (by decide) rfl ?_
  refine g_lload C 0 dX5_tellParts_7 rfl ?_
  refine g_lconst (v := 0) C dX5_tellParts_9 (by decide) ?_
  refine g_lcmp_le C 30 dX5_tellParts_10 dX5_tellParts_11 (by decide) hf (fun hf => ?_) (fun hf => ?_)
  · exact g_vretP C Kf hR dX5_tellParts_30 hf
  · refine g_aload_n C 1 dX5_tellParts_14 rfl ?_
    refine g_lload_n C 2 dX5_tellParts_15 rfl ?_
    refine g_lload C 0 dX5_tellParts_16 rfl ?_
    refine g_ldiv C dX5_tellParts_18 hf (fun hf => ?_)
    refine g_putL C Kf cl_X5 (qF_X5_10 hK0) (by decide) rfl rfl rfl dX5_tellParts_19 kf_X5_63 hf (fun σ_3 hf => ?_)
    refine g_aload_n C 1 dX5_tellParts_22 rfl ?_
    refine g_lload_n C 3 dX5_tellParts_23 rfl ?_
    refine g_lload C 0 dX5_tellParts_24 rfl ?_
    refine g_ldiv C dX5_tellParts_26 hf (fun hf => ?_)
    refine g_putL C Kf cl_X5 (qF_X5_11 hK0) (by decide) rfl rfl rfl dX5_tellParts_27 kf_X5_67 hf (fun σ_4 hf => ?_)
    exact g_vretP C Kf hR dX5_tellParts_30 hf
abbrev rmX5_mid : Room := { frames := 5, cells := 0, slots := 0, locals := 122 }
set_option maxHeartbeats 4000000 in
set_option maxRecDepth 100000 in
theorem wL5_mid_18 {X : Gx St} {K : Kx} (hK0 : isKC K) (σ : St) (x1 : Int32) (x2 : Int32) (x3 : Int32) (r : Int32) (σ' : St) (C : gF X cX5_mid RX5 (some .int) 8 rmX5_mid) (Kf : kF X K) (hR : gR X K (some (.int r)) σ') (k : Int64 → St → Option (Int32 × St)) (Hk : ∀ (x4_6 : Int64) (σ_16 : St), k x4_6 σ_16 = some (r, σ') → gG X σ_16 81 [(0, .ref (K.2.1 0)), (4, .long x4_6)] []) : ∀ (n : Nat) (x4_3 : Int64) (x6_4 : Int32) (σ_5 : St), L5_mid_18 x1 x2 x3 k n x4_3 x6_4 σ_5 = some (r, σ') → gG X σ_5 18 [(0, .ref (K.2.1 0)), (1, .int x1), (2, .int x2), (3, .int x3), (4, .long x4_3), (6, .int x6_4)] [] := by
  intro n
  induction n with
  | zero => intro _ _ _ hf; unfold L5_mid_18 at hf; cases hf
  | succ n ih =>
  intro x4_3 x6_4 σ_5 hf
  unfold L5_mid_18 at hf
  refine g_iload C 5 dX5_mid_18 rfl ?_
  refine g_iconst (v := 1) C dX5_mid_20 (by decide) ?_
  refine g_aload_n C 0 dX5_mid_21 rfl ?_
  refine g_getR C Kf cl_X5 (qF_X5_4 hK0) (by decide) dX5_mid_22 kf_X5_34 ?_
  refine g_getIN C Kf cl_X1 (qF_X1_7 hK0) (by decide) dX5_mid_25 kf_X5_123 ?_
  refine g_ishl C dX5_mid_28 ?_
  refine g_icmp_ge C 81 dX5_mid_29 (by decide) hf (fun hf => ?_) (fun hf => ?_)
  · refine g_cut [0, 4] rfl ?_
    exact Hk _ _ hf
  · refine g_aload_n C 0 dX5_mid_32 rfl ?_
    refine g_getR C Kf cl_X5 (qF_X5_5 hK0) (by decide) dX5_mid_33 kf_X5_41 ?_
    refine g_aload_n C 0 dX5_mid_36 rfl ?_
    refine g_getR C Kf cl_X5 (qF_X5_4 hK0) (by decide) dX5_mid_37 kf_X5_34 ?_
    refine g_iload_n C 2 dX5_mid_40 rfl ?_
    refine g_iload C 5 dX5_mid_41 rfl ?_
    obtain ⟨r_8, σ_9, h_7, hf⟩ := b2_some hf
    have hq_h_7 := cell_X4_passOnce h_7; subst hq_h_7
    refine g_cVN_r C Kf [.ref (K.2.1 13), .int x2, .int x6_4] (mX4_passOnce hK0 X.1.2.1 σ_5 x2 x6_4 24 σ_9 h_7) mi_X4_passOnce (qO_X4 hK0) rfl km_X5_205 ⟨rfl, rfl, by decide, by decide⟩ rfl rfl (Nat.le_of_ble_eq_true rfl) dX5_mid_43 ?_
    refine g_iload_n C 1 dX5_mid_46 rfl ?_
    refine g_aload_n C 0 dX5_mid_47 rfl ?_
    refine g_getR C Kf cl_X5 (qF_X5_4 hK0) (by decide) dX5_mid_48 kf_X5_34 ?_
    refine g_getIN C Kf cl_X1 (qF_X1_7 hK0) (by decide) dX5_mid_51 kf_X5_123 ?_
    obtain ⟨r_11, h_10, hf⟩ := b1_some hf
    refine g_cS_i C Kf [.ref (K.2.1 24), .int x1, .int (σ_9.1 13 7)] (mX5_placeIn hK0 X.1.2.1 σ_9 24 x1 (σ_9.1 13 7) (by decide) r_11 h_10) mi_X5_placeIn km_X5_252 ⟨rfl, rfl, by decide, by decide⟩ rfl rfl (Nat.le_of_ble_eq_true rfl) dX5_mid_54 ?_
    refine g_istore C [(7, .int r_11), (0, .ref (K.2.1 0)), (1, .int x1), (2, .int x2), (3, .int x3), (4, .long x4_3), (6, .int x6_4)] dX5_mid_57 (by decide) rfl ?_
    refine g_lload C 5 dX5_mid_59 rfl ?_
    refine g_iload C 0 dX5_mid_61 rfl ?_
    refine g_i2l C dX5_mid_63 ?_
    refine g_aload_n C 1 dX5_mid_64 rfl ?_
    refine g_iload C 6 dX5_mid_65 rfl ?_
    refine g_iload_n C 4 dX5_mid_67 rfl ?_
    obtain ⟨r_13, h_12, hf⟩ := b1_some hf
    refine g_cV_l C Kf [.int x6_4, .int x3] (mX5_weightOf hK0 X.1.2.1 σ_9 x6_4 x3 r_13 h_12) mi_X5_weightOf (qO_X5 hK0) rfl km_X5_244 ⟨rfl, rfl, by decide, by decide⟩ rfl rfl (Nat.le_of_ble_eq_true rfl) dX5_mid_68 ?_
    refine g_lmul C dX5_mid_71 ?_
    refine g_ladd C dX5_mid_72 ?_
    refine g_lstoreB C (fun x4_14 => [(4, .long x4_14), (7, .int r_11), (0, .ref (K.2.1 0)), (1, .int x1), (2, .int x2), (3, .int x3), (6, .int x6_4)]) dX5_mid_73 (by decide) (fun _ => rfl) hf (fun x4_14 hf => ?_)
    refine g_iinc (d := 1) C 6 (fun x6_15 => [(6, .int x6_15), (4, .long x4_14), (7, .int r_11), (0, .ref (K.2.1 0)), (1, .int x1), (2, .int x2), (3, .int x3)]) dX5_mid_75 rfl (by decide) (by decide) (fun _ => rfl) hf (fun x6_15 hf => ?_)
    refine g_goto C 18 dX5_mid_78 (by decide) ?_
    refine g_cut [3, 4, 5, 6, 1, 0] rfl ?_
    exact ih _ _ _ hf
set_option maxHeartbeats 4000000 in
set_option maxRecDepth 100000 in
theorem mX5_mid {K : Kx} (hK0 : isKC K) (l : Launch) (σ : St) (x1 : Int32) (x2 : Int32) (x3 : Int32)  (r : Int32) (σ' : St) (hf : f5_mid σ x1 x2 x3 = some (r, σ')) : mC K l yX5_mid cX5_mid 8 (some .int) rmX5_mid [.ref (K.2.1 0), .int x1, .int x2, .int x3] σ (some (.int r)) σ' := by
  refine g_entry (own := RX5) rfl (by decide +kernel) (Nat.le_of_ble_eq_true rfl) (fun X hX C Kf hR => ?_)
  subst hX
  unfold f5_mid at hf
  show gG X σ 0 [(0, .ref (K.2.1 0)), (1, .int x1), (2, .int x2), (3, .int x3)] []
  refine g_aload_n C 0 dX5_mid_0 rfl ?_
  refine g_iload_n C 1 dX5_mid_1 rfl ?_
  refine g_iload_n C 2 dX5_mid_2 rfl ?_
  refine g_iload_n C 3 dX5_mid_3 rfl ?_
  obtain ⟨r_2, h_1, hf⟩ := b1_some hf
  refine g_cV_i C Kf [.int x1, .int x2, .int x3] (mX5_isChance hK0 X.1.2.1 σ x1 x2 x3 r_2 h_1) mi_X5_isChance (qO_X5 hK0) rfl km_X5_241 ⟨rfl, rfl, by decide, by decide⟩ rfl rfl (Nat.le_of_ble_eq_true rfl) dX5_mid_4 ?_
  refine g_if_ne C 12 dX5_mid_7 (by decide) hf (fun hf => ?_) (fun hf => ?_)
  · refine g_lconst (v := 0) C dX5_mid_12 (by decide) ?_
    refine g_lstore C [(4, .long 0), (0, .ref (K.2.1 0)), (1, .int x1), (2, .int x2), (3, .int x3)] dX5_mid_13 (by decide) rfl ?_
    refine g_iconst (v := 0) C dX5_mid_15 (by decide) ?_
    refine g_istore C [(6, .int 0), (4, .long 0), (0, .ref (K.2.1 0)), (1, .int x1), (2, .int x2), (3, .int x3)] dX5_mid_16 (by decide) rfl ?_
    refine g_cut [2, 3, 4, 5, 1, 0] rfl ?_
    refine wL5_mid_18 hK0 σ x1 x2 x3 _ _ C Kf hR _ (fun x4_17 σ_18 hf => ?_) _ _ _ _ hf
    refine g_aload_n C 0 dX5_mid_81 rfl ?_
    refine g_lload C 1 dX5_mid_82 rfl ?_
    refine g_aload_n C 0 dX5_mid_84 rfl ?_
    obtain ⟨r_20, h_19, hf⟩ := b1_some hf
    refine g_cV_l C Kf [] (mX5_allWeights hK0 X.1.2.1 σ_18 r_20 h_19) mi_X5_allWeights (qO_X5 hK0) rfl km_X5_248 ⟨rfl, rfl, by decide, by decide⟩ rfl rfl (Nat.le_of_ble_eq_true rfl) dX5_mid_85 ?_
    obtain ⟨σ_22, h_21, hf⟩ := b1_some hf
    refine g_cV_v C Kf [.long x4_17, .long r_20] (mX5_tellParts hK0 X.1.2.1 σ_18 x4_17 r_20 σ_22 h_21) mi_X5_tellParts (qO_X5 hK0) rfl km_X5_234 ⟨rfl, rfl, by decide, by decide⟩ rfl rfl (Nat.le_of_ble_eq_true rfl) dX5_mid_88 ?_
    refine g_iconst (v := 1) C dX5_mid_91 (by decide) ?_
    exact g_iretP C Kf hR dX5_mid_92 hf
  · refine g_iconst (v := (-1)) C dX5_mid_10 (by decide) ?_
    exact g_iretP C Kf hR dX5_mid_11 hf
abbrev rmX5_next : Room := { frames := 5, cells := 0, slots := 0, locals := 119 }
set_option maxHeartbeats 4000000 in
set_option maxRecDepth 100000 in
theorem wL5_next_64 {X : Gx St} {K : Kx} (hK0 : isKC K) (σ : St) (x1 : Int32) (x4 : Int32) (r : Int32) (σ' : St) (C : gF X cX5_next RX5 (some .int) 9 rmX5_next) (Kf : kF X K) (hR : gR X K (some (.int r)) σ') (k : Int32 → Int32 → St → Option (Int32 × St)) (Hk : ∀ (x5_14 : Int32) (x6_15 : Int32) (σ_25 : St), k x5_14 x6_15 σ_25 = some (r, σ') → gG X σ_25 109 [(0, .ref (K.2.1 0)), (5, .int x5_14), (6, .int x6_15)] []) : ∀ (n : Nat) (x5_10 : Int32) (x6_11 : Int32) (x7_12 : Int32) (σ_13 : St), L5_next_64 x1 x4 k n x5_10 x6_11 x7_12 σ_13 = some (r, σ') → gG X σ_13 64 [(0, .ref (K.2.1 0)), (1, .int x1), (4, .int x4), (5, .int x5_10), (6, .int x6_11), (7, .int x7_12)] [] := by
  intro n
  induction n with
  | zero => intro _ _ _ _ hf; unfold L5_next_64 at hf; cases hf
  | succ n ih =>
  intro x5_10 x6_11 x7_12 σ_13 hf
  unfold L5_next_64 at hf
  refine g_iload C 5 dX5_next_64 rfl ?_
  refine g_iconst (v := 3) C dX5_next_66 (by decide) ?_
  refine g_icmp_ge C 109 dX5_next_67 (by decide) hf (fun hf => ?_) (fun hf => ?_)
  · refine g_cut [0, 3, 4] rfl ?_
    exact Hk _ _ _ hf
  · refine g_aload_n C 0 dX5_next_70 rfl ?_
    refine g_getR C Kf cl_X5 (qF_X5_6 hK0) (by decide) dX5_next_71 kf_X5_48 ?_
    refine g_aload_n C 0 dX5_next_74 rfl ?_
    refine g_getR C Kf cl_X5 (qF_X5_4 hK0) (by decide) dX5_next_75 kf_X5_34 ?_
    refine g_iload_n C 1 dX5_next_78 rfl ?_
    refine g_iload C 5 dX5_next_79 rfl ?_
    refine g_iload C 2 dX5_next_81 rfl ?_
    obtain ⟨r_17, σ_18, h_16, hf⟩ := b2_some hf
    refine g_cVN_i C Kf [.ref (K.2.1 13), .int x1, .int x7_12, .int x4] (mX0_greatestPart hK0 X.1.2.1 σ_13 x1 x7_12 x4 r_17 σ_18 h_16) mi_X0_greatestPart (qO_X0 hK0) rfl km_X5_224 ⟨rfl, rfl, by decide, by decide⟩ rfl rfl (Nat.le_of_ble_eq_true rfl) dX5_next_83 ?_
    refine g_istore C [(8, .int r_17), (0, .ref (K.2.1 0)), (1, .int x1), (4, .int x4), (5, .int x5_10), (6, .int x6_11), (7, .int x7_12)] dX5_next_86 (by decide) rfl ?_
    refine g_iload C 0 dX5_next_88 rfl ?_
    refine g_iload C 5 dX5_next_90 rfl ?_
    refine g_jn hf (fun j_21 ej_23 hf => ?_)
    have HJ_22 : ∀ (x5_19 : Int32) (x6_20 : Int32), j_21 x5_19 x6_20 = some (r, σ') → gG X σ_18 103 [(0, .ref (K.2.1 0)), (1, .int x1), (4, .int x4), (5, .int x5_19), (6, .int x6_20), (7, .int x7_12)] [] := by
      intro x5_19 x6_20 hf
      rw [ej_23] at hf
      refine g_iinc (d := 1) C 5 (fun x7_24 => [(7, .int x7_24), (0, .ref (K.2.1 0)), (1, .int x1), (4, .int x4), (5, .int x5_19), (6, .int x6_20)]) dX5_next_103 rfl (by decide) (by decide) (fun _ => rfl) hf (fun x7_24 hf => ?_)
      refine g_goto C 64 dX5_next_106 (by decide) ?_
      refine g_cut [1, 2, 3, 4, 5, 0] rfl ?_
      exact ih _ _ _ _ hf
    refine g_icmp_ge C 103 dX5_next_92 (by decide) hf (fun hf => ?_) (fun hf => ?_)
    · refine g_cut [1, 2, 3, 4, 5, 6] rfl ?_
      exact HJ_22 _ _ hf
    · refine g_iload C 0 dX5_next_95 rfl ?_
      refine g_istore C [(6, .int r_17), (8, .int r_17), (0, .ref (K.2.1 0)), (1, .int x1), (4, .int x4), (5, .int x5_10), (7, .int x7_12)] dX5_next_97 (by decide) rfl ?_
      refine g_iload C 6 dX5_next_99 rfl ?_
      refine g_istore C [(5, .int x7_12), (6, .int r_17), (8, .int r_17), (0, .ref (K.2.1 0)), (1, .int x1), (4, .int x4), (7, .int x7_12)] dX5_next_101 (by decide) rfl ?_
      refine g_cut [3, 4, 5, 0, 1, 6] rfl ?_
      exact HJ_22 _ _ hf
set_option maxHeartbeats 4000000 in
set_option maxRecDepth 100000 in
theorem mX5_next {K : Kx} (hK0 : isKC K) (l : Launch) (σ : St) (x1 : Int32) (x2 : Int32)  (r : Int32) (σ' : St) (hf : f5_next σ x1 x2 = some (r, σ')) : mC K l yX5_next cX5_next 9 (some .int) rmX5_next [.ref (K.2.1 0), .int x1, .int x2] σ (some (.int r)) σ' := by
  refine g_entry (own := RX5) rfl (by decide +kernel) (Nat.le_of_ble_eq_true rfl) (fun X hX C Kf hR => ?_)
  subst hX
  unfold f5_next at hf
  show gG X σ 0 [(0, .ref (K.2.1 0)), (1, .int x1), (2, .int x2)] []
  refine g_aload_n C 0 dX5_next_0 rfl ?_
  refine g_iload_n C 1 dX5_next_1 rfl ?_
  refine g_iconst (v := 0) C dX5_next_2 (by decide) ?_
  refine g_iload_n C 2 dX5_next_3 rfl ?_
  obtain ⟨r_2, σ_3, h_1, hf⟩ := b2_some hf
  refine g_cV_i C Kf [.int x1, .int 0, .int x2] (mX5_refusedClues hK0 X.1.2.1 σ x1 0 x2 r_2 σ_3 h_1) mi_X5_refusedClues (qO_X5 hK0) rfl km_X5_213 ⟨rfl, rfl, by decide, by decide⟩ rfl rfl (Nat.le_of_ble_eq_true rfl) dX5_next_4 ?_
  refine g_istore_n C [(3, .int r_2), (0, .ref (K.2.1 0)), (1, .int x1), (2, .int x2)] dX5_next_7 rfl (by decide) rfl ?_
  refine g_iload_n C 0 dX5_next_8 rfl ?_
  refine g_if_eq C 14 dX5_next_9 (by decide) hf (fun hf => ?_) (fun hf => ?_)
  · refine g_aload_n C 1 dX5_next_14 rfl ?_
    refine g_getR C Kf cl_X5 (qF_X5_6 hK0) (by decide) dX5_next_15 kf_X5_48 ?_
    refine g_aload_n C 1 dX5_next_18 rfl ?_
    refine g_getR C Kf cl_X5 (qF_X5_4 hK0) (by decide) dX5_next_19 kf_X5_34 ?_
    refine g_iload_n C 2 dX5_next_22 rfl ?_
    refine g_aload_n C 1 dX5_next_23 rfl ?_
    refine g_getR C Kf cl_X5 (qF_X5_0 hK0) (by decide) dX5_next_24 kf_X5_14 ?_
    refine g_iload_n C 3 dX5_next_27 rfl ?_
    obtain ⟨r_5, σ_6, h_4, hf⟩ := b2_some hf
    refine g_cVN_i C Kf [.ref (K.2.1 13), .int x1, .ref (K.2.1 1), .int x2] (mX0_kindsOf hK0 X.1.2.1 σ_3 x1 x2 r_5 σ_6 h_4) mi_X0_kindsOf (qO_X0 hK0) rfl km_X5_216 ⟨rfl, rfl, by decide, by decide⟩ rfl rfl (Nat.le_of_ble_eq_true rfl) dX5_next_28 ?_
    refine g_istore C [(4, .int r_5), (3, .int r_2), (0, .ref (K.2.1 0)), (1, .int x1), (2, .int x2)] dX5_next_31 (by decide) rfl ?_
    refine g_iload C 0 dX5_next_33 rfl ?_
    refine g_if_ne C 41 dX5_next_35 (by decide) hf (fun hf => ?_) (fun hf => ?_)
    · refine g_iconst (v := 0) C dX5_next_41 (by decide) ?_
      refine g_istore C [(5, .int 0), (4, .int r_5), (3, .int r_2), (0, .ref (K.2.1 0)), (1, .int x1), (2, .int x2)] dX5_next_42 (by decide) rfl ?_
      refine g_aload_n C 3 dX5_next_44 rfl ?_
      refine g_getR C Kf cl_X5 (qF_X5_6 hK0) (by decide) dX5_next_45 kf_X5_48 ?_
      refine g_aload_n C 3 dX5_next_48 rfl ?_
      refine g_getR C Kf cl_X5 (qF_X5_4 hK0) (by decide) dX5_next_49 kf_X5_34 ?_
      refine g_iload_n C 4 dX5_next_52 rfl ?_
      refine g_iconst (v := 0) C dX5_next_53 (by decide) ?_
      refine g_iload C 1 dX5_next_54 rfl ?_
      obtain ⟨r_8, σ_9, h_7, hf⟩ := b2_some hf
      refine g_cVN_i C Kf [.ref (K.2.1 13), .int x1, .int 0, .int r_5] (mX0_greatestPart hK0 X.1.2.1 σ_6 x1 0 r_5 r_8 σ_9 h_7) mi_X0_greatestPart (qO_X0 hK0) rfl km_X5_224 ⟨rfl, rfl, by decide, by decide⟩ rfl rfl (Nat.le_of_ble_eq_true rfl) dX5_next_56 ?_
      refine g_istore C [(6, .int r_8), (5, .int 0), (4, .int r_5), (3, .int r_2), (0, .ref (K.2.1 0)), (1, .int x1), (2, .int x2)] dX5_next_59 (by decide) rfl ?_
      refine g_iconst (v := 1) C dX5_next_61 (by decide) ?_
      refine g_istore C [(7, .int 1), (6, .int r_8), (5, .int 0), (4, .int r_5), (3, .int r_2), (0, .ref (K.2.1 0)), (1, .int x1), (2, .int x2)] dX5_next_62 (by decide) rfl ?_
      refine g_cut [5, 6, 3, 2, 1, 0] rfl ?_
      refine wL5_next_64 hK0 σ_9 x1 r_5 _ _ C Kf hR _ (fun x5_26 x6_27 σ_28 hf => ?_) _ _ _ _ _ hf
      refine g_aload_n C 0 dX5_next_109 rfl ?_
      refine g_iload C 2 dX5_next_110 rfl ?_
      refine g_putI C Kf cl_X5 (qF_X5_9 hK0) (by decide) rfl rfl rfl dX5_next_112 kf_X5_60 hf (fun σ_29 hf => ?_)
      refine g_iload C 1 dX5_next_115 rfl ?_
      exact g_iretP C Kf hR dX5_next_117 hf
    · refine g_bipush (v := (-9)) C dX5_next_38 (by decide) ?_
      exact g_iretP C Kf hR dX5_next_40 hf
  · refine g_iload_n C 0 dX5_next_12 rfl ?_
    exact g_iretP C Kf hR dX5_next_13 hf
abbrev rmX5_odds : Room := { frames := 5, cells := 0, slots := 0, locals := 122 }
set_option maxHeartbeats 4000000 in
set_option maxRecDepth 100000 in
theorem wL5_odds_18 {X : Gx St} {K : Kx} (hK0 : isKC K) (σ : St) (x1 : Int32) (x2 : Int32) (x3 : Int32) (r : Int32) (σ' : St) (C : gF X cX5_odds RX5 (some .int) 7 rmX5_odds) (Kf : kF X K) (hR : gR X K (some (.int r)) σ') (k : Int64 → St → Option (Int32 × St)) (Hk : ∀ (x4_6 : Int64) (σ_18 : St), k x4_6 σ_18 = some (r, σ') → gG X σ_18 70 [(0, .ref (K.2.1 0)), (4, .long x4_6)] []) : ∀ (n : Nat) (x4_3 : Int64) (x6_4 : Int32) (σ_5 : St), L5_odds_18 x1 x2 x3 k n x4_3 x6_4 σ_5 = some (r, σ') → gG X σ_5 18 [(0, .ref (K.2.1 0)), (1, .int x1), (2, .int x2), (3, .int x3), (4, .long x4_3), (6, .int x6_4)] [] := by
  intro n
  induction n with
  | zero => intro _ _ _ hf; unfold L5_odds_18 at hf; cases hf
  | succ n ih =>
  intro x4_3 x6_4 σ_5 hf
  unfold L5_odds_18 at hf
  refine g_iload C 5 dX5_odds_18 rfl ?_
  refine g_iconst (v := 1) C dX5_odds_20 (by decide) ?_
  refine g_aload_n C 0 dX5_odds_21 rfl ?_
  refine g_getR C Kf cl_X5 (qF_X5_4 hK0) (by decide) dX5_odds_22 kf_X5_34 ?_
  refine g_getIN C Kf cl_X1 (qF_X1_7 hK0) (by decide) dX5_odds_25 kf_X5_123 ?_
  refine g_ishl C dX5_odds_28 ?_
  refine g_icmp_ge C 70 dX5_odds_29 (by decide) hf (fun hf => ?_) (fun hf => ?_)
  · refine g_cut [0, 4] rfl ?_
    exact Hk _ _ hf
  · refine g_aload_n C 0 dX5_odds_32 rfl ?_
    refine g_getR C Kf cl_X5 (qF_X5_5 hK0) (by decide) dX5_odds_33 kf_X5_41 ?_
    refine g_aload_n C 0 dX5_odds_36 rfl ?_
    refine g_getR C Kf cl_X5 (qF_X5_4 hK0) (by decide) dX5_odds_37 kf_X5_34 ?_
    refine g_iload_n C 2 dX5_odds_40 rfl ?_
    refine g_iload C 5 dX5_odds_41 rfl ?_
    obtain ⟨r_8, σ_9, h_7, hf⟩ := b2_some hf
    have hq_h_7 := cell_X4_passOnce h_7; subst hq_h_7
    refine g_cVN_r C Kf [.ref (K.2.1 13), .int x2, .int x6_4] (mX4_passOnce hK0 X.1.2.1 σ_5 x2 x6_4 24 σ_9 h_7) mi_X4_passOnce (qO_X4 hK0) rfl km_X5_205 ⟨rfl, rfl, by decide, by decide⟩ rfl rfl (Nat.le_of_ble_eq_true rfl) dX5_odds_43 ?_
    refine g_iconst (v := 0) C dX5_odds_46 (by decide) ?_
    refine g_ialdL C Kf 0 (by decide) (by unfold vp_in; decide) (qAC_24 hK0) dX5_odds_47 ?_
    refine g_iload_n C 1 dX5_odds_48 rfl ?_
    refine g_jn hf (fun j_11 ej_13 hf => ?_)
    have HJ_12 : ∀ (x4_10 : Int64), j_11 x4_10 = some (r, σ') → gG X σ_9 64 [(0, .ref (K.2.1 0)), (1, .int x1), (2, .int x2), (3, .int x3), (4, .long x4_10), (6, .int x6_4)] [] := by
      intro x4_10 hf
      rw [ej_13] at hf
      refine g_iinc (d := 1) C 5 (fun x6_14 => [(6, .int x6_14), (0, .ref (K.2.1 0)), (1, .int x1), (2, .int x2), (3, .int x3), (4, .long x4_10)]) dX5_odds_64 rfl (by decide) (by decide) (fun _ => rfl) hf (fun x6_14 hf => ?_)
      refine g_goto C 18 dX5_odds_67 (by decide) ?_
      refine g_cut [1, 2, 3, 4, 5, 0] rfl ?_
      exact ih _ _ _ hf
    refine g_icmp_ne C 64 dX5_odds_49 (by decide) hf (fun hf => ?_) (fun hf => ?_)
    · exact HJ_12 _ hf
    · refine g_lload C 4 dX5_odds_52 rfl ?_
      refine g_aload_n C 0 dX5_odds_54 rfl ?_
      refine g_iload C 5 dX5_odds_55 rfl ?_
      refine g_iload_n C 3 dX5_odds_57 rfl ?_
      obtain ⟨r_16, h_15, hf⟩ := b1_some hf
      refine g_cV_l C Kf [.int x6_4, .int x3] (mX5_weightOf hK0 X.1.2.1 σ_9 x6_4 x3 r_16 h_15) mi_X5_weightOf (qO_X5 hK0) rfl km_X5_244 ⟨rfl, rfl, by decide, by decide⟩ rfl rfl (Nat.le_of_ble_eq_true rfl) dX5_odds_58 ?_
      refine g_ladd C dX5_odds_61 ?_
      refine g_lstoreB C (fun x4_17 => [(4, .long x4_17), (0, .ref (K.2.1 0)), (1, .int x1), (2, .int x2), (3, .int x3), (6, .int x6_4)]) dX5_odds_62 (by decide) (fun _ => rfl) hf (fun x4_17 hf => ?_)
      refine g_cut [1, 2, 3, 4, 0, 5] rfl ?_
      exact HJ_12 _ hf
set_option maxHeartbeats 4000000 in
set_option maxRecDepth 100000 in
theorem mX5_odds {K : Kx} (hK0 : isKC K) (l : Launch) (σ : St) (x1 : Int32) (x2 : Int32) (x3 : Int32)  (r : Int32) (σ' : St) (hf : f5_odds σ x1 x2 x3 = some (r, σ')) : mC K l yX5_odds cX5_odds 7 (some .int) rmX5_odds [.ref (K.2.1 0), .int x1, .int x2, .int x3] σ (some (.int r)) σ' := by
  refine g_entry (own := RX5) rfl (by decide +kernel) (Nat.le_of_ble_eq_true rfl) (fun X hX C Kf hR => ?_)
  subst hX
  unfold f5_odds at hf
  show gG X σ 0 [(0, .ref (K.2.1 0)), (1, .int x1), (2, .int x2), (3, .int x3)] []
  refine g_aload_n C 0 dX5_odds_0 rfl ?_
  refine g_iload_n C 1 dX5_odds_1 rfl ?_
  refine g_iload_n C 2 dX5_odds_2 rfl ?_
  refine g_iload_n C 3 dX5_odds_3 rfl ?_
  obtain ⟨r_2, h_1, hf⟩ := b1_some hf
  refine g_cV_i C Kf [.int x1, .int x2, .int x3] (mX5_isChance hK0 X.1.2.1 σ x1 x2 x3 r_2 h_1) mi_X5_isChance (qO_X5 hK0) rfl km_X5_241 ⟨rfl, rfl, by decide, by decide⟩ rfl rfl (Nat.le_of_ble_eq_true rfl) dX5_odds_4 ?_
  refine g_if_ne C 12 dX5_odds_7 (by decide) hf (fun hf => ?_) (fun hf => ?_)
  · refine g_lconst (v := 0) C dX5_odds_12 (by decide) ?_
    refine g_lstore C [(4, .long 0), (0, .ref (K.2.1 0)), (1, .int x1), (2, .int x2), (3, .int x3)] dX5_odds_13 (by decide) rfl ?_
    refine g_iconst (v := 0) C dX5_odds_15 (by decide) ?_
    refine g_istore C [(6, .int 0), (4, .long 0), (0, .ref (K.2.1 0)), (1, .int x1), (2, .int x2), (3, .int x3)] dX5_odds_16 (by decide) rfl ?_
    refine g_cut [2, 3, 4, 5, 1, 0] rfl ?_
    refine wL5_odds_18 hK0 σ x1 x2 x3 _ _ C Kf hR _ (fun x4_19 σ_20 hf => ?_) _ _ _ _ hf
    refine g_aload_n C 0 dX5_odds_70 rfl ?_
    refine g_lload C 1 dX5_odds_71 rfl ?_
    refine g_aload_n C 0 dX5_odds_73 rfl ?_
    obtain ⟨r_22, h_21, hf⟩ := b1_some hf
    refine g_cV_l C Kf [] (mX5_allWeights hK0 X.1.2.1 σ_20 r_22 h_21) mi_X5_allWeights (qO_X5 hK0) rfl km_X5_248 ⟨rfl, rfl, by decide, by decide⟩ rfl rfl (Nat.le_of_ble_eq_true rfl) dX5_odds_74 ?_
    obtain ⟨σ_24, h_23, hf⟩ := b1_some hf
    refine g_cV_v C Kf [.long x4_19, .long r_22] (mX5_tellParts hK0 X.1.2.1 σ_20 x4_19 r_22 σ_24 h_23) mi_X5_tellParts (qO_X5 hK0) rfl km_X5_234 ⟨rfl, rfl, by decide, by decide⟩ rfl rfl (Nat.le_of_ble_eq_true rfl) dX5_odds_77 ?_
    refine g_iconst (v := 1) C dX5_odds_80 (by decide) ?_
    exact g_iretP C Kf hR dX5_odds_81 hf
  · refine g_iconst (v := (-1)) C dX5_odds_10 (by decide) ?_
    exact g_iretP C Kf hR dX5_odds_11 hf
abbrev rmX5_on : Room := { frames := 6, cells := 0, slots := 0, locals := 143 }
set_option maxHeartbeats 4000000 in
set_option maxRecDepth 100000 in
theorem wL5_on_39 {X : Gx St} {K : Kx} (hK0 : isKC K) (σ : St) (x1 : Int32) (x2 : Int32) (r : Int32) (σ' : St) (C : gF X cX5_on RX5 (some .int) 4 rmX5_on) (Kf : kF X K) (hR : gR X K (some (.int r)) σ') (k : St → Option (Int32 × St)) (Hk : ∀ (σ_11 : St), k σ_11 = some (r, σ') → gG X σ_11 68 [(0, .ref (K.2.1 0)), (2, .int x2)] []) : ∀ (n : Nat) (x3_5 : Int32) (σ_6 : St), L5_on_39 x1 x2 k n x3_5 σ_6 = some (r, σ') → gG X σ_6 39 [(0, .ref (K.2.1 0)), (1, .int x1), (2, .int x2), (3, .int x3_5)] [] := by
  intro n
  induction n with
  | zero => intro _ _ hf; unfold L5_on_39 at hf; cases hf
  | succ n ih =>
  intro x3_5 σ_6 hf
  unfold L5_on_39 at hf
  refine g_iload_n C 3 dX5_on_39 rfl ?_
  refine g_iload_n C 2 dX5_on_40 rfl ?_
  refine g_icmp_ge C 68 dX5_on_41 (by decide) hf (fun hf => ?_) (fun hf => ?_)
  · refine g_cut [0, 2] rfl ?_
    exact Hk _ hf
  · refine g_aload_n C 0 dX5_on_44 rfl ?_
    refine g_getR C Kf cl_X5 (qF_X5_4 hK0) (by decide) dX5_on_45 kf_X5_34 ?_
    refine g_getRN C Kf cl_X1 (qF_X1_6 hK0) (by decide) dX5_on_48 kf_X5_175 ?_
    refine g_iload_n C 3 dX5_on_51 rfl ?_
    refine g_aload_n C 0 dX5_on_52 rfl ?_
    refine g_getR C Kf cl_X5 (qF_X5_2 hK0) (by decide) dX5_on_53 kf_X5_21 ?_
    refine g_iload_n C 1 dX5_on_56 rfl ?_
    refine g_iload_n C 3 dX5_on_57 rfl ?_
    obtain ⟨r_8, h_7, hf⟩ := b1_some hf
    refine g_cVN_i C Kf [.int x1, .int x3_5] (mX3_get hK0 X.1.2.1 σ_6 7 x1 x3_5 (sh_7) r_8 h_7) mi_X3_get (qO_X3 hK0 sh_7) rfl km_X5_86 ⟨rfl, rfl, by decide, by decide⟩ rfl rfl (Nat.le_of_ble_eq_true rfl) dX5_on_58 ?_
    refine g_iast C Kf (qAC_20 hK0) dX5_on_61 hf (fun σ_9 hf => ?_)
    refine g_iinc (d := 1) C 3 (fun x3_10 => [(3, .int x3_10), (0, .ref (K.2.1 0)), (1, .int x1), (2, .int x2)]) dX5_on_62 rfl (by decide) (by decide) (fun _ => rfl) hf (fun x3_10 hf => ?_)
    refine g_goto C 39 dX5_on_65 (by decide) ?_
    refine g_cut [1, 2, 3, 0] rfl ?_
    exact ih _ _ hf
set_option maxHeartbeats 4000000 in
set_option maxRecDepth 100000 in
theorem mX5_on {K : Kx} (hK0 : isKC K) (l : Launch) (σ : St) (x1 : Int32)  (r : Int32) (σ' : St) (hf : f5_on σ x1 = some (r, σ')) : mC K l yX5_on cX5_on 4 (some .int) rmX5_on [.ref (K.2.1 0), .int x1] σ (some (.int r)) σ' := by
  refine g_entry (own := RX5) rfl (by decide +kernel) (Nat.le_of_ble_eq_true rfl) (fun X hX C Kf hR => ?_)
  subst hX
  unfold f5_on at hf
  show gG X σ 0 [(0, .ref (K.2.1 0)), (1, .int x1)] []
  refine g_iload_n C 1 dX5_on_0 rfl ?_
  refine g_if_lt C 9 dX5_on_1 (by decide) hf (fun hf => ?_) (fun hf => ?_)
  · refine g_iconst (v := (-1)) C dX5_on_9 (by decide) ?_
    exact g_iretP C Kf hR dX5_on_10 hf
  · refine g_iload_n C 1 dX5_on_4 rfl ?_
    refine g_iconst (v := 3) C dX5_on_5 (by decide) ?_
    refine g_icmp_lt C 11 dX5_on_6 (by decide) hf (fun hf => ?_) (fun hf => ?_)
    · refine g_aload_n C 0 dX5_on_11 rfl ?_
      refine g_getR C Kf cl_X5 (qF_X5_2 hK0) (by decide) dX5_on_12 kf_X5_21 ?_
      refine g_iload_n C 1 dX5_on_15 rfl ?_
      obtain ⟨r_2, h_1, hf⟩ := b1_some hf
      refine g_cVN_i C Kf [.int x1] (mX3_holds hK0 X.1.2.1 σ 7 x1 (sh_7) r_2 h_1) mi_X3_holds (qO_X3 hK0 sh_7) rfl km_X5_99 ⟨rfl, rfl, by decide, by decide⟩ rfl rfl (Nat.le_of_ble_eq_true rfl) dX5_on_16 ?_
      refine g_if_ne C 28 dX5_on_19 (by decide) hf (fun hf => ?_) (fun hf => ?_)
      · refine g_aload_n C 0 dX5_on_28 rfl ?_
        refine g_getR C Kf cl_X5 (qF_X5_2 hK0) (by decide) dX5_on_29 kf_X5_21 ?_
        refine g_iload_n C 1 dX5_on_32 rfl ?_
        obtain ⟨r_4, h_3, hf⟩ := b1_some hf
        refine g_cVN_i C Kf [.int x1] (mX3_sizeOf hK0 X.1.2.1 σ 7 x1 (sh_7) r_4 h_3) mi_X3_sizeOf (qO_X3 hK0 sh_7) rfl km_X5_106 ⟨rfl, rfl, by decide, by decide⟩ rfl rfl (Nat.le_of_ble_eq_true rfl) dX5_on_33 ?_
        refine g_istore_n C [(2, .int r_4), (0, .ref (K.2.1 0)), (1, .int x1)] dX5_on_36 rfl (by decide) rfl ?_
        refine g_iconst (v := 0) C dX5_on_37 (by decide) ?_
        refine g_istore_n C [(3, .int 0), (2, .int r_4), (0, .ref (K.2.1 0)), (1, .int x1)] dX5_on_38 rfl (by decide) rfl ?_
        refine g_cut [2, 3, 1, 0] rfl ?_
        refine wL5_on_39 hK0 σ x1 r_4 _ _ C Kf hR _ (fun σ_12 hf => ?_) _ _ _ hf
        refine g_aload_n C 0 dX5_on_68 rfl ?_
        refine g_getR C Kf cl_X5 (qF_X5_4 hK0) (by decide) dX5_on_69 kf_X5_34 ?_
        refine g_iload_n C 1 dX5_on_72 rfl ?_
        obtain ⟨σ_14, h_13, hf⟩ := b1_some hf
        refine g_cVN_v C Kf [.int r_4] (mX1_redo hK0 X.1.2.1 σ_12 r_4 σ_14 h_13) mi_X1_redo (qO_X1 hK0) rfl km_X5_172 ⟨rfl, rfl, by decide, by decide⟩ rfl rfl (Nat.le_of_ble_eq_true rfl) dX5_on_73 ?_
        refine g_iload_n C 1 dX5_on_76 rfl ?_
        exact g_iretP C Kf hR dX5_on_77 hf
      · refine g_aload_n C 0 dX5_on_22 rfl ?_
        refine g_iconst (v := 1) C dX5_on_23 (by decide) ?_
        obtain ⟨r_16, σ_17, h_15, hf⟩ := b2_some hf
        refine g_cV_i C Kf [.int 1] (mX5_found hK0 X.1.2.1 σ 1 r_16 σ_17 h_15) mi_X5_found (qO_X5 hK0) rfl km_X5_74 ⟨rfl, rfl, by decide, by decide⟩ rfl rfl (Nat.le_of_ble_eq_true rfl) dX5_on_24 ?_
        exact g_iretP C Kf hR dX5_on_27 hf
    · refine g_iconst (v := (-1)) C dX5_on_9 (by decide) ?_
      exact g_iretP C Kf hR dX5_on_10 hf
abbrev rmX5_order : Room := { frames := 14, cells := 0, slots := 0, locals := 336 }
set_option maxHeartbeats 4000000 in
set_option maxRecDepth 100000 in
theorem mX5_order {K : Kx} (hK0 : isKC K) (l : Launch) (σ : St) (x1 : Int32) (x2 : Int32)  (r : Int32) (σ' : St) (hf : f5_order σ x1 x2 = some (r, σ')) : mC K l yX5_order cX5_order 3 (some .int) rmX5_order [.ref (K.2.1 0), .int x1, .int x2] σ (some (.int r)) σ' := by
  refine g_entry (own := RX5) rfl (by decide +kernel) (Nat.le_of_ble_eq_true rfl) (fun X hX C Kf hR => ?_)
  subst hX
  unfold f5_order at hf
  show gG X σ 0 [(0, .ref (K.2.1 0)), (1, .int x1), (2, .int x2)] []
  refine g_iload_n C 1 dX5_order_0 rfl ?_
  obtain ⟨r_2, h_1, hf⟩ := b1_some hf
  refine g_cS_i C Kf [.int x1] (mX5_isColumn hK0 X.1.2.1 σ x1 r_2 h_1) mi_X5_isColumn km_X5_153 ⟨rfl, rfl, by decide, by decide⟩ rfl rfl (Nat.le_of_ble_eq_true rfl) dX5_order_1 ?_
  refine g_if_eq C 14 dX5_order_4 (by decide) hf (fun hf => ?_) (fun hf => ?_)
  · refine g_iconst (v := (-1)) C dX5_order_14 (by decide) ?_
    exact g_iretP C Kf hR dX5_order_15 hf
  · refine g_iload_n C 2 dX5_order_7 rfl ?_
    obtain ⟨r_4, h_3, hf⟩ := b1_some hf
    refine g_cS_i C Kf [.int x2] (mX5_isRow hK0 X.1.2.1 σ x2 r_4 h_3) mi_X5_isRow km_X5_70 ⟨rfl, rfl, by decide, by decide⟩ rfl rfl (Nat.le_of_ble_eq_true rfl) dX5_order_8 ?_
    refine g_if_ne C 16 dX5_order_11 (by decide) hf (fun hf => ?_) (fun hf => ?_)
    · refine g_aload_n C 0 dX5_order_16 rfl ?_
      refine g_getR C Kf cl_X5 (qF_X5_4 hK0) (by decide) dX5_order_17 kf_X5_34 ?_
      refine g_getIN C Kf cl_X1 (qF_X1_7 hK0) (by decide) dX5_order_20 kf_X5_123 ?_
      refine g_if_ne C 29 dX5_order_23 (by decide) hf (fun hf => ?_) (fun hf => ?_)
      · refine g_aload_n C 0 dX5_order_29 rfl ?_
        refine g_getR C Kf cl_X5 (qF_X5_5 hK0) (by decide) dX5_order_30 kf_X5_41 ?_
        refine g_iload_n C 1 dX5_order_33 rfl ?_
        obtain ⟨σ_6, h_5, hf⟩ := b1_some hf
        refine g_cVN_v C Kf [.int x1] (mX4_wantOrder hK0 X.1.2.1 σ x1 σ_6 h_5) mi_X4_wantOrder (qO_X4 hK0) rfl km_X5_199 ⟨rfl, rfl, by decide, by decide⟩ rfl rfl (Nat.le_of_ble_eq_true rfl) dX5_order_34 ?_
        refine g_aload_n C 0 dX5_order_37 rfl ?_
        refine g_iload_n C 2 dX5_order_38 rfl ?_
        obtain ⟨r_8, σ_9, h_7, hf⟩ := b2_some hf
        refine g_cV_i C Kf [.int x2] (mX5_soughtInto hK0 X.1.2.1 σ_6 x2 r_8 σ_9 h_7) mi_X5_soughtInto (qO_X5 hK0) rfl km_X5_196 ⟨rfl, rfl, by decide, by decide⟩ rfl rfl (Nat.le_of_ble_eq_true rfl) dX5_order_39 ?_
        exact g_iretP C Kf hR dX5_order_42 hf
      · refine g_bipush (v := (-4)) C dX5_order_26 (by decide) ?_
        exact g_iretP C Kf hR dX5_order_28 hf
    · refine g_iconst (v := (-1)) C dX5_order_14 (by decide) ?_
      exact g_iretP C Kf hR dX5_order_15 hf
abbrev rmX5_pass : Room := { frames := 6, cells := 0, slots := 0, locals := 142 }
set_option maxHeartbeats 4000000 in
set_option maxRecDepth 100000 in
theorem mX5_pass {K : Kx} (hK0 : isKC K) (l : Launch) (σ : St) (x1 : Int32)  (r : Int32) (σ' : St) (hf : f5_pass σ x1 = some (r, σ')) : mC K l yX5_pass cX5_pass 3 (some .int) rmX5_pass [.ref (K.2.1 0), .int x1] σ (some (.int r)) σ' := by
  refine g_entry (own := RX5) rfl (by decide +kernel) (Nat.le_of_ble_eq_true rfl) (fun X hX C Kf hR => ?_)
  subst hX
  unfold f5_pass at hf
  show gG X σ 0 [(0, .ref (K.2.1 0)), (1, .int x1)] []
  refine g_iload_n C 1 dX5_pass_0 rfl ?_
  obtain ⟨r_2, h_1, hf⟩ := b1_some hf
  refine g_cS_i C Kf [.int x1] (mX5_isColumn hK0 X.1.2.1 σ x1 r_2 h_1) mi_X5_isColumn km_X5_153 ⟨rfl, rfl, by decide, by decide⟩ rfl rfl (Nat.le_of_ble_eq_true rfl) dX5_pass_1 ?_
  refine g_if_ne C 9 dX5_pass_4 (by decide) hf (fun hf => ?_) (fun hf => ?_)
  · refine g_aload_n C 0 dX5_pass_9 rfl ?_
    refine g_iconst (v := 1) C dX5_pass_10 (by decide) ?_
    obtain ⟨r_4, h_3, hf⟩ := b1_some hf
    refine g_cV_i C Kf [.int 1] (mX5_refusedDeeds hK0 X.1.2.1 σ 1 r_4 h_3) mi_X5_refusedDeeds (qO_X5 hK0) rfl km_X5_156 ⟨rfl, rfl, by decide, by decide⟩ rfl rfl (Nat.le_of_ble_eq_true rfl) dX5_pass_11 ?_
    refine g_istore_n C [(2, .int r_4), (0, .ref (K.2.1 0)), (1, .int x1)] dX5_pass_14 rfl (by decide) rfl ?_
    refine g_iload_n C 0 dX5_pass_15 rfl ?_
    refine g_if_eq C 21 dX5_pass_16 (by decide) hf (fun hf => ?_) (fun hf => ?_)
    · refine g_aload_n C 1 dX5_pass_21 rfl ?_
      refine g_getR C Kf cl_X5 (qF_X5_4 hK0) (by decide) dX5_pass_22 kf_X5_34 ?_
      refine g_iconst (v := 0) C dX5_pass_25 (by decide) ?_
      refine g_iload_n C 2 dX5_pass_26 rfl ?_
      refine g_iconst (v := 0) C dX5_pass_27 (by decide) ?_
      refine g_iconst (v := 0) C dX5_pass_28 (by decide) ?_
      obtain ⟨r_6, h_5, hf⟩ := b1_some hf
      refine g_cS_i C Kf [.int 0, .int x1, .int 0, .int 0] (mX5_deedOf hK0 X.1.2.1 σ 0 x1 0 0 r_6 h_5) mi_X5_deedOf km_X5_159 ⟨rfl, rfl, by decide, by decide⟩ rfl rfl (Nat.le_of_ble_eq_true rfl) dX5_pass_29 ?_
      obtain ⟨r_8, σ_9, h_7, hf⟩ := b2_some hf
      refine g_cVN_i C Kf [.int r_6] (mX1_add hK0 X.1.2.1 σ r_6 r_8 σ_9 h_7) mi_X1_add (qO_X1 hK0) rfl km_X5_163 ⟨rfl, rfl, by decide, by decide⟩ rfl rfl (Nat.le_of_ble_eq_true rfl) dX5_pass_32 ?_
      exact g_iretP C Kf hR dX5_pass_35 hf
    · refine g_iload_n C 0 dX5_pass_19 rfl ?_
      exact g_iretP C Kf hR dX5_pass_20 hf
  · refine g_iconst (v := (-1)) C dX5_pass_7 (by decide) ?_
    exact g_iretP C Kf hR dX5_pass_8 hf
abbrev rmX5_pocket : Room := { frames := 4, cells := 0, slots := 0, locals := 91 }
set_option maxHeartbeats 4000000 in
set_option maxRecDepth 100000 in
theorem mX5_pocket {K : Kx} (hK0 : isKC K) (l : Launch) (σ : St) (x1 : Int32) (x2 : Int32) (x3 : Int32)  (r : Int32) (hf : f5_pocket σ x1 x2 x3 = some r) : mC K l yX5_pocket cX5_pocket 4 (some .int) rmX5_pocket [.ref (K.2.1 0), .int x1, .int x2, .int x3] σ (some (.int r)) σ := by
  refine g_entry (own := RX5) rfl (by decide +kernel) (Nat.le_of_ble_eq_true rfl) (fun X hX C Kf hR => ?_)
  subst hX
  unfold f5_pocket at hf
  show gG X σ 0 [(0, .ref (K.2.1 0)), (1, .int x1), (2, .int x2), (3, .int x3)] []
  refine g_aload_n C 0 dX5_pocket_0 rfl ?_
  refine g_iload_n C 1 dX5_pocket_1 rfl ?_
  obtain ⟨r_2, h_1, hf⟩ := b1_some hf
  refine g_cV_i C Kf [.int x1] (mX5_isCard hK0 X.1.2.1 σ x1 r_2 h_1) mi_X5_isCard (qO_X5 hK0) rfl km_X5_126 ⟨rfl, rfl, by decide, by decide⟩ rfl rfl (Nat.le_of_ble_eq_true rfl) dX5_pocket_2 ?_
  refine g_if_eq C 25 dX5_pocket_5 (by decide) hf (fun hf => ?_) (fun hf => ?_)
  · refine g_iconst (v := (-1)) C dX5_pocket_25 (by decide) ?_
    exact g_iretR C Kf hR dX5_pocket_26 hf
  · refine g_iload_n C 2 dX5_pocket_8 rfl ?_
    obtain ⟨r_4, h_3, hf⟩ := b1_some hf
    refine g_cS_i C Kf [.int x2] (mX5_isColumn hK0 X.1.2.1 σ x2 r_4 h_3) mi_X5_isColumn km_X5_153 ⟨rfl, rfl, by decide, by decide⟩ rfl rfl (Nat.le_of_ble_eq_true rfl) dX5_pocket_9 ?_
    refine g_if_eq C 25 dX5_pocket_12 (by decide) hf (fun hf => ?_) (fun hf => ?_)
    · refine g_iconst (v := (-1)) C dX5_pocket_25 (by decide) ?_
      exact g_iretR C Kf hR dX5_pocket_26 hf
    · refine g_iload_n C 3 dX5_pocket_15 rfl ?_
      refine g_if_lt C 25 dX5_pocket_16 (by decide) hf (fun hf => ?_) (fun hf => ?_)
      · refine g_iconst (v := (-1)) C dX5_pocket_25 (by decide) ?_
        exact g_iretR C Kf hR dX5_pocket_26 hf
      · refine g_iload_n C 3 dX5_pocket_19 rfl ?_
        refine g_bipush (v := 60) C dX5_pocket_20 (by decide) ?_
        refine g_icmp_le C 27 dX5_pocket_22 (by decide) hf (fun hf => ?_) (fun hf => ?_)
        · refine g_aload_n C 0 dX5_pocket_27 rfl ?_
          refine g_getR C Kf cl_X5 (qF_X5_4 hK0) (by decide) dX5_pocket_28 kf_X5_34 ?_
          refine g_iload_n C 1 dX5_pocket_31 rfl ?_
          refine g_iload_n C 2 dX5_pocket_32 rfl ?_
          refine g_iload_n C 3 dX5_pocket_33 rfl ?_
          obtain ⟨r_6, h_5, hf⟩ := b1_some hf
          refine g_cVN_i C Kf [.int x1, .int x2, .int x3] (mX1_readsBehind hK0 X.1.2.1 σ x1 x2 x3 r_6 h_5) mi_X1_readsBehind (qO_X1 hK0) rfl km_X5_178 ⟨rfl, rfl, by decide, by decide⟩ rfl rfl (Nat.le_of_ble_eq_true rfl) dX5_pocket_34 ?_
          exact g_iretR C Kf hR dX5_pocket_37 hf
        · refine g_iconst (v := (-1)) C dX5_pocket_25 (by decide) ?_
          exact g_iretR C Kf hR dX5_pocket_26 hf
abbrev rmX5_punch : Room := { frames := 6, cells := 0, slots := 0, locals := 142 }
set_option maxHeartbeats 4000000 in
set_option maxRecDepth 100000 in
theorem mX5_punch {K : Kx} (hK0 : isKC K) (l : Launch) (σ : St) (x1 : Int32) (x2 : Int32) (x3 : Int32)  (r : Int32) (σ' : St) (hf : f5_punch σ x1 x2 x3 = some (r, σ')) : mC K l yX5_punch cX5_punch 6 (some .int) rmX5_punch [.ref (K.2.1 0), .int x1, .int x2, .int x3] σ (some (.int r)) σ' := by
  refine g_entry (own := RX5) rfl (by decide +kernel) (Nat.le_of_ble_eq_true rfl) (fun X hX C Kf hR => ?_)
  subst hX
  unfold f5_punch at hf
  show gG X σ 0 [(0, .ref (K.2.1 0)), (1, .int x1), (2, .int x2), (3, .int x3)] []
  refine g_aload_n C 0 dX5_punch_0 rfl ?_
  refine g_iload_n C 1 dX5_punch_1 rfl ?_
  obtain ⟨r_2, h_1, hf⟩ := b1_some hf
  refine g_cV_i C Kf [.int x1] (mX5_isCard hK0 X.1.2.1 σ x1 r_2 h_1) mi_X5_isCard (qO_X5 hK0) rfl km_X5_126 ⟨rfl, rfl, by decide, by decide⟩ rfl rfl (Nat.le_of_ble_eq_true rfl) dX5_punch_2 ?_
  refine g_if_eq C 25 dX5_punch_5 (by decide) hf (fun hf => ?_) (fun hf => ?_)
  · refine g_iconst (v := (-1)) C dX5_punch_25 (by decide) ?_
    exact g_iretP C Kf hR dX5_punch_26 hf
  · refine g_iload_n C 2 dX5_punch_8 rfl ?_
    obtain ⟨r_4, h_3, hf⟩ := b1_some hf
    refine g_cS_i C Kf [.int x2] (mX5_isColumn hK0 X.1.2.1 σ x2 r_4 h_3) mi_X5_isColumn km_X5_153 ⟨rfl, rfl, by decide, by decide⟩ rfl rfl (Nat.le_of_ble_eq_true rfl) dX5_punch_9 ?_
    refine g_if_eq C 25 dX5_punch_12 (by decide) hf (fun hf => ?_) (fun hf => ?_)
    · refine g_iconst (v := (-1)) C dX5_punch_25 (by decide) ?_
      exact g_iretP C Kf hR dX5_punch_26 hf
    · refine g_iload_n C 3 dX5_punch_15 rfl ?_
      refine g_if_lt C 25 dX5_punch_16 (by decide) hf (fun hf => ?_) (fun hf => ?_)
      · refine g_iconst (v := (-1)) C dX5_punch_25 (by decide) ?_
        exact g_iretP C Kf hR dX5_punch_26 hf
      · refine g_iload_n C 3 dX5_punch_19 rfl ?_
        refine g_bipush (v := 10) C dX5_punch_20 (by decide) ?_
        refine g_icmp_lt C 27 dX5_punch_22 (by decide) hf (fun hf => ?_) (fun hf => ?_)
        · refine g_aload_n C 0 dX5_punch_27 rfl ?_
          refine g_getR C Kf cl_X5 (qF_X5_4 hK0) (by decide) dX5_punch_28 kf_X5_34 ?_
          refine g_iload_n C 1 dX5_punch_31 rfl ?_
          refine g_iload_n C 2 dX5_punch_32 rfl ?_
          obtain ⟨r_6, h_5, hf⟩ := b1_some hf
          refine g_cVN_i C Kf [.int x1, .int x2] (mX1_figureOf hK0 X.1.2.1 σ x1 x2 r_6 h_5) mi_X1_figureOf (qO_X1 hK0) rfl km_X5_166 ⟨rfl, rfl, by decide, by decide⟩ rfl rfl (Nat.le_of_ble_eq_true rfl) dX5_punch_33 ?_
          refine g_istore C [(4, .int r_6), (0, .ref (K.2.1 0)), (1, .int x1), (2, .int x2), (3, .int x3)] dX5_punch_36 (by decide) rfl ?_
          refine g_iload C 0 dX5_punch_38 rfl ?_
          refine g_iload_n C 4 dX5_punch_40 rfl ?_
          refine g_icmp_ne C 47 dX5_punch_41 (by decide) hf (fun hf => ?_) (fun hf => ?_)
          · refine g_aload_n C 1 dX5_punch_47 rfl ?_
            refine g_iconst (v := 1) C dX5_punch_48 (by decide) ?_
            obtain ⟨r_8, h_7, hf⟩ := b1_some hf
            refine g_cV_i C Kf [.int 1] (mX5_refusedDeeds hK0 X.1.2.1 σ 1 r_8 h_7) mi_X5_refusedDeeds (qO_X5 hK0) rfl km_X5_156 ⟨rfl, rfl, by decide, by decide⟩ rfl rfl (Nat.le_of_ble_eq_true rfl) dX5_punch_49 ?_
            refine g_istore C [(5, .int r_8), (4, .int r_6), (0, .ref (K.2.1 0)), (1, .int x1), (2, .int x2), (3, .int x3)] dX5_punch_52 (by decide) rfl ?_
            refine g_iload C 0 dX5_punch_54 rfl ?_
            refine g_if_eq C 62 dX5_punch_56 (by decide) hf (fun hf => ?_) (fun hf => ?_)
            · refine g_aload_n C 2 dX5_punch_62 rfl ?_
              refine g_getR C Kf cl_X5 (qF_X5_4 hK0) (by decide) dX5_punch_63 kf_X5_34 ?_
              refine g_iconst (v := 3) C dX5_punch_66 (by decide) ?_
              refine g_iload_n C 3 dX5_punch_67 rfl ?_
              refine g_iload_n C 4 dX5_punch_68 rfl ?_
              refine g_iload_n C 5 dX5_punch_69 rfl ?_
              obtain ⟨r_10, h_9, hf⟩ := b1_some hf
              refine g_cS_i C Kf [.int 3, .int x1, .int x2, .int x3] (mX5_deedOf hK0 X.1.2.1 σ 3 x1 x2 x3 r_10 h_9) mi_X5_deedOf km_X5_159 ⟨rfl, rfl, by decide, by decide⟩ rfl rfl (Nat.le_of_ble_eq_true rfl) dX5_punch_70 ?_
              obtain ⟨r_12, σ_13, h_11, hf⟩ := b2_some hf
              refine g_cVN_i C Kf [.int r_10] (mX1_add hK0 X.1.2.1 σ r_10 r_12 σ_13 h_11) mi_X1_add (qO_X1 hK0) rfl km_X5_163 ⟨rfl, rfl, by decide, by decide⟩ rfl rfl (Nat.le_of_ble_eq_true rfl) dX5_punch_73 ?_
              refine g_pop C dX5_punch_76 rfl ?_
              refine g_iload C 1 dX5_punch_77 rfl ?_
              exact g_iretP C Kf hR dX5_punch_79 hf
            · refine g_iload C 0 dX5_punch_59 rfl ?_
              exact g_iretP C Kf hR dX5_punch_61 hf
          · refine g_bipush (v := (-4)) C dX5_punch_44 (by decide) ?_
            exact g_iretP C Kf hR dX5_punch_46 hf
        · refine g_iconst (v := (-1)) C dX5_punch_25 (by decide) ?_
          exact g_iretP C Kf hR dX5_punch_26 hf
abbrev rmX5_put : Room := { frames := 3, cells := 0, slots := 0, locals := 67 }
set_option maxHeartbeats 4000000 in
set_option maxRecDepth 100000 in
theorem mX5_put {K : Kx} (hK0 : isKC K) (l : Launch) (σ : St) (x1 : Int32) (x2 : Int32) (x3 : Int32)  (r : Int32) (σ' : St) (hf : f5_put σ x1 x2 x3 = some (r, σ')) : mC K l yX5_put cX5_put 6 (some .int) rmX5_put [.ref (K.2.1 0), .int x1, .int x2, .int x3] σ (some (.int r)) σ' := by
  refine g_entry (own := RX5) rfl (by decide +kernel) (Nat.le_of_ble_eq_true rfl) (fun X hX C Kf hR => ?_)
  subst hX
  unfold f5_put at hf
  show gG X σ 0 [(0, .ref (K.2.1 0)), (1, .int x1), (2, .int x2), (3, .int x3)] []
  refine g_aload_n C 0 dX5_put_0 rfl ?_
  refine g_iload_n C 1 dX5_put_1 rfl ?_
  obtain ⟨r_2, σ_3, h_1, hf⟩ := b2_some hf
  refine g_cV_i C Kf [.int x1] (mX5_refusedText hK0 X.1.2.1 σ x1 r_2 σ_3 h_1) mi_X5_refusedText (qO_X5 hK0) rfl km_X5_112 ⟨rfl, rfl, by decide, by decide⟩ rfl rfl (Nat.le_of_ble_eq_true rfl) dX5_put_2 ?_
  refine g_istore C [(4, .int r_2), (0, .ref (K.2.1 0)), (1, .int x1), (2, .int x2), (3, .int x3)] dX5_put_5 (by decide) rfl ?_
  refine g_iload C 0 dX5_put_7 rfl ?_
  refine g_if_eq C 15 dX5_put_9 (by decide) hf (fun hf => ?_) (fun hf => ?_)
  · refine g_aload_n C 1 dX5_put_15 rfl ?_
    refine g_getR C Kf cl_X5 (qF_X5_1 hK0) (by decide) dX5_put_16 kf_X5_18 ?_
    refine g_iload_n C 2 dX5_put_19 rfl ?_
    refine g_iload_n C 3 dX5_put_20 rfl ?_
    refine g_iconst (v := 1) C dX5_put_21 (by decide) ?_
    obtain ⟨r_5, h_4, hf⟩ := b1_some hf
    refine g_cVN_i C Kf [.int x1, .int x2, .int 1] (mX3_spans hK0 X.1.2.1 σ_3 4 x1 x2 1 (sh_4) r_5 h_4) mi_X3_spans (qO_X3 hK0 sh_4) rfl km_X5_102 ⟨rfl, rfl, by decide, by decide⟩ rfl rfl (Nat.le_of_ble_eq_true rfl) dX5_put_22 ?_
    refine g_if_ne C 34 dX5_put_25 (by decide) hf (fun hf => ?_) (fun hf => ?_)
    · refine g_aload_n C 1 dX5_put_34 rfl ?_
      refine g_getR C Kf cl_X5 (qF_X5_1 hK0) (by decide) dX5_put_35 kf_X5_18 ?_
      refine g_iload_n C 2 dX5_put_38 rfl ?_
      refine g_iload_n C 3 dX5_put_39 rfl ?_
      obtain ⟨r_7, h_6, hf⟩ := b1_some hf
      refine g_cVN_i C Kf [.int x1, .int x2] (mX3_get hK0 X.1.2.1 σ_3 4 x1 x2 (sh_4) r_7 h_6) mi_X3_get (qO_X3 hK0 sh_4) rfl km_X5_86 ⟨rfl, rfl, by decide, by decide⟩ rfl rfl (Nat.le_of_ble_eq_true rfl) dX5_put_40 ?_
      refine g_istore C [(5, .int r_7), (4, .int r_2), (0, .ref (K.2.1 0)), (1, .int x1), (2, .int x2), (3, .int x3)] dX5_put_43 (by decide) rfl ?_
      refine g_aload_n C 2 dX5_put_45 rfl ?_
      refine g_getR C Kf cl_X5 (qF_X5_1 hK0) (by decide) dX5_put_46 kf_X5_18 ?_
      refine g_iload_n C 3 dX5_put_49 rfl ?_
      refine g_iload_n C 4 dX5_put_50 rfl ?_
      refine g_iload_n C 5 dX5_put_51 rfl ?_
      refine g_i2b C dX5_put_52 ?_
      obtain ⟨σ_9, h_8, hf⟩ := b1_some hf
      refine g_cVN_v C Kf [.int x1, .int x2, .int (x3.toInt8.toInt32)] (mX3_set hK0 X.1.2.1 σ_3 4 x1 x2 (x3.toInt8.toInt32) (sh_4) σ_9 h_8) mi_X3_set (qO_X3 hK0 sh_4) rfl km_X5_89 ⟨rfl, rfl, by decide, by decide⟩ rfl rfl (Nat.le_of_ble_eq_true rfl) dX5_put_53 ?_
      refine g_iload C 0 dX5_put_56 rfl ?_
      refine g_sipush (v := 1000) C dX5_put_58 (by decide) ?_
      refine g_iadd C dX5_put_61 ?_
      exact g_iretP C Kf hR dX5_put_62 hf
    · refine g_aload_n C 1 dX5_put_28 rfl ?_
      refine g_iconst (v := 2) C dX5_put_29 (by decide) ?_
      obtain ⟨r_11, σ_12, h_10, hf⟩ := b2_some hf
      refine g_cV_i C Kf [.int 2] (mX5_found hK0 X.1.2.1 σ_3 2 r_11 σ_12 h_10) mi_X5_found (qO_X5 hK0) rfl km_X5_74 ⟨rfl, rfl, by decide, by decide⟩ rfl rfl (Nat.le_of_ble_eq_true rfl) dX5_put_30 ?_
      exact g_iretP C Kf hR dX5_put_33 hf
  · refine g_iload C 0 dX5_put_12 rfl ?_
    exact g_iretP C Kf hR dX5_put_14 hf
abbrev rmX5_refusedSum : Room := { frames := 1, cells := 0, slots := 0, locals := 20 }
set_option maxHeartbeats 4000000 in
set_option maxRecDepth 100000 in
theorem mX5_refusedSum {K : Kx} (hK0 : isKC K) (l : Launch) (σ : St) (x1 : Int32) (x2 : Int32)  (r : Int32) (hf : f5_refusedSum σ x1 x2 = some r) : mC K l yX5_refusedSum cX5_refusedSum 3 (some .int) rmX5_refusedSum [.ref (K.2.1 0), .int x1, .int x2] σ (some (.int r)) σ := by
  refine g_entry (own := RX5) rfl (by decide +kernel) (Nat.le_of_ble_eq_true rfl) (fun X hX C Kf hR => ?_)
  subst hX
  unfold f5_refusedSum at hf
  show gG X σ 0 [(0, .ref (K.2.1 0)), (1, .int x1), (2, .int x2)] []
  refine g_iload_n C 1 dX5_refusedSum_0 rfl ?_
  obtain ⟨r_2, h_1, hf⟩ := b1_some hf
  refine g_cS_i C Kf [.int x1] (mX5_isColumn hK0 X.1.2.1 σ x1 r_2 h_1) mi_X5_isColumn km_X5_153 ⟨rfl, rfl, by decide, by decide⟩ rfl rfl (Nat.le_of_ble_eq_true rfl) dX5_refusedSum_1 ?_
  refine g_if_eq C 17 dX5_refusedSum_4 (by decide) hf (fun hf => ?_) (fun hf => ?_)
  · refine g_iconst (v := (-1)) C dX5_refusedSum_17 (by decide) ?_
    exact g_iretR C Kf hR dX5_refusedSum_18 hf
  · refine g_iload_n C 2 dX5_refusedSum_7 rfl ?_
    refine g_if_lt C 17 dX5_refusedSum_8 (by decide) hf (fun hf => ?_) (fun hf => ?_)
    · refine g_iconst (v := (-1)) C dX5_refusedSum_17 (by decide) ?_
      exact g_iretR C Kf hR dX5_refusedSum_18 hf
    · refine g_iload_n C 2 dX5_refusedSum_11 rfl ?_
      refine g_bipush (v := 54) C dX5_refusedSum_12 (by decide) ?_
      refine g_icmp_le C 19 dX5_refusedSum_14 (by decide) hf (fun hf => ?_) (fun hf => ?_)
      · refine g_aload_n C 0 dX5_refusedSum_19 rfl ?_
        refine g_getR C Kf cl_X5 (qF_X5_4 hK0) (by decide) dX5_refusedSum_20 kf_X5_34 ?_
        refine g_getIN C Kf cl_X1 (qF_X1_7 hK0) (by decide) dX5_refusedSum_23 kf_X5_123 ?_
        refine g_if_ne C 34 dX5_refusedSum_26 (by decide) hf (fun hf => ?_) (fun hf => ?_)
        · refine g_iconst (v := 0) C dX5_refusedSum_34 (by decide) ?_
          exact g_iretR C Kf hR dX5_refusedSum_35 hf
        · refine g_bipush (v := (-4)) C dX5_refusedSum_29 (by decide) ?_
          refine g_goto C 35 dX5_refusedSum_31 (by decide) ?_
          exact g_iretR C Kf hR dX5_refusedSum_35 hf
      · refine g_iconst (v := (-1)) C dX5_refusedSum_17 (by decide) ?_
        exact g_iretR C Kf hR dX5_refusedSum_18 hf
abbrev rmX5_row : Room := { frames := 1, cells := 0, slots := 0, locals := 24 }
set_option maxHeartbeats 4000000 in
set_option maxRecDepth 100000 in
theorem mX5_row {K : Kx} (hK0 : isKC K) (l : Launch) (σ : St) (x1 : Int32) (x2 : Int32)  (r : Int32) (σ' : St) (hf : f5_row σ x1 x2 = some (r, σ')) : mC K l yX5_row cX5_row 3 (some .int) rmX5_row [.ref (K.2.1 0), .int x1, .int x2] σ (some (.int r)) σ' := by
  refine g_entry (own := RX5) rfl (by decide +kernel) (Nat.le_of_ble_eq_true rfl) (fun X hX C Kf hR => ?_)
  subst hX
  unfold f5_row at hf
  show gG X σ 0 [(0, .ref (K.2.1 0)), (1, .int x1), (2, .int x2)] []
  refine g_iload_n C 1 dX5_row_0 rfl ?_
  obtain ⟨r_2, h_1, hf⟩ := b1_some hf
  refine g_cS_i C Kf [.int x1] (mX5_isRow hK0 X.1.2.1 σ x1 r_2 h_1) mi_X5_isRow km_X5_70 ⟨rfl, rfl, by decide, by decide⟩ rfl rfl (Nat.le_of_ble_eq_true rfl) dX5_row_1 ?_
  refine g_if_eq C 13 dX5_row_4 (by decide) hf (fun hf => ?_) (fun hf => ?_)
  · refine g_iconst (v := (-1)) C dX5_row_13 (by decide) ?_
    exact g_iretP C Kf hR dX5_row_14 hf
  · refine g_iload_n C 2 dX5_row_7 rfl ?_
    refine g_bipush (v := 40) C dX5_row_8 (by decide) ?_
    refine g_icmp_le C 15 dX5_row_10 (by decide) hf (fun hf => ?_) (fun hf => ?_)
    · refine g_iload_n C 2 dX5_row_15 rfl ?_
      refine g_if_ge C 25 dX5_row_16 (by decide) hf (fun hf => ?_) (fun hf => ?_)
      · refine g_aload_n C 0 dX5_row_25 rfl ?_
        refine g_getR C Kf cl_X5 (qF_X5_0 hK0) (by decide) dX5_row_26 kf_X5_14 ?_
        refine g_iload_n C 1 dX5_row_29 rfl ?_
        refine g_iload_n C 2 dX5_row_30 rfl ?_
        refine g_iconst (v := 0) C dX5_row_31 (by decide) ?_
        obtain ⟨σ_4, h_3, hf⟩ := b1_some hf
        refine g_cVN_v C Kf [.int x1, .int x2, .int 0] (mX3_make hK0 X.1.2.1 σ 1 x1 x2 0 (sh_1) σ_4 h_3) mi_X3_make (qO_X3 hK0 sh_1) rfl km_X5_78 ⟨rfl, rfl, by decide, by decide⟩ rfl rfl (Nat.le_of_ble_eq_true rfl) dX5_row_32 ?_
        refine g_iload_n C 2 dX5_row_35 rfl ?_
        exact g_iretP C Kf hR dX5_row_36 hf
      · refine g_aload_n C 0 dX5_row_19 rfl ?_
        refine g_iconst (v := 5) C dX5_row_20 (by decide) ?_
        obtain ⟨r_6, σ_7, h_5, hf⟩ := b2_some hf
        refine g_cV_i C Kf [.int 5] (mX5_found hK0 X.1.2.1 σ 5 r_6 σ_7 h_5) mi_X5_found (qO_X5 hK0) rfl km_X5_74 ⟨rfl, rfl, by decide, by decide⟩ rfl rfl (Nat.le_of_ble_eq_true rfl) dX5_row_21 ?_
        exact g_iretP C Kf hR dX5_row_24 hf
    · refine g_iconst (v := (-1)) C dX5_row_13 (by decide) ?_
      exact g_iretP C Kf hR dX5_row_14 hf
abbrev rmX5_run : Room := { frames := 5, cells := 0, slots := 0, locals := 124 }
set_option maxHeartbeats 4000000 in
set_option maxRecDepth 100000 in
theorem mX5_run {K : Kx} (hK0 : isKC K) (l : Launch) (σ : St) (x1 : Int32) (x2 : Int32)  (r : Int32) (σ' : St) (hf : f5_run σ x1 x2 = some (r, σ')) : mC K l yX5_run cX5_run 4 (some .int) rmX5_run [.ref (K.2.1 0), .int x1, .int x2] σ (some (.int r)) σ' := by
  refine g_entry (own := RX5) rfl (by decide +kernel) (Nat.le_of_ble_eq_true rfl) (fun X hX C Kf hR => ?_)
  subst hX
  unfold f5_run at hf
  show gG X σ 0 [(0, .ref (K.2.1 0)), (1, .int x1), (2, .int x2)] []
  refine g_iload_n C 1 dX5_run_0 rfl ?_
  obtain ⟨r_2, h_1, hf⟩ := b1_some hf
  refine g_cS_i C Kf [.int x1] (mX5_isRow hK0 X.1.2.1 σ x1 r_2 h_1) mi_X5_isRow km_X5_70 ⟨rfl, rfl, by decide, by decide⟩ rfl rfl (Nat.le_of_ble_eq_true rfl) dX5_run_1 ?_
  refine g_if_eq C 14 dX5_run_4 (by decide) hf (fun hf => ?_) (fun hf => ?_)
  · refine g_iconst (v := (-1)) C dX5_run_14 (by decide) ?_
    exact g_iretP C Kf hR dX5_run_15 hf
  · refine g_iload_n C 2 dX5_run_7 rfl ?_
    obtain ⟨r_4, h_3, hf⟩ := b1_some hf
    refine g_cS_i C Kf [.int x2] (mX5_isRow hK0 X.1.2.1 σ x2 r_4 h_3) mi_X5_isRow km_X5_70 ⟨rfl, rfl, by decide, by decide⟩ rfl rfl (Nat.le_of_ble_eq_true rfl) dX5_run_8 ?_
    refine g_if_ne C 16 dX5_run_11 (by decide) hf (fun hf => ?_) (fun hf => ?_)
    · refine g_aload_n C 0 dX5_run_16 rfl ?_
      refine g_getR C Kf cl_X5 (qF_X5_4 hK0) (by decide) dX5_run_17 kf_X5_34 ?_
      refine g_getIN C Kf cl_X1 (qF_X1_7 hK0) (by decide) dX5_run_20 kf_X5_123 ?_
      refine g_if_ne C 29 dX5_run_23 (by decide) hf (fun hf => ?_) (fun hf => ?_)
      · refine g_aload_n C 0 dX5_run_29 rfl ?_
        refine g_getR C Kf cl_X5 (qF_X5_0 hK0) (by decide) dX5_run_30 kf_X5_14 ?_
        refine g_iload_n C 1 dX5_run_33 rfl ?_
        obtain ⟨r_6, h_5, hf⟩ := b1_some hf
        refine g_cVN_i C Kf [.int x1] (mX3_holds hK0 X.1.2.1 σ 1 x1 (sh_1) r_6 h_5) mi_X3_holds (qO_X3 hK0 sh_1) rfl km_X5_99 ⟨rfl, rfl, by decide, by decide⟩ rfl rfl (Nat.le_of_ble_eq_true rfl) dX5_run_34 ?_
        refine g_if_ne C 46 dX5_run_37 (by decide) hf (fun hf => ?_) (fun hf => ?_)
        · refine g_aload_n C 0 dX5_run_46 rfl ?_
          refine g_getR C Kf cl_X5 (qF_X5_0 hK0) (by decide) dX5_run_47 kf_X5_14 ?_
          refine g_iload_n C 1 dX5_run_50 rfl ?_
          obtain ⟨r_8, h_7, hf⟩ := b1_some hf
          refine g_cVN_i C Kf [.int x1] (mX3_sizeOf hK0 X.1.2.1 σ 1 x1 (sh_1) r_8 h_7) mi_X3_sizeOf (qO_X3 hK0 sh_1) rfl km_X5_106 ⟨rfl, rfl, by decide, by decide⟩ rfl rfl (Nat.le_of_ble_eq_true rfl) dX5_run_51 ?_
          refine g_bipush (v := 10) C dX5_run_54 (by decide) ?_
          refine g_icmp_le C 65 dX5_run_56 (by decide) hf (fun hf => ?_) (fun hf => ?_)
          · refine g_aload_n C 0 dX5_run_65 rfl ?_
            refine g_iload_n C 1 dX5_run_66 rfl ?_
            obtain ⟨r_10, h_9, hf⟩ := b1_some hf
            refine g_cV_i C Kf [.int x1] (mX5_allColumns hK0 X.1.2.1 σ x1 r_10 h_9) mi_X5_allColumns (qO_X5 hK0) rfl km_X5_182 ⟨rfl, rfl, by decide, by decide⟩ rfl rfl (Nat.le_of_ble_eq_true rfl) dX5_run_67 ?_
            refine g_if_ne C 79 dX5_run_70 (by decide) hf (fun hf => ?_) (fun hf => ?_)
            · refine g_aload_n C 0 dX5_run_79 rfl ?_
              refine g_getR C Kf cl_X5 (qF_X5_5 hK0) (by decide) dX5_run_80 kf_X5_41 ?_
              refine g_aload_n C 0 dX5_run_83 rfl ?_
              refine g_getR C Kf cl_X5 (qF_X5_4 hK0) (by decide) dX5_run_84 kf_X5_34 ?_
              refine g_aload_n C 0 dX5_run_87 rfl ?_
              refine g_getR C Kf cl_X5 (qF_X5_0 hK0) (by decide) dX5_run_88 kf_X5_14 ?_
              refine g_iload_n C 1 dX5_run_91 rfl ?_
              obtain ⟨r_12, σ_13, h_11, hf⟩ := b2_some hf
              have hq_h_11 := cell_X4_passAll h_11; subst hq_h_11
              refine g_cVN_r C Kf [.ref (K.2.1 13), .ref (K.2.1 1), .int x1] (mX4_passAll hK0 X.1.2.1 σ x1 24 σ_13 h_11) mi_X4_passAll (qO_X4 hK0) rfl km_X5_185 ⟨rfl, rfl, by decide, by decide⟩ rfl rfl (Nat.le_of_ble_eq_true rfl) dX5_run_92 ?_
              refine g_astore_n C [(3, .ref (K.2.1 24)), (0, .ref (K.2.1 0)), (1, .int x1), (2, .int x2)] dX5_run_95 rfl (by decide) rfl ?_
              refine g_aload_n C 1 dX5_run_96 rfl ?_
              refine g_getR C Kf cl_X5 (qF_X5_0 hK0) (by decide) dX5_run_97 kf_X5_14 ?_
              refine g_iload_n C 3 dX5_run_100 rfl ?_
              refine g_aload_n C 0 dX5_run_101 rfl ?_
              refine g_aload_n C 1 dX5_run_102 rfl ?_
              refine g_getR C Kf cl_X5 (qF_X5_4 hK0) (by decide) dX5_run_103 kf_X5_34 ?_
              refine g_getIN C Kf cl_X1 (qF_X1_7 hK0) (by decide) dX5_run_106 kf_X5_123 ?_
              obtain ⟨σ_15, h_14, hf⟩ := b1_some hf
              refine g_cVN_v C Kf [.int x2, .ref (K.2.1 24), .int (σ_13.1 13 7)] (mX3_fill hK0 X.1.2.1 σ_13 1 x2 24 (σ_13.1 13 7) (sh_1) (by decide) σ_15 h_14) mi_X3_fill (qO_X3 hK0 sh_1) rfl km_X5_189 ⟨rfl, rfl, by decide, by decide⟩ rfl rfl (Nat.le_of_ble_eq_true rfl) dX5_run_109 ?_
              refine g_aload_n C 0 dX5_run_112 rfl ?_
              refine g_iconst (v := 0) C dX5_run_113 (by decide) ?_
              refine g_ialdL C Kf 0 (by decide) (by unfold vp_in; decide) (qAC_24 hK0) dX5_run_114 ?_
              exact g_iretP C Kf hR dX5_run_115 hf
            · refine g_aload_n C 0 dX5_run_73 rfl ?_
              refine g_iconst (v := 3) C dX5_run_74 (by decide) ?_
              obtain ⟨r_17, σ_18, h_16, hf⟩ := b2_some hf
              refine g_cV_i C Kf [.int 3] (mX5_found hK0 X.1.2.1 σ 3 r_17 σ_18 h_16) mi_X5_found (qO_X5 hK0) rfl km_X5_74 ⟨rfl, rfl, by decide, by decide⟩ rfl rfl (Nat.le_of_ble_eq_true rfl) dX5_run_75 ?_
              exact g_iretP C Kf hR dX5_run_78 hf
          · refine g_aload_n C 0 dX5_run_59 rfl ?_
            refine g_iconst (v := 5) C dX5_run_60 (by decide) ?_
            obtain ⟨r_20, σ_21, h_19, hf⟩ := b2_some hf
            refine g_cV_i C Kf [.int 5] (mX5_found hK0 X.1.2.1 σ 5 r_20 σ_21 h_19) mi_X5_found (qO_X5 hK0) rfl km_X5_74 ⟨rfl, rfl, by decide, by decide⟩ rfl rfl (Nat.le_of_ble_eq_true rfl) dX5_run_61 ?_
            exact g_iretP C Kf hR dX5_run_64 hf
        · refine g_aload_n C 0 dX5_run_40 rfl ?_
          refine g_iconst (v := 1) C dX5_run_41 (by decide) ?_
          obtain ⟨r_23, σ_24, h_22, hf⟩ := b2_some hf
          refine g_cV_i C Kf [.int 1] (mX5_found hK0 X.1.2.1 σ 1 r_23 σ_24 h_22) mi_X5_found (qO_X5 hK0) rfl km_X5_74 ⟨rfl, rfl, by decide, by decide⟩ rfl rfl (Nat.le_of_ble_eq_true rfl) dX5_run_42 ?_
          exact g_iretP C Kf hR dX5_run_45 hf
      · refine g_bipush (v := (-4)) C dX5_run_26 (by decide) ?_
        exact g_iretP C Kf hR dX5_run_28 hf
    · refine g_iconst (v := (-1)) C dX5_run_14 (by decide) ?_
      exact g_iretP C Kf hR dX5_run_15 hf
abbrev rmX5_sets : Room := { frames := 2, cells := 0, slots := 0, locals := 52 }
set_option maxHeartbeats 4000000 in
set_option maxRecDepth 100000 in
theorem wL5_sets_23 {X : Gx St} {K : Kx} (hK0 : isKC K) (σ : St) (x1 : Int32) (x2 : Int32) (r : Int32) (σ' : St) (C : gF X cX5_sets RX5 (some .int) 7 rmX5_sets) (Kf : kF X K) (hR : gR X K (some (.int r)) σ') (k : Int32 → Int32 → Option (Int32 × St)) (Hk : ∀ (x4_6 : Int32) (x5_7 : Int32), k x4_6 x5_7 = some (r, σ') → gG X σ 71 [(0, .ref (K.2.1 0)), (4, .int x4_6), (5, .int x5_7)] []) : ∀ (n : Nat) (x4_3 : Int32) (x5_4 : Int32) (x6_5 : Int32), L5_sets_23 σ x1 x2 k n x4_3 x5_4 x6_5 = some (r, σ') → gG X σ 23 [(0, .ref (K.2.1 0)), (1, .int x1), (2, .int x2), (4, .int x4_3), (5, .int x5_4), (6, .int x6_5)] [] := by
  intro n
  induction n with
  | zero => intro _ _ _ hf; unfold L5_sets_23 at hf; cases hf
  | succ n ih =>
  intro x4_3 x5_4 x6_5 hf
  unfold L5_sets_23 at hf
  refine g_iload C 5 dX5_sets_23 rfl ?_
  refine g_iconst (v := 1) C dX5_sets_25 (by decide) ?_
  refine g_aload_n C 0 dX5_sets_26 rfl ?_
  refine g_getR C Kf cl_X5 (qF_X5_4 hK0) (by decide) dX5_sets_27 kf_X5_34 ?_
  refine g_getIN C Kf cl_X1 (qF_X1_7 hK0) (by decide) dX5_sets_30 kf_X5_123 ?_
  refine g_ishl C dX5_sets_33 ?_
  refine g_icmp_ge C 71 dX5_sets_34 (by decide) hf (fun hf => ?_) (fun hf => ?_)
  · refine g_cut [0, 3, 4] rfl ?_
    exact Hk _ _ hf
  · refine g_aload_n C 0 dX5_sets_37 rfl ?_
    refine g_getR C Kf cl_X5 (qF_X5_4 hK0) (by decide) dX5_sets_38 kf_X5_34 ?_
    refine g_iload C 5 dX5_sets_41 rfl ?_
    refine g_iload_n C 1 dX5_sets_43 rfl ?_
    obtain ⟨r_9, h_8, hf⟩ := b1_some hf
    refine g_cVN_i C Kf [.int x6_5, .int x1] (mX1_sumOf hK0 X.1.2.1 σ x6_5 x1 r_9 h_8) mi_X1_sumOf (qO_X1 hK0) rfl km_X5_231 ⟨rfl, rfl, by decide, by decide⟩ rfl rfl (Nat.le_of_ble_eq_true rfl) dX5_sets_44 ?_
    refine g_iload_n C 2 dX5_sets_47 rfl ?_
    refine g_jn hf (fun j_12 ej_14 hf => ?_)
    have HJ_13 : ∀ (x4_10 : Int32) (x5_11 : Int32), j_12 x4_10 x5_11 = some (r, σ') → gG X σ 65 [(0, .ref (K.2.1 0)), (1, .int x1), (2, .int x2), (4, .int x4_10), (5, .int x5_11), (6, .int x6_5)] [] := by
      intro x4_10 x5_11 hf
      rw [ej_14] at hf
      refine g_iinc (d := 1) C 5 (fun x6_15 => [(6, .int x6_15), (0, .ref (K.2.1 0)), (1, .int x1), (2, .int x2), (4, .int x4_10), (5, .int x5_11)]) dX5_sets_65 rfl (by decide) (by decide) (fun _ => rfl) hf (fun x6_15 hf => ?_)
      refine g_goto C 23 dX5_sets_68 (by decide) ?_
      refine g_cut [1, 2, 3, 4, 5, 0] rfl ?_
      exact ih _ _ _ hf
    refine g_icmp_ne C 65 dX5_sets_48 (by decide) hf (fun hf => ?_) (fun hf => ?_)
    · exact HJ_13 _ _ hf
    · refine g_iinc (d := 1) C 3 (fun x4_16 => [(4, .int x4_16), (0, .ref (K.2.1 0)), (1, .int x1), (2, .int x2), (5, .int x5_4), (6, .int x6_5)]) dX5_sets_51 rfl (by decide) (by decide) (fun _ => rfl) hf (fun x4_16 hf => ?_)
      refine g_iload C 4 dX5_sets_54 rfl ?_
      refine g_bipush (v := (-9)) C dX5_sets_56 (by decide) ?_
      refine g_icmp_ne C 65 dX5_sets_58 (by decide) hf (fun hf => ?_) (fun hf => ?_)
      · refine g_cut [1, 2, 3, 0, 4, 5] rfl ?_
        exact HJ_13 _ _ hf
      · refine g_iload C 5 dX5_sets_61 rfl ?_
        refine g_istore C [(5, .int x6_5), (4, .int x4_16), (0, .ref (K.2.1 0)), (1, .int x1), (2, .int x2), (6, .int x6_5)] dX5_sets_63 (by decide) rfl ?_
        refine g_cut [2, 3, 4, 1, 0, 5] rfl ?_
        exact HJ_13 _ _ hf
set_option maxHeartbeats 4000000 in
set_option maxRecDepth 100000 in
theorem mX5_sets {K : Kx} (hK0 : isKC K) (l : Launch) (σ : St) (x1 : Int32) (x2 : Int32)  (r : Int32) (σ' : St) (hf : f5_sets σ x1 x2 = some (r, σ')) : mC K l yX5_sets cX5_sets 7 (some .int) rmX5_sets [.ref (K.2.1 0), .int x1, .int x2] σ (some (.int r)) σ' := by
  refine g_entry (own := RX5) rfl (by decide +kernel) (Nat.le_of_ble_eq_true rfl) (fun X hX C Kf hR => ?_)
  subst hX
  unfold f5_sets at hf
  show gG X σ 0 [(0, .ref (K.2.1 0)), (1, .int x1), (2, .int x2)] []
  refine g_aload_n C 0 dX5_sets_0 rfl ?_
  refine g_iload_n C 1 dX5_sets_1 rfl ?_
  refine g_iload_n C 2 dX5_sets_2 rfl ?_
  obtain ⟨r_2, h_1, hf⟩ := b1_some hf
  refine g_cV_i C Kf [.int x1, .int x2] (mX5_refusedSum hK0 X.1.2.1 σ x1 x2 r_2 h_1) mi_X5_refusedSum (qO_X5 hK0) rfl km_X5_228 ⟨rfl, rfl, by decide, by decide⟩ rfl rfl (Nat.le_of_ble_eq_true rfl) dX5_sets_3 ?_
  refine g_istore_n C [(3, .int r_2), (0, .ref (K.2.1 0)), (1, .int x1), (2, .int x2)] dX5_sets_6 rfl (by decide) rfl ?_
  refine g_iload_n C 0 dX5_sets_7 rfl ?_
  refine g_if_eq C 13 dX5_sets_8 (by decide) hf (fun hf => ?_) (fun hf => ?_)
  · refine g_iconst (v := 0) C dX5_sets_13 (by decide) ?_
    refine g_istore C [(4, .int 0), (3, .int r_2), (0, .ref (K.2.1 0)), (1, .int x1), (2, .int x2)] dX5_sets_14 (by decide) rfl ?_
    refine g_bipush (v := (-9)) C dX5_sets_16 (by decide) ?_
    refine g_istore C [(5, .int ((-9))), (4, .int 0), (3, .int r_2), (0, .ref (K.2.1 0)), (1, .int x1), (2, .int x2)] dX5_sets_18 (by decide) rfl ?_
    refine g_iconst (v := 0) C dX5_sets_20 (by decide) ?_
    refine g_istore C [(6, .int 0), (5, .int ((-9))), (4, .int 0), (3, .int r_2), (0, .ref (K.2.1 0)), (1, .int x1), (2, .int x2)] dX5_sets_21 (by decide) rfl ?_
    refine g_cut [4, 5, 6, 2, 1, 0] rfl ?_
    refine wL5_sets_23 hK0 σ x1 x2 _ _ C Kf hR _ (fun x4_17 x5_18 hf => ?_) _ _ _ _ hf
    refine g_aload_n C 0 dX5_sets_71 rfl ?_
    refine g_iload C 2 dX5_sets_72 rfl ?_
    refine g_putI C Kf cl_X5 (qF_X5_9 hK0) (by decide) rfl rfl rfl dX5_sets_74 kf_X5_60 hf (fun σ_19 hf => ?_)
    refine g_aload_n C 0 dX5_sets_77 rfl ?_
    refine g_iload C 1 dX5_sets_78 rfl ?_
    refine g_i2l C dX5_sets_80 ?_
    refine g_lconst (v := 1) C dX5_sets_81 (by decide) ?_
    obtain ⟨σ_21, h_20, hf⟩ := b1_some hf
    refine g_cV_v C Kf [.long (x4_17.toInt64), .long 1] (mX5_tellParts hK0 X.1.2.1 σ_19 (x4_17.toInt64) 1 σ_21 h_20) mi_X5_tellParts (qO_X5 hK0) rfl km_X5_234 ⟨rfl, rfl, by decide, by decide⟩ rfl rfl (Nat.le_of_ble_eq_true rfl) dX5_sets_82 ?_
    refine g_iconst (v := 1) C dX5_sets_85 (by decide) ?_
    exact g_iretP C Kf hR dX5_sets_86 hf
  · refine g_iload_n C 0 dX5_sets_11 rfl ?_
    exact g_iretP C Kf hR dX5_sets_12 hf
abbrev rmX5_sure : Room := { frames := 2, cells := 0, slots := 0, locals := 46 }
set_option maxHeartbeats 4000000 in
set_option maxRecDepth 100000 in
theorem wL5_sure_39 {X : Gx St} {K : Kx} (hK0 : isKC K) (σ : St) (x1 : Int32) (x2 : Int32) (x4 : Int32) (r : Int32) (σ' : St) (C : gF X cX5_sure RX5 (some .int) 9 rmX5_sure) (Kf : kF X K) (hR : gR X K (some (.int r)) σ') (k : Int32 → Int32 → Int32 → Option (Int32 × St)) (Hk : ∀ (x5_8 : Int32) (x6_9 : Int32) (x7_10 : Int32), k x5_8 x6_9 x7_10 = some (r, σ') → gG X σ 83 [(0, .ref (K.2.1 0)), (4, .int x4), (5, .int x5_8), (6, .int x6_9), (7, .int x7_10)] []) : ∀ (n : Nat) (x5_4 : Int32) (x6_5 : Int32) (x7_6 : Int32) (x8_7 : Int32), L5_sure_39 σ x1 x2 x4 k n x5_4 x6_5 x7_6 x8_7 = some (r, σ') → gG X σ 39 [(0, .ref (K.2.1 0)), (1, .int x1), (2, .int x2), (4, .int x4), (5, .int x5_4), (6, .int x6_5), (7, .int x7_6), (8, .int x8_7)] [] := by
  intro n
  induction n with
  | zero => intro _ _ _ _ hf; unfold L5_sure_39 at hf; cases hf
  | succ n ih =>
  intro x5_4 x6_5 x7_6 x8_7 hf
  unfold L5_sure_39 at hf
  refine g_iload C 7 dX5_sure_39 rfl ?_
  refine g_iload C 3 dX5_sure_41 rfl ?_
  refine g_icmp_gt C 83 dX5_sure_43 (by decide) hf (fun hf => ?_) (fun hf => ?_)
  · refine g_cut [0, 3, 4, 5, 6] rfl ?_
    exact Hk _ _ _ hf
  · refine g_aload_n C 0 dX5_sure_46 rfl ?_
    refine g_getR C Kf cl_X5 (qF_X5_4 hK0) (by decide) dX5_sure_47 kf_X5_34 ?_
    refine g_iload C 7 dX5_sure_50 rfl ?_
    refine g_iload_n C 1 dX5_sure_52 rfl ?_
    obtain ⟨r_12, h_11, hf⟩ := b1_some hf
    refine g_cVN_i C Kf [.int x8_7, .int x1] (mX1_sumOf hK0 X.1.2.1 σ x8_7 x1 r_12 h_11) mi_X1_sumOf (qO_X1 hK0) rfl km_X5_231 ⟨rfl, rfl, by decide, by decide⟩ rfl rfl (Nat.le_of_ble_eq_true rfl) dX5_sure_53 ?_
    refine g_iload_n C 2 dX5_sure_56 rfl ?_
    refine g_jn hf (fun j_16 ej_18 hf => ?_)
    have HJ_17 : ∀ (x5_13 : Int32) (x6_14 : Int32) (x7_15 : Int32), j_16 x5_13 x6_14 x7_15 = some (r, σ') → gG X σ 77 [(0, .ref (K.2.1 0)), (1, .int x1), (2, .int x2), (4, .int x4), (5, .int x5_13), (6, .int x6_14), (7, .int x7_15), (8, .int x8_7)] [] := by
      intro x5_13 x6_14 x7_15 hf
      rw [ej_18] at hf
      refine g_iinc (d := 1) C 7 (fun x8_19 => [(8, .int x8_19), (0, .ref (K.2.1 0)), (1, .int x1), (2, .int x2), (4, .int x4), (5, .int x5_13), (6, .int x6_14), (7, .int x7_15)]) dX5_sure_77 rfl (by decide) (by decide) (fun _ => rfl) hf (fun x8_19 hf => ?_)
      refine g_goto C 39 dX5_sure_80 (by decide) ?_
      refine g_cut [1, 2, 3, 4, 5, 6, 7, 0] rfl ?_
      exact ih _ _ _ _ hf
    refine g_icmp_ne C 77 dX5_sure_57 (by decide) hf (fun hf => ?_) (fun hf => ?_)
    · exact HJ_17 _ _ _ hf
    · refine g_iconst (v := 1) C dX5_sure_60 (by decide) ?_
      refine g_istore C [(7, .int 1), (0, .ref (K.2.1 0)), (1, .int x1), (2, .int x2), (4, .int x4), (5, .int x5_4), (6, .int x6_5), (8, .int x8_7)] dX5_sure_61 (by decide) rfl ?_
      refine g_iload C 5 dX5_sure_63 rfl ?_
      refine g_iload C 7 dX5_sure_65 rfl ?_
      refine g_iand C dX5_sure_67 ?_
      refine g_istoreB C (fun x5_20 => [(5, .int x5_20), (7, .int 1), (0, .ref (K.2.1 0)), (1, .int x1), (2, .int x2), (4, .int x4), (6, .int x6_5), (8, .int x8_7)]) dX5_sure_68 (by decide) (fun _ => rfl) hf (fun x5_20 hf => ?_)
      refine g_iload C 6 dX5_sure_70 rfl ?_
      refine g_iload C 7 dX5_sure_72 rfl ?_
      refine g_ior C dX5_sure_74 ?_
      refine g_istoreB C (fun x6_21 => [(6, .int x6_21), (5, .int x5_20), (7, .int 1), (0, .ref (K.2.1 0)), (1, .int x1), (2, .int x2), (4, .int x4), (8, .int x8_7)]) dX5_sure_75 (by decide) (fun _ => rfl) hf (fun x6_21 hf => ?_)
      refine g_cut [3, 4, 5, 6, 1, 0, 2, 7] rfl ?_
      exact HJ_17 _ _ _ hf
set_option maxHeartbeats 4000000 in
set_option maxRecDepth 100000 in
theorem mX5_sure {K : Kx} (hK0 : isKC K) (l : Launch) (σ : St) (x1 : Int32) (x2 : Int32)  (r : Int32) (σ' : St) (hf : f5_sure σ x1 x2 = some (r, σ')) : mC K l yX5_sure cX5_sure 9 (some .int) rmX5_sure [.ref (K.2.1 0), .int x1, .int x2] σ (some (.int r)) σ' := by
  refine g_entry (own := RX5) rfl (by decide +kernel) (Nat.le_of_ble_eq_true rfl) (fun X hX C Kf hR => ?_)
  subst hX
  unfold f5_sure at hf
  show gG X σ 0 [(0, .ref (K.2.1 0)), (1, .int x1), (2, .int x2)] []
  refine g_aload_n C 0 dX5_sure_0 rfl ?_
  refine g_iload_n C 1 dX5_sure_1 rfl ?_
  refine g_iload_n C 2 dX5_sure_2 rfl ?_
  obtain ⟨r_2, h_1, hf⟩ := b1_some hf
  refine g_cV_i C Kf [.int x1, .int x2] (mX5_refusedSum hK0 X.1.2.1 σ x1 x2 r_2 h_1) mi_X5_refusedSum (qO_X5 hK0) rfl km_X5_228 ⟨rfl, rfl, by decide, by decide⟩ rfl rfl (Nat.le_of_ble_eq_true rfl) dX5_sure_3 ?_
  refine g_istore_n C [(3, .int r_2), (0, .ref (K.2.1 0)), (1, .int x1), (2, .int x2)] dX5_sure_6 rfl (by decide) rfl ?_
  refine g_iload_n C 0 dX5_sure_7 rfl ?_
  refine g_if_eq C 13 dX5_sure_8 (by decide) hf (fun hf => ?_) (fun hf => ?_)
  · refine g_iconst (v := 1) C dX5_sure_13 (by decide) ?_
    refine g_aload_n C 1 dX5_sure_14 rfl ?_
    refine g_getR C Kf cl_X5 (qF_X5_4 hK0) (by decide) dX5_sure_15 kf_X5_34 ?_
    refine g_getIN C Kf cl_X1 (qF_X1_7 hK0) (by decide) dX5_sure_18 kf_X5_123 ?_
    refine g_ishl C dX5_sure_21 ?_
    refine g_iconst (v := 1) C dX5_sure_22 (by decide) ?_
    refine g_isub C dX5_sure_23 ?_
    refine g_istoreB C (fun x4_3 => [(4, .int x4_3), (3, .int r_2), (0, .ref (K.2.1 0)), (1, .int x1), (2, .int x2)]) dX5_sure_24 (by decide) (fun _ => rfl) hf (fun x4_3 hf => ?_)
    refine g_iload C 0 dX5_sure_26 rfl ?_
    refine g_istore C [(5, .int x4_3), (4, .int x4_3), (3, .int r_2), (0, .ref (K.2.1 0)), (1, .int x1), (2, .int x2)] dX5_sure_28 (by decide) rfl ?_
    refine g_iconst (v := 0) C dX5_sure_30 (by decide) ?_
    refine g_istore C [(6, .int 0), (5, .int x4_3), (4, .int x4_3), (3, .int r_2), (0, .ref (K.2.1 0)), (1, .int x1), (2, .int x2)] dX5_sure_31 (by decide) rfl ?_
    refine g_iconst (v := 0) C dX5_sure_33 (by decide) ?_
    refine g_istore C [(7, .int 0), (6, .int 0), (5, .int x4_3), (4, .int x4_3), (3, .int r_2), (0, .ref (K.2.1 0)), (1, .int x1), (2, .int x2)] dX5_sure_34 (by decide) rfl ?_
    refine g_iconst (v := 0) C dX5_sure_36 (by decide) ?_
    refine g_istore C [(8, .int 0), (7, .int 0), (6, .int 0), (5, .int x4_3), (4, .int x4_3), (3, .int r_2), (0, .ref (K.2.1 0)), (1, .int x1), (2, .int x2)] dX5_sure_37 (by decide) rfl ?_
    refine g_cut [6, 7, 8, 4, 3, 2, 1, 0] rfl ?_
    refine wL5_sure_39 hK0 σ x1 x2 x4_3 _ _ C Kf hR _ (fun x5_22 x6_23 x7_24 hf => ?_) _ _ _ _ _ hf
    refine g_iload C 4 dX5_sure_83 rfl ?_
    refine g_if_ne C 94 dX5_sure_85 (by decide) hf (fun hf => ?_) (fun hf => ?_)
    · refine g_aload_n C 0 dX5_sure_94 rfl ?_
      refine g_iload C 1 dX5_sure_95 rfl ?_
      refine g_iload C 3 dX5_sure_97 rfl ?_
      refine g_iconst (v := (-1)) C dX5_sure_99 (by decide) ?_
      refine g_ixor C dX5_sure_100 ?_
      refine g_iand C dX5_sure_101 ?_
      refine g_putI C Kf cl_X5 (qF_X5_9 hK0) (by decide) rfl rfl rfl dX5_sure_102 kf_X5_60 hf (fun σ_25 hf => ?_)
      refine g_iload C 2 dX5_sure_105 rfl ?_
      exact g_iretP C Kf hR dX5_sure_107 hf
    · refine g_aload_n C 0 dX5_sure_88 rfl ?_
      refine g_iconst (v := 4) C dX5_sure_89 (by decide) ?_
      obtain ⟨r_27, σ_28, h_26, hf⟩ := b2_some hf
      refine g_cV_i C Kf [.int 4] (mX5_found hK0 X.1.2.1 σ 4 r_27 σ_28 h_26) mi_X5_found (qO_X5 hK0) rfl km_X5_74 ⟨rfl, rfl, by decide, by decide⟩ rfl rfl (Nat.le_of_ble_eq_true rfl) dX5_sure_90 ?_
      exact g_iretP C Kf hR dX5_sure_93 hf
  · refine g_iload_n C 0 dX5_sure_11 rfl ?_
    exact g_iretP C Kf hR dX5_sure_12 hf
abbrev rmX5_tear : Room := { frames := 3, cells := 0, slots := 0, locals := 63 }
set_option maxHeartbeats 4000000 in
set_option maxRecDepth 100000 in
theorem mX5_tear {K : Kx} (hK0 : isKC K) (l : Launch) (σ : St) (x1 : Int32)  (r : Int32) (σ' : St) (hf : f5_tear σ x1 = some (r, σ')) : mC K l yX5_tear cX5_tear 3 (some .int) rmX5_tear [.ref (K.2.1 0), .int x1] σ (some (.int r)) σ' := by
  refine g_entry (own := RX5) rfl (by decide +kernel) (Nat.le_of_ble_eq_true rfl) (fun X hX C Kf hR => ?_)
  subst hX
  unfold f5_tear at hf
  show gG X σ 0 [(0, .ref (K.2.1 0)), (1, .int x1)] []
  refine g_aload_n C 0 dX5_tear_0 rfl ?_
  refine g_iload_n C 1 dX5_tear_1 rfl ?_
  obtain ⟨r_2, σ_3, h_1, hf⟩ := b2_some hf
  refine g_cV_i C Kf [.int x1] (mX5_refusedRow hK0 X.1.2.1 σ x1 r_2 σ_3 h_1) mi_X5_refusedRow (qO_X5 hK0) rfl km_X5_92 ⟨rfl, rfl, by decide, by decide⟩ rfl rfl (Nat.le_of_ble_eq_true rfl) dX5_tear_2 ?_
  refine g_istore_n C [(2, .int r_2), (0, .ref (K.2.1 0)), (1, .int x1)] dX5_tear_5 rfl (by decide) rfl ?_
  refine g_iload_n C 0 dX5_tear_6 rfl ?_
  refine g_if_eq C 12 dX5_tear_7 (by decide) hf (fun hf => ?_) (fun hf => ?_)
  · refine g_aload_n C 1 dX5_tear_12 rfl ?_
    refine g_getR C Kf cl_X5 (qF_X5_0 hK0) (by decide) dX5_tear_13 kf_X5_14 ?_
    refine g_iload_n C 2 dX5_tear_16 rfl ?_
    obtain ⟨σ_5, h_4, hf⟩ := b1_some hf
    refine g_cVN_v C Kf [.int x1] (mX3_remove hK0 X.1.2.1 σ_3 1 x1 (sh_1) σ_5 h_4) mi_X3_remove (qO_X3 hK0 sh_1) rfl km_X5_95 ⟨rfl, rfl, by decide, by decide⟩ rfl rfl (Nat.le_of_ble_eq_true rfl) dX5_tear_17 ?_
    refine g_iconst (v := 1) C dX5_tear_20 (by decide) ?_
    exact g_iretP C Kf hR dX5_tear_21 hf
  · refine g_iload_n C 0 dX5_tear_10 rfl ?_
    exact g_iretP C Kf hR dX5_tear_11 hf
abbrev rmX5_text : Room := { frames := 1, cells := 0, slots := 0, locals := 24 }
set_option maxHeartbeats 4000000 in
set_option maxRecDepth 100000 in
theorem mX5_text {K : Kx} (hK0 : isKC K) (l : Launch) (σ : St) (x1 : Int32) (x2 : Int32)  (r : Int32) (σ' : St) (hf : f5_text σ x1 x2 = some (r, σ')) : mC K l yX5_text cX5_text 3 (some .int) rmX5_text [.ref (K.2.1 0), .int x1, .int x2] σ (some (.int r)) σ' := by
  refine g_entry (own := RX5) rfl (by decide +kernel) (Nat.le_of_ble_eq_true rfl) (fun X hX C Kf hR => ?_)
  subst hX
  unfold f5_text at hf
  show gG X σ 0 [(0, .ref (K.2.1 0)), (1, .int x1), (2, .int x2)] []
  refine g_iload_n C 1 dX5_text_0 rfl ?_
  obtain ⟨r_2, h_1, hf⟩ := b1_some hf
  refine g_cS_i C Kf [.int x1] (mX5_isText hK0 X.1.2.1 σ x1 r_2 h_1) mi_X5_isText km_X5_109 ⟨rfl, rfl, by decide, by decide⟩ rfl rfl (Nat.le_of_ble_eq_true rfl) dX5_text_1 ?_
  refine g_if_eq C 13 dX5_text_4 (by decide) hf (fun hf => ?_) (fun hf => ?_)
  · refine g_iconst (v := (-1)) C dX5_text_13 (by decide) ?_
    exact g_iretP C Kf hR dX5_text_14 hf
  · refine g_iload_n C 2 dX5_text_7 rfl ?_
    refine g_bipush (v := 60) C dX5_text_8 (by decide) ?_
    refine g_icmp_le C 15 dX5_text_10 (by decide) hf (fun hf => ?_) (fun hf => ?_)
    · refine g_iload_n C 2 dX5_text_15 rfl ?_
      refine g_if_ge C 25 dX5_text_16 (by decide) hf (fun hf => ?_) (fun hf => ?_)
      · refine g_aload_n C 0 dX5_text_25 rfl ?_
        refine g_getR C Kf cl_X5 (qF_X5_1 hK0) (by decide) dX5_text_26 kf_X5_18 ?_
        refine g_iload_n C 1 dX5_text_29 rfl ?_
        refine g_iload_n C 2 dX5_text_30 rfl ?_
        refine g_bipush (v := 32) C dX5_text_31 (by decide) ?_
        obtain ⟨σ_4, h_3, hf⟩ := b1_some hf
        refine g_cVN_v C Kf [.int x1, .int x2, .int 32] (mX3_make hK0 X.1.2.1 σ 4 x1 x2 32 (sh_4) σ_4 h_3) mi_X3_make (qO_X3 hK0 sh_4) rfl km_X5_78 ⟨rfl, rfl, by decide, by decide⟩ rfl rfl (Nat.le_of_ble_eq_true rfl) dX5_text_33 ?_
        refine g_iload_n C 2 dX5_text_36 rfl ?_
        exact g_iretP C Kf hR dX5_text_37 hf
      · refine g_aload_n C 0 dX5_text_19 rfl ?_
        refine g_iconst (v := 5) C dX5_text_20 (by decide) ?_
        obtain ⟨r_6, σ_7, h_5, hf⟩ := b2_some hf
        refine g_cV_i C Kf [.int 5] (mX5_found hK0 X.1.2.1 σ 5 r_6 σ_7 h_5) mi_X5_found (qO_X5 hK0) rfl km_X5_74 ⟨rfl, rfl, by decide, by decide⟩ rfl rfl (Nat.le_of_ble_eq_true rfl) dX5_text_21 ?_
        exact g_iretP C Kf hR dX5_text_24 hf
    · refine g_iconst (v := (-1)) C dX5_text_13 (by decide) ?_
      exact g_iretP C Kf hR dX5_text_14 hf
