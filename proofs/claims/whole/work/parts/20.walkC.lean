abbrev rmX1_figureOf : Room := { frames := 0, cells := 0, slots := 0, locals := 0 }
set_option maxHeartbeats 4000000 in
set_option maxRecDepth 100000 in
theorem mX1_figureOf {K : Kx} (hK0 : isKC K) (l : Launch) (σ : St) (x1 : Int32) (x2 : Int32)  (r : Int32) (hf : f1_figureOf σ x1 x2 = some r) : mC K l yX1_figureOf cX1_figureOf 3 (some .int) rmX1_figureOf [.ref (K.2.1 13), .int x1, .int x2] σ (some (.int r)) σ := by
  refine g_entry (own := RX1) rfl (by decide +kernel) (Nat.le_of_ble_eq_true rfl) (fun X hX C Kf hR => ?_)
  subst hX
  unfold f1_figureOf at hf
  show gG X σ 0 [(0, .ref (K.2.1 13)), (1, .int x1), (2, .int x2)] []
  refine g_aload_n C 0 dX1_figureOf_0 rfl ?_
  refine g_getR C Kf cl_X1 (qF_X1_2 hK0) (by decide) dX1_figureOf_1 kf_X1_18 ?_
  refine g_iload_n C 1 dX1_figureOf_4 rfl ?_
  refine g_iconst (v := 3) C dX1_figureOf_5 (by decide) ?_
  refine g_imul C dX1_figureOf_6 ?_
  refine g_iload_n C 2 dX1_figureOf_7 rfl ?_
  refine g_iadd C dX1_figureOf_8 ?_
  refine g_iald C Kf (qAC_16 hK0) dX1_figureOf_9 hf (fun hf => ?_)
  exact g_iretR C Kf hR dX1_figureOf_10 hf
abbrev rmX0_suppose : Room := { frames := 1, cells := 0, slots := 0, locals := 22 }
set_option maxHeartbeats 4000000 in
set_option maxRecDepth 100000 in
theorem wL0_suppose_2 {X : Gx St} {K : Kx} (hK0 : isKC K) (σ : St) (x2 : Int32) (σ' : St) (C : gF X cX0_suppose RX0 none 4 rmX0_suppose) (Kf : kF X K) (hR : gR X K none σ') (k : St → Option (St)) (Hk : ∀ (σ_7 : St), k σ_7 = some σ' → gG X σ_7 25 [] []) : ∀ (n : Nat) (x3_1 : Int32) (σ_2 : St), L0_suppose_2 x2 k n x3_1 σ_2 = some σ' → gG X σ_2 2 [(0, .ref (K.2.1 31)), (1, .ref (K.2.1 13)), (2, .int x2), (3, .int x3_1)] [] := by
  intro n
  induction n with
  | zero => intro _ _ hf; unfold L0_suppose_2 at hf; cases hf
  | succ n ih =>
  intro x3_1 σ_2 hf
  unfold L0_suppose_2 at hf
  refine g_iload_n C 3 dX0_suppose_2 rfl ?_
  refine g_iconst (v := 3) C dX0_suppose_3 (by decide) ?_
  refine g_icmp_ge C 25 dX0_suppose_4 (by decide) hf (fun hf => ?_) (fun hf => ?_)
  · refine g_cut [] rfl ?_
    exact Hk _ hf
  · refine g_aload_n C 0 dX0_suppose_7 rfl ?_
    refine g_getR C Kf cl_X0 (qF_X0_0 hK0) (by decide) dX0_suppose_8 kf_X0_9 ?_
    refine g_iload_n C 3 dX0_suppose_11 rfl ?_
    refine g_aload_n C 1 dX0_suppose_12 rfl ?_
    refine g_iload_n C 2 dX0_suppose_13 rfl ?_
    refine g_iload_n C 3 dX0_suppose_14 rfl ?_
    obtain ⟨r_4, h_3, hf⟩ := b1_some hf
    refine g_cVN_i C Kf [.int x2, .int x3_1] (mX1_figureOf hK0 X.1.2.1 σ_2 x2 x3_1 r_4 h_3) mi_X1_figureOf (qO_X1 hK0) rfl km_X0_45 ⟨rfl, rfl, by decide, by decide⟩ rfl rfl (Nat.le_of_ble_eq_true rfl) dX0_suppose_15 ?_
    refine g_iast C Kf (qAC_32 hK0) dX0_suppose_18 hf (fun σ_5 hf => ?_)
    refine g_iinc (d := 1) C 3 (fun x3_6 => [(3, .int x3_6), (0, .ref (K.2.1 31)), (1, .ref (K.2.1 13)), (2, .int x2)]) dX0_suppose_19 rfl (by decide) (by decide) (fun _ => rfl) hf (fun x3_6 hf => ?_)
    refine g_goto C 2 dX0_suppose_22 (by decide) ?_
    refine g_cut [1, 2, 3, 0] rfl ?_
    exact ih _ _ hf
set_option maxHeartbeats 4000000 in
set_option maxRecDepth 100000 in
theorem mX0_suppose {K : Kx} (hK0 : isKC K) (l : Launch) (σ : St) (x2 : Int32)  (σ' : St) (hf : f0_suppose σ x2 = some σ') : mC K l yX0_suppose cX0_suppose 4 none rmX0_suppose [.ref (K.2.1 31), .ref (K.2.1 13), .int x2] σ none σ' := by
  refine g_entry (own := RX0) rfl (by decide +kernel) (Nat.le_of_ble_eq_true rfl) (fun X hX C Kf hR => ?_)
  subst hX
  unfold f0_suppose at hf
  show gG X σ 0 [(0, .ref (K.2.1 31)), (1, .ref (K.2.1 13)), (2, .int x2)] []
  refine g_iconst (v := 0) C dX0_suppose_0 (by decide) ?_
  refine g_istore_n C [(3, .int 0), (0, .ref (K.2.1 31)), (1, .ref (K.2.1 13)), (2, .int x2)] dX0_suppose_1 rfl (by decide) rfl ?_
  refine g_cut [1, 2, 3, 0] rfl ?_
  refine wL0_suppose_2 hK0 σ x2 _ C Kf hR _ (fun σ_8 hf => ?_) _ _ _ hf
  exact g_vretP C Kf hR dX0_suppose_25 hf
abbrev rmX3_sizeOf : Room := { frames := 0, cells := 0, slots := 0, locals := 0 }
set_option maxHeartbeats 4000000 in
set_option maxRecDepth 100000 in
theorem mX3_sizeOf {K : Kx} (hK0 : isKC K) (l : Launch) (σ : St) (c0 : Nat) (x1 : Int32) (hc0 : shC c0) (r : Int32) (hf : f3_sizeOf σ c0 x1 = some r) : mC K l yX3_sizeOf cX3_sizeOf 2 (some .int) rmX3_sizeOf [.ref (K.2.1 c0), .int x1] σ (some (.int r)) σ := by
  refine g_entry (own := RX3) rfl (by decide +kernel) (Nat.le_of_ble_eq_true rfl) (fun X hX C Kf hR => ?_)
  subst hX
  unfold f3_sizeOf at hf
  show gG X σ 0 [(0, .ref (K.2.1 c0)), (1, .int x1)] []
  refine g_iload_n C 1 dX3_sizeOf_0 rfl ?_
  refine g_if_lt C 22 dX3_sizeOf_1 (by decide) hf (fun hf => ?_) (fun hf => ?_)
  · refine g_iconst (v := (-1)) C dX3_sizeOf_22 (by decide) ?_
    exact g_iretR C Kf hR dX3_sizeOf_23 hf
  · refine g_iload_n C 1 dX3_sizeOf_4 rfl ?_
    refine g_aload_n C 0 dX3_sizeOf_5 rfl ?_
    refine g_getR C Kf cl_X3 (qF_X3_1 hK0 hc0) (by decide) dX3_sizeOf_6 kf_X3_17 ?_
    refine g_alen (v := Int32.ofNat (lnC (c0 + 2))) C Kf (qAC hK0 (lnC_sh2 hc0)) rfl dX3_sizeOf_9 ?_
    refine g_icmp_ge C 22 dX3_sizeOf_10 (by decide) hf (fun hf => ?_) (fun hf => ?_)
    · refine g_iconst (v := (-1)) C dX3_sizeOf_22 (by decide) ?_
      exact g_iretR C Kf hR dX3_sizeOf_23 hf
    · refine g_aload_n C 0 dX3_sizeOf_13 rfl ?_
      refine g_getR C Kf cl_X3 (qF_X3_1 hK0 hc0) (by decide) dX3_sizeOf_14 kf_X3_17 ?_
      refine g_iload_n C 1 dX3_sizeOf_17 rfl ?_
      refine g_iald C Kf (qAC hK0 (lnC_sh2 hc0)) dX3_sizeOf_18 hf (fun hf => ?_)
      refine g_goto C 23 dX3_sizeOf_19 (by decide) ?_
      exact g_iretR C Kf hR dX3_sizeOf_23 hf
abbrev rmX3_spans : Room := { frames := 1, cells := 0, slots := 0, locals := 21 }
set_option maxHeartbeats 4000000 in
set_option maxRecDepth 100000 in
theorem mX3_spans {K : Kx} (hK0 : isKC K) (l : Launch) (σ : St) (c0 : Nat) (x1 : Int32) (x2 : Int32) (x3 : Int32) (hc0 : shC c0) (r : Int32) (hf : f3_spans σ c0 x1 x2 x3 = some r) : mC K l yX3_spans cX3_spans 4 (some .boolean) rmX3_spans [.ref (K.2.1 c0), .int x1, .int x2, .int x3] σ (some (.int r)) σ := by
  refine g_entry (own := RX3) rfl (by decide +kernel) (Nat.le_of_ble_eq_true rfl) (fun X hX C Kf hR => ?_)
  subst hX
  unfold f3_spans at hf
  show gG X σ 0 [(0, .ref (K.2.1 c0)), (1, .int x1), (2, .int x2), (3, .int x3)] []
  refine g_iload_n C 2 dX3_spans_0 rfl ?_
  refine g_if_lt C 32 dX3_spans_1 (by decide) hf (fun hf => ?_) (fun hf => ?_)
  · refine g_iconst (v := 0) C dX3_spans_32 (by decide) ?_
    exact g_zretR C Kf hR (Or.inl rfl) dX3_spans_33 hf
  · refine g_iload_n C 3 dX3_spans_4 rfl ?_
    refine g_if_lt C 32 dX3_spans_5 (by decide) hf (fun hf => ?_) (fun hf => ?_)
    · refine g_iconst (v := 0) C dX3_spans_32 (by decide) ?_
      exact g_zretR C Kf hR (Or.inl rfl) dX3_spans_33 hf
    · refine g_iload_n C 2 dX3_spans_8 rfl ?_
      refine g_aload_n C 0 dX3_spans_9 rfl ?_
      refine g_iload_n C 1 dX3_spans_10 rfl ?_
      obtain ⟨r_2, h_1, hf⟩ := b1_some hf
      refine g_cV_i C Kf [.int x1] (mX3_sizeOf hK0 X.1.2.1 σ c0 x1 hc0 r_2 h_1) mi_X3_sizeOf (qO_X3 hK0 hc0) rfl km_X3_27 ⟨rfl, rfl, by decide, by decide⟩ rfl rfl (Nat.le_of_ble_eq_true rfl) dX3_spans_11 ?_
      refine g_icmp_gt C 32 dX3_spans_14 (by decide) hf (fun hf => ?_) (fun hf => ?_)
      · refine g_iconst (v := 0) C dX3_spans_32 (by decide) ?_
        exact g_zretR C Kf hR (Or.inl rfl) dX3_spans_33 hf
      · refine g_iload_n C 3 dX3_spans_17 rfl ?_
        refine g_aload_n C 0 dX3_spans_18 rfl ?_
        refine g_iload_n C 1 dX3_spans_19 rfl ?_
        obtain ⟨r_4, h_3, hf⟩ := b1_some hf
        refine g_cV_i C Kf [.int x1] (mX3_sizeOf hK0 X.1.2.1 σ c0 x1 hc0 r_4 h_3) mi_X3_sizeOf (qO_X3 hK0 hc0) rfl km_X3_27 ⟨rfl, rfl, by decide, by decide⟩ rfl rfl (Nat.le_of_ble_eq_true rfl) dX3_spans_20 ?_
        refine g_iload_n C 2 dX3_spans_23 rfl ?_
        refine g_isub C dX3_spans_24 ?_
        refine g_icmp_gt C 32 dX3_spans_25 (by decide) hf (fun hf => ?_) (fun hf => ?_)
        · refine g_iconst (v := 0) C dX3_spans_32 (by decide) ?_
          exact g_zretR C Kf hR (Or.inl rfl) dX3_spans_33 hf
        · refine g_iconst (v := 1) C dX3_spans_28 (by decide) ?_
          refine g_goto C 33 dX3_spans_29 (by decide) ?_
          exact g_zretR C Kf hR (Or.inr rfl) dX3_spans_33 hf
abbrev rmX3_get : Room := { frames := 2, cells := 0, slots := 0, locals := 44 }
set_option maxHeartbeats 4000000 in
set_option maxRecDepth 100000 in
theorem mX3_get {K : Kx} (hK0 : isKC K) (l : Launch) (σ : St) (c0 : Nat) (x1 : Int32) (x2 : Int32) (hc0 : shC c0) (r : Int32) (hf : f3_get σ c0 x1 x2 = some r) : mC K l yX3_get cX3_get 3 (some .int) rmX3_get [.ref (K.2.1 c0), .int x1, .int x2] σ (some (.int r)) σ := by
  refine g_entry (own := RX3) rfl (by decide +kernel) (Nat.le_of_ble_eq_true rfl) (fun X hX C Kf hR => ?_)
  subst hX
  unfold f3_get at hf
  show gG X σ 0 [(0, .ref (K.2.1 c0)), (1, .int x1), (2, .int x2)] []
  refine g_aload_n C 0 dX3_get_0 rfl ?_
  refine g_iload_n C 1 dX3_get_1 rfl ?_
  refine g_iload_n C 2 dX3_get_2 rfl ?_
  refine g_iconst (v := 1) C dX3_get_3 (by decide) ?_
  obtain ⟨r_2, h_1, hf⟩ := b1_some hf
  refine g_cV_i C Kf [.int x1, .int x2, .int 1] (mX3_spans hK0 X.1.2.1 σ c0 x1 x2 1 hc0 r_2 h_1) mi_X3_spans (qO_X3 hK0 hc0) rfl km_X3_31 ⟨rfl, rfl, by decide, by decide⟩ rfl rfl (Nat.le_of_ble_eq_true rfl) dX3_get_4 ?_
  refine g_if_eq C 26 dX3_get_7 (by decide) hf (fun hf => ?_) (fun hf => ?_)
  · refine g_iconst (v := 0) C dX3_get_26 (by decide) ?_
    exact g_iretR C Kf hR dX3_get_27 hf
  · refine g_aload_n C 0 dX3_get_10 rfl ?_
    refine g_getR C Kf cl_X3 (qF_X3_0 hK0 hc0) (by decide) dX3_get_11 kf_X3_13 ?_
    refine g_iload_n C 1 dX3_get_14 rfl ?_
    refine g_aload_n C 0 dX3_get_15 rfl ?_
    refine g_getI C Kf cl_X3 (qF_X3_2 hK0 hc0) (by decide) dX3_get_16 kf_X3_7 ?_
    refine g_imul C dX3_get_19 ?_
    refine g_iload_n C 2 dX3_get_20 rfl ?_
    refine g_iadd C dX3_get_21 ?_
    refine g_iald C Kf (qAC hK0 (lnC_sh1 hc0)) dX3_get_22 hf (fun hf => ?_)
    refine g_goto C 27 dX3_get_23 (by decide) ?_
    exact g_iretR C Kf hR dX3_get_27 hf
abbrev rmX5_wornBy : Room := { frames := 1, cells := 0, slots := 0, locals := 21 }
set_option maxHeartbeats 4000000 in
set_option maxRecDepth 100000 in
theorem mX5_wornBy {K : Kx} (hK0 : isKC K) (l : Launch) (σ : St) (x0 : Int32) (x1 : Int32)  (r : Int32) (hf : f5_wornBy x0 x1 = some r) : mC K l yX5_wornBy cX5_wornBy 2 (some .int) rmX5_wornBy [.int x0, .int x1] σ (some (.int r)) σ := by
  refine g_entry (own := RX5) rfl (by decide +kernel) (Nat.le_of_ble_eq_true rfl) (fun X hX C Kf hR => ?_)
  subst hX
  unfold f5_wornBy at hf
  show gG X σ 0 [(0, .int x0), (1, .int x1)] []
  refine g_iconst (v := 0) C dX5_wornBy_0 (by decide) ?_
  refine g_iload_n C 0 dX5_wornBy_1 rfl ?_
  refine g_iload_n C 1 dX5_wornBy_2 rfl ?_
  refine g_iconst (v := 4) C dX5_wornBy_3 (by decide) ?_
  refine g_idiv0 C dX5_wornBy_4 (by decide) ?_
  refine g_isub C dX5_wornBy_5 ?_
  refine g_max C dX5_wornBy_6 km_X5_309 kmath_max ⟨Nat.le_of_ble_eq_true rfl, Nat.le_of_ble_eq_true rfl⟩ ?_
  exact g_iretR C Kf hR dX5_wornBy_9 hf
abbrev rmX5_doubled : Room := { frames := 0, cells := 0, slots := 0, locals := 0 }
set_option maxHeartbeats 4000000 in
set_option maxRecDepth 100000 in
theorem mX5_doubled {K : Kx} (hK0 : isKC K) (l : Launch) (σ : St) (a0 : Nat) (x1 : Int32) (x2 : Int32) (ha0 : 0 < lnC a0) (r : Int32) (hf : f5_doubled σ a0 x1 x2 = some r) : mC K l yX5_doubled cX5_doubled 5 (some .int) rmX5_doubled [.ref (K.2.1 a0), .int x1, .int x2] σ (some (.int r)) σ := by
  refine g_entry (own := RX5) rfl (by decide +kernel) (Nat.le_of_ble_eq_true rfl) (fun X hX C Kf hR => ?_)
  subst hX
  unfold f5_doubled at hf
  show gG X σ 0 [(0, .ref (K.2.1 a0)), (1, .int x1), (2, .int x2)] []
  refine g_aload_n C 0 dX5_doubled_0 rfl ?_
  refine g_iload_n C 1 dX5_doubled_1 rfl ?_
  refine g_iload_n C 2 dX5_doubled_2 rfl ?_
  refine g_iadd C dX5_doubled_3 ?_
  refine g_iald C Kf (qAC hK0 ha0) dX5_doubled_4 hf (fun hf => ?_)
  refine g_istore_nB C (fun x3_1 => [(3, .int x3_1), (0, .ref (K.2.1 a0)), (1, .int x1), (2, .int x2)]) dX5_doubled_5 rfl (by decide) (fun _ => rfl) hf (fun x3_1 hf => ?_)
  refine g_aload_n C 1 dX5_doubled_6 rfl ?_
  refine g_iload_n C 2 dX5_doubled_7 rfl ?_
  refine g_iload_n C 3 dX5_doubled_8 rfl ?_
  refine g_iconst (v := 1) C dX5_doubled_9 (by decide) ?_
  refine g_iadd C dX5_doubled_10 ?_
  refine g_iconst (v := 3) C dX5_doubled_11 (by decide) ?_
  refine g_irem0 C dX5_doubled_12 (by decide) ?_
  refine g_iadd C dX5_doubled_13 ?_
  refine g_iald C Kf (qAC hK0 ha0) dX5_doubled_14 hf (fun hf => ?_)
  refine g_istoreB C (fun x4_2 => [(4, .int x4_2), (3, .int x3_1), (0, .ref (K.2.1 a0)), (1, .int x1), (2, .int x2)]) dX5_doubled_15 (by decide) (fun _ => rfl) hf (fun x4_2 hf => ?_)
  refine g_iload_n C 1 dX5_doubled_17 rfl ?_
  refine g_iload C 0 dX5_doubled_18 rfl ?_
  refine g_icmp_le C 27 dX5_doubled_20 (by decide) hf (fun hf => ?_) (fun hf => ?_)
  · refine g_iload C 0 dX5_doubled_27 rfl ?_
    exact g_iretR C Kf hR dX5_doubled_29 hf
  · refine g_iload_n C 1 dX5_doubled_23 rfl ?_
    refine g_goto C 29 dX5_doubled_24 (by decide) ?_
    exact g_iretR C Kf hR dX5_doubled_29 hf
abbrev rmX5_reading : Room := { frames := 2, cells := 0, slots := 0, locals := 42 }
set_option maxHeartbeats 4000000 in
set_option maxRecDepth 100000 in
theorem mX5_reading {K : Kx} (hK0 : isKC K) (l : Launch) (σ : St) (x0 : Int32) (a1 : Nat) (x2 : Int32) (x3 : Int32) (x4 : Int32) (ha1 : 0 < lnC a1) (r : Int32) (hf : f5_reading σ x0 a1 x2 x3 x4 = some r) : mC K l yX5_reading cX5_reading 7 (some .int) rmX5_reading [.int x0, .ref (K.2.1 a1), .int x2, .int x3, .int x4] σ (some (.int r)) σ := by
  refine g_entry (own := RX5) rfl (by decide +kernel) (Nat.le_of_ble_eq_true rfl) (fun X hX C Kf hR => ?_)
  subst hX
  unfold f5_reading at hf
  show gG X σ 0 [(0, .int x0), (1, .ref (K.2.1 a1)), (2, .int x2), (3, .int x3), (4, .int x4)] []
  refine g_aload_n C 1 dX5_reading_0 rfl ?_
  refine g_iload_n C 2 dX5_reading_1 rfl ?_
  refine g_iload_n C 3 dX5_reading_2 rfl ?_
  refine g_iadd C dX5_reading_3 ?_
  refine g_iald C Kf (qAC hK0 ha1) dX5_reading_4 hf (fun hf => ?_)
  refine g_istoreB C (fun x5_1 => [(5, .int x5_1), (0, .int x0), (1, .ref (K.2.1 a1)), (2, .int x2), (3, .int x3), (4, .int x4)]) dX5_reading_5 (by decide) (fun _ => rfl) hf (fun x5_1 hf => ?_)
  refine g_iload_n C 1 dX5_reading_7 rfl ?_
  by_cases hs_2 : x0 = 1
  · rw [if_pos hs_2] at hf
    refine g_tabIn C 44 hs_2 dX5_reading_8 (by decide) (by decide) rfl (by decide) ?_
    refine g_aload_n C 2 dX5_reading_44 rfl ?_
    refine g_iload_n C 3 dX5_reading_45 rfl ?_
    refine g_iconst (v := 3) C dX5_reading_46 (by decide) ?_
    refine g_iadd C dX5_reading_47 ?_
    refine g_iconst (v := 1) C dX5_reading_48 (by decide) ?_
    refine g_isub C dX5_reading_49 ?_
    refine g_iload_n C 4 dX5_reading_50 rfl ?_
    refine g_isub C dX5_reading_51 ?_
    refine g_iald C Kf (qAC hK0 ha1) dX5_reading_52 hf (fun hf => ?_)
    exact g_iretR C Kf hR dX5_reading_53 hf
  · rw [if_neg hs_2] at hf
    by_cases hs_3 : x0 = 2
    · rw [if_pos hs_3] at hf
      refine g_tabIn C 54 hs_3 dX5_reading_8 (by decide) (by decide) rfl (by decide) ?_
      refine g_iload C 0 dX5_reading_54 rfl ?_
      refine g_iload C 5 dX5_reading_56 rfl ?_
      obtain ⟨r_8, h_7, hf⟩ := b1_some hf
      refine g_cS_i C Kf [.int x5_1, .int x4] (mX5_wornBy hK0 X.1.2.1 σ x5_1 x4 r_8 h_7) mi_X5_wornBy km_X5_303 ⟨rfl, rfl, by decide, by decide⟩ rfl rfl (Nat.le_of_ble_eq_true rfl) dX5_reading_58 ?_
      exact g_iretR C Kf hR dX5_reading_61 hf
    · rw [if_neg hs_3] at hf
      by_cases hs_4 : x0 = 3
      · rw [if_pos hs_4] at hf
        refine g_tabIn C 62 hs_4 dX5_reading_8 (by decide) (by decide) rfl (by decide) ?_
        refine g_aload_n C 2 dX5_reading_62 rfl ?_
        refine g_iload_n C 3 dX5_reading_63 rfl ?_
        refine g_iload_n C 4 dX5_reading_64 rfl ?_
        obtain ⟨r_10, h_9, hf⟩ := b1_some hf
        refine g_cS_i C Kf [.ref (K.2.1 a1), .int x2, .int x3] (mX5_doubled hK0 X.1.2.1 σ a1 x2 x3 (ha1) r_10 h_9) mi_X5_doubled km_X5_306 ⟨rfl, rfl, by decide, by decide⟩ rfl rfl (Nat.le_of_ble_eq_true rfl) dX5_reading_65 ?_
        exact g_iretR C Kf hR dX5_reading_68 hf
      · rw [if_neg hs_4] at hf
        by_cases hs_5 : x0 = 4
        · rw [if_pos hs_5] at hf
          refine g_tabIn C 69 hs_5 dX5_reading_8 (by decide) (by decide) rfl (by decide) ?_
          refine g_iload C 0 dX5_reading_69 rfl ?_
          refine g_if_ne C 79 dX5_reading_71 (by decide) hf (fun hf => ?_) (fun hf => ?_)
          · refine g_iload C 0 dX5_reading_79 rfl ?_
            refine g_iload C 5 dX5_reading_81 rfl ?_
            obtain ⟨r_12, h_11, hf⟩ := b1_some hf
            refine g_cS_i C Kf [.int x5_1, .int x4] (mX5_wornBy hK0 X.1.2.1 σ x5_1 x4 r_12 h_11) mi_X5_wornBy km_X5_303 ⟨rfl, rfl, by decide, by decide⟩ rfl rfl (Nat.le_of_ble_eq_true rfl) dX5_reading_83 ?_
            exact g_iretR C Kf hR dX5_reading_86 hf
          · refine g_bipush (v := 10) C dX5_reading_74 (by decide) ?_
            refine g_goto C 86 dX5_reading_76 (by decide) ?_
            exact g_iretR C Kf hR dX5_reading_86 hf
        · rw [if_neg hs_5] at hf
          by_cases hs_6 : x0 = 5
          · rw [if_pos hs_6] at hf
            refine g_tabIn C 87 hs_6 dX5_reading_8 (by decide) (by decide) rfl (by decide) ?_
            refine g_aload_n C 2 dX5_reading_87 rfl ?_
            refine g_iload_n C 3 dX5_reading_88 rfl ?_
            refine g_iload_n C 4 dX5_reading_89 rfl ?_
            obtain ⟨r_14, h_13, hf⟩ := b1_some hf
            refine g_cS_i C Kf [.ref (K.2.1 a1), .int x2, .int x3] (mX5_doubled hK0 X.1.2.1 σ a1 x2 x3 (ha1) r_14 h_13) mi_X5_doubled km_X5_306 ⟨rfl, rfl, by decide, by decide⟩ rfl rfl (Nat.le_of_ble_eq_true rfl) dX5_reading_90 ?_
            refine g_istore C [(6, .int r_14), (5, .int x5_1), (0, .int x0), (1, .ref (K.2.1 a1)), (2, .int x2), (3, .int x3), (4, .int x4)] dX5_reading_93 (by decide) rfl ?_
            refine g_iload C 0 dX5_reading_95 rfl ?_
            refine g_bipush (v := 9) C dX5_reading_97 (by decide) ?_
            refine g_icmp_ne C 106 dX5_reading_99 (by decide) hf (fun hf => ?_) (fun hf => ?_)
            · refine g_iload C 0 dX5_reading_106 rfl ?_
              exact g_iretR C Kf hR dX5_reading_108 hf
            · refine g_iconst (v := 0) C dX5_reading_102 (by decide) ?_
              refine g_goto C 108 dX5_reading_103 (by decide) ?_
              exact g_iretR C Kf hR dX5_reading_108 hf
          · rw [if_neg hs_6] at hf
            refine g_tabOut C 109 dX5_reading_8 (by have ehs_2 := sw_ne (n := 1) (by decide) hs_2; have ehs_3 := sw_ne (n := 2) (by decide) hs_3; have ehs_4 := sw_ne (n := 3) (by decide) hs_4; have ehs_5 := sw_ne (n := 4) (by decide) hs_5; have ehs_6 := sw_ne (n := 5) (by decide) hs_6; omega) (by decide) ?_
            refine g_iload C 0 dX5_reading_109 rfl ?_
            exact g_iretR C Kf hR dX5_reading_111 hf
abbrev rmX0_fits : Room := { frames := 3, cells := 0, slots := 0, locals := 68 }
set_option maxHeartbeats 4000000 in
set_option maxRecDepth 100000 in
theorem wL0_fits_3 {X : Gx St} {K : Kx} (hK0 : isKC K) (σ : St) (x1 : Int32) (x2 : Int32) (x4 : Int32) (r : Int32) (C : gF X cX0_fits RX0 (some .boolean) 6 rmX0_fits) (Kf : kF X K) (hR : gR X K (some (.int r)) σ) (k : Option (Int32)) (Hk : k = some r → gG X σ 55 [] []) : ∀ (n : Nat) (x5_1 : Int32), L0_fits_3 σ x1 x2 x4 k n x5_1 = some r → gG X σ 3 [(0, .ref (K.2.1 31)), (1, .int x1), (2, .int x2), (3, .ref (K.2.1 1)), (4, .int x4), (5, .int x5_1)] [] := by
  intro n
  induction n with
  | zero => intro _ hf; unfold L0_fits_3 at hf; cases hf
  | succ n ih =>
  intro x5_1 hf
  unfold L0_fits_3 at hf
  refine g_iload C 5 dX0_fits_3 rfl ?_
  refine g_iconst (v := 1) C dX0_fits_5 (by decide) ?_
  refine g_iadd C dX0_fits_6 ?_
  refine g_aload_n C 3 dX0_fits_7 rfl ?_
  refine g_iload C 4 dX0_fits_8 rfl ?_
  obtain ⟨r_3, h_2, hf⟩ := b1_some hf
  refine g_cVN_i C Kf [.int x4] (mX3_sizeOf hK0 X.1.2.1 σ 1 x4 (sh_1) r_3 h_2) mi_X3_sizeOf (qO_X3 hK0 sh_1) rfl km_X0_48 ⟨rfl, rfl, by decide, by decide⟩ rfl rfl (Nat.le_of_ble_eq_true rfl) dX0_fits_10 ?_
  refine g_icmp_ge C 55 dX0_fits_13 (by decide) hf (fun hf => ?_) (fun hf => ?_)
  · refine g_cut [] rfl ?_
    exact Hk hf
  · refine g_iload_n C 1 dX0_fits_16 rfl ?_
    refine g_aload_n C 0 dX0_fits_17 rfl ?_
    refine g_getR C Kf cl_X0 (qF_X0_0 hK0) (by decide) dX0_fits_18 kf_X0_9 ?_
    refine g_iconst (v := 0) C dX0_fits_21 (by decide) ?_
    refine g_aload_n C 3 dX0_fits_22 rfl ?_
    refine g_iload C 4 dX0_fits_23 rfl ?_
    refine g_iload C 5 dX0_fits_25 rfl ?_
    obtain ⟨r_5, h_4, hf⟩ := b1_some hf
    refine g_cVN_i C Kf [.int x4, .int x5_1] (mX3_get hK0 X.1.2.1 σ 1 x4 x5_1 (sh_1) r_5 h_4) mi_X3_get (qO_X3 hK0 sh_1) rfl km_X0_54 ⟨rfl, rfl, by decide, by decide⟩ rfl rfl (Nat.le_of_ble_eq_true rfl) dX0_fits_27 ?_
    refine g_iload_n C 2 dX0_fits_30 rfl ?_
    obtain ⟨r_7, h_6, hf⟩ := b1_some hf
    refine g_cSN_i C Kf [.int x1, .ref (K.2.1 32), .int 0, .int r_5, .int x2] (mX5_reading hK0 X.1.2.1 σ x1 32 0 r_5 x2 (by decide) r_7 h_6) mi_X5_reading km_X0_35 ⟨rfl, rfl, by decide, by decide⟩ rfl rfl (Nat.le_of_ble_eq_true rfl) dX0_fits_31 ?_
    refine g_aload_n C 3 dX0_fits_34 rfl ?_
    refine g_iload C 4 dX0_fits_35 rfl ?_
    refine g_iload C 5 dX0_fits_37 rfl ?_
    refine g_iconst (v := 1) C dX0_fits_39 (by decide) ?_
    refine g_iadd C dX0_fits_40 ?_
    obtain ⟨r_9, h_8, hf⟩ := b1_some hf
    refine g_cVN_i C Kf [.int x4, .int (x5_1 + 1)] (mX3_get hK0 X.1.2.1 σ 1 x4 (x5_1 + 1) (sh_1) r_9 h_8) mi_X3_get (qO_X3 hK0 sh_1) rfl km_X0_54 ⟨rfl, rfl, by decide, by decide⟩ rfl rfl (Nat.le_of_ble_eq_true rfl) dX0_fits_41 ?_
    refine g_icmp_eq C 49 dX0_fits_44 (by decide) hf (fun hf => ?_) (fun hf => ?_)
    · refine g_iinc (d := 2) C 5 (fun x5_10 => [(5, .int x5_10), (0, .ref (K.2.1 31)), (1, .int x1), (2, .int x2), (3, .ref (K.2.1 1)), (4, .int x4)]) dX0_fits_49 rfl (by decide) (by decide) (fun _ => rfl) hf (fun x5_10 hf => ?_)
      refine g_goto C 3 dX0_fits_52 (by decide) ?_
      refine g_cut [1, 2, 3, 4, 5, 0] rfl ?_
      exact ih _ hf
    · refine g_iconst (v := 0) C dX0_fits_47 (by decide) ?_
      exact g_zretR C Kf hR (Or.inl rfl) dX0_fits_48 hf
set_option maxHeartbeats 4000000 in
set_option maxRecDepth 100000 in
theorem mX0_fits {K : Kx} (hK0 : isKC K) (l : Launch) (σ : St) (x1 : Int32) (x2 : Int32) (x4 : Int32)  (r : Int32) (hf : f0_fits σ x1 x2 x4 = some r) : mC K l yX0_fits cX0_fits 6 (some .boolean) rmX0_fits [.ref (K.2.1 31), .int x1, .int x2, .ref (K.2.1 1), .int x4] σ (some (.int r)) σ := by
  refine g_entry (own := RX0) rfl (by decide +kernel) (Nat.le_of_ble_eq_true rfl) (fun X hX C Kf hR => ?_)
  subst hX
  unfold f0_fits at hf
  show gG X σ 0 [(0, .ref (K.2.1 31)), (1, .int x1), (2, .int x2), (3, .ref (K.2.1 1)), (4, .int x4)] []
  refine g_iconst (v := 0) C dX0_fits_0 (by decide) ?_
  refine g_istore C [(5, .int 0), (0, .ref (K.2.1 31)), (1, .int x1), (2, .int x2), (3, .ref (K.2.1 1)), (4, .int x4)] dX0_fits_1 (by decide) rfl ?_
  refine g_cut [1, 2, 3, 4, 5, 0] rfl ?_
  refine wL0_fits_3 hK0 σ x1 x2 x4 _ C Kf hR _ (fun  hf => ?_) _ _ hf
  refine g_iconst (v := 1) C dX0_fits_55 (by decide) ?_
  exact g_zretR C Kf hR (Or.inr rfl) dX0_fits_56 hf
abbrev rmX0_figuresOf : Room := { frames := 4, cells := 0, slots := 0, locals := 93 }
set_option maxHeartbeats 4000000 in
set_option maxRecDepth 100000 in
theorem wL0_figuresOf_12 {X : Gx St} {K : Kx} (hK0 : isKC K) (σ : St) (x2 : Int32) (x3 : Int32) (x5 : Int32) (r : Int32) (σ' : St) (C : gF X cX0_figuresOf RX0 (some .int) 8 rmX0_figuresOf) (Kf : kF X K) (hR : gR X K (some (.int r)) σ') (k : Int32 → St → Option (Int32 × St)) (Hk : ∀ (x6_6 : Int32) (σ_16 : St), k x6_6 σ_16 = some (r, σ') → gG X σ_16 63 [(6, .int x6_6)] []) : ∀ (n : Nat) (x6_3 : Int32) (x7_4 : Int32) (σ_5 : St), L0_figuresOf_12 x2 x3 x5 k n x6_3 x7_4 σ_5 = some (r, σ') → gG X σ_5 12 [(0, .ref (K.2.1 31)), (1, .ref (K.2.1 13)), (2, .int x2), (3, .int x3), (4, .ref (K.2.1 1)), (5, .int x5), (6, .int x6_3), (7, .int x7_4)] [] := by
  intro n
  induction n with
  | zero => intro _ _ _ hf; unfold L0_figuresOf_12 at hf; cases hf
  | succ n ih =>
  intro x6_3 x7_4 σ_5 hf
  unfold L0_figuresOf_12 at hf
  refine g_iload C 7 dX0_figuresOf_12 rfl ?_
  refine g_bipush (v := 10) C dX0_figuresOf_14 (by decide) ?_
  refine g_icmp_ge C 63 dX0_figuresOf_16 (by decide) hf (fun hf => ?_) (fun hf => ?_)
  · refine g_cut [6] rfl ?_
    exact Hk _ _ hf
  · refine g_aload_n C 0 dX0_figuresOf_19 rfl ?_
    refine g_getR C Kf cl_X0 (qF_X0_0 hK0) (by decide) dX0_figuresOf_20 kf_X0_9 ?_
    refine g_iload_n C 3 dX0_figuresOf_23 rfl ?_
    refine g_iload C 7 dX0_figuresOf_24 rfl ?_
    refine g_iast C Kf (qAC_32 hK0) dX0_figuresOf_26 hf (fun σ_7 hf => ?_)
    refine g_aload_n C 0 dX0_figuresOf_27 rfl ?_
    refine g_aload_n C 1 dX0_figuresOf_28 rfl ?_
    refine g_getRN C Kf cl_X1 (qF_X1_0 hK0) (by decide) dX0_figuresOf_29 kf_X0_32 ?_
    refine g_iload_n C 2 dX0_figuresOf_32 rfl ?_
    refine g_iald C Kf (qAC_14 hK0) dX0_figuresOf_33 hf (fun hf => ?_)
    refine g_aload_n C 1 dX0_figuresOf_34 rfl ?_
    refine g_getIN C Kf cl_X1 (qF_X1_8 hK0) (by decide) dX0_figuresOf_35 kf_X0_22 ?_
    refine g_aload C 4 dX0_figuresOf_38 rfl ?_
    refine g_iload C 5 dX0_figuresOf_40 rfl ?_
    obtain ⟨r_9, h_8, hf⟩ := b1_some hf
    refine g_cV_i C Kf [.int (σ_7.1 14 x2.toNatClampNeg), .int (σ_7.1 13 8), .ref (K.2.1 1), .int x5] (mX0_fits hK0 X.1.2.1 σ_7 (σ_7.1 14 x2.toNatClampNeg) (σ_7.1 13 8) x5 r_9 h_8) mi_X0_fits (qO_X0 hK0) rfl km_X0_28 ⟨rfl, rfl, by decide, by decide⟩ rfl rfl (Nat.le_of_ble_eq_true rfl) dX0_figuresOf_42 ?_
    refine g_jn hf (fun j_11 ej_13 hf => ?_)
    have HJ_12 : ∀ (x6_10 : Int32), j_11 x6_10 = some (r, σ') → gG X σ_7 57 [(0, .ref (K.2.1 31)), (1, .ref (K.2.1 13)), (2, .int x2), (3, .int x3), (4, .ref (K.2.1 1)), (5, .int x5), (6, .int x6_10), (7, .int x7_4)] [] := by
      intro x6_10 hf
      rw [ej_13] at hf
      refine g_iinc (d := 1) C 7 (fun x7_14 => [(7, .int x7_14), (0, .ref (K.2.1 31)), (1, .ref (K.2.1 13)), (2, .int x2), (3, .int x3), (4, .ref (K.2.1 1)), (5, .int x5), (6, .int x6_10)]) dX0_figuresOf_57 rfl (by decide) (by decide) (fun _ => rfl) hf (fun x7_14 hf => ?_)
      refine g_goto C 12 dX0_figuresOf_60 (by decide) ?_
      refine g_cut [1, 2, 3, 4, 5, 6, 7, 0] rfl ?_
      exact ih _ _ _ hf
    refine g_if_eq C 57 dX0_figuresOf_45 (by decide) hf (fun hf => ?_) (fun hf => ?_)
    · exact HJ_12 _ hf
    · refine g_iload C 6 dX0_figuresOf_48 rfl ?_
      refine g_iconst (v := 1) C dX0_figuresOf_50 (by decide) ?_
      refine g_iload C 7 dX0_figuresOf_51 rfl ?_
      refine g_ishl C dX0_figuresOf_53 ?_
      refine g_ior C dX0_figuresOf_54 ?_
      refine g_istoreB C (fun x6_15 => [(6, .int x6_15), (0, .ref (K.2.1 31)), (1, .ref (K.2.1 13)), (2, .int x2), (3, .int x3), (4, .ref (K.2.1 1)), (5, .int x5), (7, .int x7_4)]) dX0_figuresOf_55 (by decide) (fun _ => rfl) hf (fun x6_15 hf => ?_)
      refine g_cut [1, 2, 3, 4, 5, 6, 0, 7] rfl ?_
      exact HJ_12 _ hf
set_option maxHeartbeats 4000000 in
set_option maxRecDepth 100000 in
theorem mX0_figuresOf {K : Kx} (hK0 : isKC K) (l : Launch) (σ : St) (x2 : Int32) (x3 : Int32) (x5 : Int32)  (r : Int32) (σ' : St) (hf : f0_figuresOf σ x2 x3 x5 = some (r, σ')) : mC K l yX0_figuresOf cX0_figuresOf 8 (some .int) rmX0_figuresOf [.ref (K.2.1 31), .ref (K.2.1 13), .int x2, .int x3, .ref (K.2.1 1), .int x5] σ (some (.int r)) σ' := by
  refine g_entry (own := RX0) rfl (by decide +kernel) (Nat.le_of_ble_eq_true rfl) (fun X hX C Kf hR => ?_)
  subst hX
  unfold f0_figuresOf at hf
  show gG X σ 0 [(0, .ref (K.2.1 31)), (1, .ref (K.2.1 13)), (2, .int x2), (3, .int x3), (4, .ref (K.2.1 1)), (5, .int x5)] []
  refine g_aload_n C 0 dX0_figuresOf_0 rfl ?_
  refine g_aload_n C 1 dX0_figuresOf_1 rfl ?_
  refine g_iload_n C 2 dX0_figuresOf_2 rfl ?_
  obtain ⟨σ_2, h_1, hf⟩ := b1_some hf
  refine g_cV_v C Kf [.ref (K.2.1 13), .int x2] (mX0_suppose hK0 X.1.2.1 σ x2 σ_2 h_1) mi_X0_suppose (qO_X0 hK0) rfl km_X0_18 ⟨rfl, rfl, by decide, by decide⟩ rfl rfl (Nat.le_of_ble_eq_true rfl) dX0_figuresOf_3 ?_
  refine g_iconst (v := 0) C dX0_figuresOf_6 (by decide) ?_
  refine g_istore C [(6, .int 0), (0, .ref (K.2.1 31)), (1, .ref (K.2.1 13)), (2, .int x2), (3, .int x3), (4, .ref (K.2.1 1)), (5, .int x5)] dX0_figuresOf_7 (by decide) rfl ?_
  refine g_iconst (v := 0) C dX0_figuresOf_9 (by decide) ?_
  refine g_istore C [(7, .int 0), (6, .int 0), (0, .ref (K.2.1 31)), (1, .ref (K.2.1 13)), (2, .int x2), (3, .int x3), (4, .ref (K.2.1 1)), (5, .int x5)] dX0_figuresOf_10 (by decide) rfl ?_
  refine g_cut [2, 3, 4, 5, 6, 7, 1, 0] rfl ?_
  refine wL0_figuresOf_12 hK0 σ_2 x2 x3 x5 _ _ C Kf hR _ (fun x6_17 σ_18 hf => ?_) _ _ _ _ hf
  refine g_iload C 0 dX0_figuresOf_63 rfl ?_
  exact g_iretP C Kf hR dX0_figuresOf_65 hf
abbrev rmX0_greatestPart : Room := { frames := 3, cells := 0, slots := 0, locals := 68 }
set_option maxHeartbeats 4000000 in
set_option maxRecDepth 100000 in
theorem wL0_greatestPart_9 {X : Gx St} {K : Kx} (hK0 : isKC K) (σ : St) (x3 : Int32) (x4 : Int32) (r : Int32) (σ' : St) (C : gF X cX0_greatestPart RX0 (some .int) 8 rmX0_greatestPart) (Kf : kF X K) (hR : gR X K (some (.int r)) σ') (k : St → Option (Int32 × St)) (Hk : ∀ (σ_7 : St), k σ_7 = some (r, σ') → gG X σ_7 30 [(0, .ref (K.2.1 31)), (1, .ref (K.2.1 13)), (3, .int x3), (4, .int x4)] []) : ∀ (n : Nat) (x5_3 : Int32) (σ_4 : St), L0_greatestPart_9 x3 x4 k n x5_3 σ_4 = some (r, σ') → gG X σ_4 9 [(0, .ref (K.2.1 31)), (1, .ref (K.2.1 13)), (3, .int x3), (4, .int x4), (5, .int x5_3)] [] := by
  intro n
  induction n with
  | zero => intro _ _ hf; unfold L0_greatestPart_9 at hf; cases hf
  | succ n ih =>
  intro x5_3 σ_4 hf
  unfold L0_greatestPart_9 at hf
  refine g_iload C 4 dX0_greatestPart_9 rfl ?_
  refine g_bipush (v := 11) C dX0_greatestPart_11 (by decide) ?_
  refine g_icmp_ge C 30 dX0_greatestPart_13 (by decide) hf (fun hf => ?_) (fun hf => ?_)
  · refine g_cut [0, 1, 2, 3] rfl ?_
    exact Hk _ hf
  · refine g_aload_n C 0 dX0_greatestPart_16 rfl ?_
    refine g_getR C Kf cl_X0 (qF_X0_1 hK0) (by decide) dX0_greatestPart_17 kf_X0_15 ?_
    refine g_iload C 4 dX0_greatestPart_20 rfl ?_
    refine g_iconst (v := 0) C dX0_greatestPart_22 (by decide) ?_
    refine g_iast C Kf (qAC_33 hK0) dX0_greatestPart_23 hf (fun σ_5 hf => ?_)
    refine g_iinc (d := 1) C 4 (fun x5_6 => [(5, .int x5_6), (0, .ref (K.2.1 31)), (1, .ref (K.2.1 13)), (3, .int x3), (4, .int x4)]) dX0_greatestPart_24 rfl (by decide) (by decide) (fun _ => rfl) hf (fun x5_6 hf => ?_)
    refine g_goto C 9 dX0_greatestPart_27 (by decide) ?_
    refine g_cut [1, 2, 3, 4, 0] rfl ?_
    exact ih _ _ hf
set_option maxHeartbeats 4000000 in
set_option maxRecDepth 100000 in
theorem wL0_greatestPart_36 {X : Gx St} {K : Kx} (hK0 : isKC K) (σ : St) (x3 : Int32) (x4 : Int32) (r : Int32) (σ' : St) (C : gF X cX0_greatestPart RX0 (some .int) 8 rmX0_greatestPart) (Kf : kF X K) (hR : gR X K (some (.int r)) σ') (k : Int32 → St → Option (Int32 × St)) (Hk : ∀ (x5_12 : Int32) (σ_23 : St), k x5_12 σ_23 = some (r, σ') → gG X σ_23 101 [(5, .int x5_12)] []) : ∀ (n : Nat) (x5_9 : Int32) (x6_10 : Int32) (σ_11 : St), L0_greatestPart_36 x3 x4 k n x5_9 x6_10 σ_11 = some (r, σ') → gG X σ_11 36 [(0, .ref (K.2.1 31)), (1, .ref (K.2.1 13)), (3, .int x3), (4, .int x4), (5, .int x5_9), (6, .int x6_10)] [] := by
  intro n
  induction n with
  | zero => intro _ _ _ hf; unfold L0_greatestPart_36 at hf; cases hf
  | succ n ih =>
  intro x5_9 x6_10 σ_11 hf
  unfold L0_greatestPart_36 at hf
  refine g_iload C 5 dX0_greatestPart_36 rfl ?_
  refine g_bipush (v := 6) C dX0_greatestPart_38 (by decide) ?_
  refine g_icmp_ge C 101 dX0_greatestPart_40 (by decide) hf (fun hf => ?_) (fun hf => ?_)
  · refine g_cut [4] rfl ?_
    exact Hk _ _ hf
  · refine g_iload C 3 dX0_greatestPart_43 rfl ?_
    refine g_iload C 5 dX0_greatestPart_45 rfl ?_
    refine g_ishr C dX0_greatestPart_47 ?_
    refine g_iconst (v := 1) C dX0_greatestPart_48 (by decide) ?_
    refine g_iand C dX0_greatestPart_49 ?_
    refine g_jn hf (fun j_15 ej_17 hf => ?_)
    have HJ_16 : ∀ (x5_13 : Int32) (σ_14 : St), j_15 x5_13 σ_14 = some (r, σ') → gG X σ_14 95 [(0, .ref (K.2.1 31)), (1, .ref (K.2.1 13)), (3, .int x3), (4, .int x4), (5, .int x5_13), (6, .int x6_10)] [] := by
      intro x5_13 σ_14 hf
      rw [ej_17] at hf
      refine g_iinc (d := 1) C 5 (fun x6_18 => [(6, .int x6_18), (0, .ref (K.2.1 31)), (1, .ref (K.2.1 13)), (3, .int x3), (4, .int x4), (5, .int x5_13)]) dX0_greatestPart_95 rfl (by decide) (by decide) (fun _ => rfl) hf (fun x6_18 hf => ?_)
      refine g_goto C 36 dX0_greatestPart_98 (by decide) ?_
      refine g_cut [1, 2, 3, 4, 5, 0] rfl ?_
      exact ih _ _ _ hf
    refine g_if_eq C 95 dX0_greatestPart_50 (by decide) hf (fun hf => ?_) (fun hf => ?_)
    · exact HJ_16 _ _ hf
    · refine g_iload C 5 dX0_greatestPart_53 rfl ?_
      refine g_aload_n C 0 dX0_greatestPart_55 rfl ?_
      refine g_getR C Kf cl_X0 (qF_X0_0 hK0) (by decide) dX0_greatestPart_56 kf_X0_9 ?_
      refine g_iconst (v := 0) C dX0_greatestPart_59 (by decide) ?_
      refine g_iload_n C 2 dX0_greatestPart_60 rfl ?_
      refine g_aload_n C 1 dX0_greatestPart_61 rfl ?_
      refine g_getIN C Kf cl_X1 (qF_X1_8 hK0) (by decide) dX0_greatestPart_62 kf_X0_22 ?_
      obtain ⟨r_20, h_19, hf⟩ := b1_some hf
      refine g_cSN_i C Kf [.int x6_10, .ref (K.2.1 32), .int 0, .int x3, .int (σ_11.1 13 8)] (mX5_reading hK0 X.1.2.1 σ_11 x6_10 32 0 x3 (σ_11.1 13 8) (by decide) r_20 h_19) mi_X5_reading km_X0_35 ⟨rfl, rfl, by decide, by decide⟩ rfl rfl (Nat.le_of_ble_eq_true rfl) dX0_greatestPart_65 ?_
      refine g_istore C [(7, .int r_20), (0, .ref (K.2.1 31)), (1, .ref (K.2.1 13)), (3, .int x3), (4, .int x4), (5, .int x5_9), (6, .int x6_10)] dX0_greatestPart_68 (by decide) rfl ?_
      refine g_aload_n C 1 dX0_greatestPart_70 rfl ?_
      refine g_getR C Kf cl_X0 (qF_X0_1 hK0) (by decide) dX0_greatestPart_71 kf_X0_15 ?_
      refine g_iload C 0 dX0_greatestPart_74 rfl ?_
      refine g_dup2 C dX0_greatestPart_76 rfl rfl ?_
      refine g_iald C Kf (qAC_33 hK0) dX0_greatestPart_77 hf (fun hf => ?_)
      refine g_iconst (v := 1) C dX0_greatestPart_78 (by decide) ?_
      refine g_iadd C dX0_greatestPart_79 ?_
      refine g_iast C Kf (qAC_33 hK0) dX0_greatestPart_80 hf (fun σ_21 hf => ?_)
      refine g_iload C 5 dX0_greatestPart_81 rfl ?_
      refine g_aload_n C 1 dX0_greatestPart_83 rfl ?_
      refine g_getR C Kf cl_X0 (qF_X0_1 hK0) (by decide) dX0_greatestPart_84 kf_X0_15 ?_
      refine g_iload C 0 dX0_greatestPart_87 rfl ?_
      refine g_iald C Kf (qAC_33 hK0) dX0_greatestPart_89 hf (fun hf => ?_)
      refine g_max C dX0_greatestPart_90 km_X0_39 kmath_max ⟨Nat.le_of_ble_eq_true rfl, Nat.le_of_ble_eq_true rfl⟩ ?_
      refine g_istoreB C (fun x5_22 => [(5, .int x5_22), (7, .int r_20), (0, .ref (K.2.1 31)), (1, .ref (K.2.1 13)), (3, .int x3), (4, .int x4), (6, .int x6_10)]) dX0_greatestPart_93 (by decide) (fun _ => rfl) hf (fun x5_22 hf => ?_)
      refine g_cut [2, 3, 4, 5, 0, 6] rfl ?_
      exact HJ_16 _ _ hf
set_option maxHeartbeats 4000000 in
set_option maxRecDepth 100000 in
theorem mX0_greatestPart {K : Kx} (hK0 : isKC K) (l : Launch) (σ : St) (x2 : Int32) (x3 : Int32) (x4 : Int32)  (r : Int32) (σ' : St) (hf : f0_greatestPart σ x2 x3 x4 = some (r, σ')) : mC K l yX0_greatestPart cX0_greatestPart 8 (some .int) rmX0_greatestPart [.ref (K.2.1 31), .ref (K.2.1 13), .int x2, .int x3, .int x4] σ (some (.int r)) σ' := by
  refine g_entry (own := RX0) rfl (by decide +kernel) (Nat.le_of_ble_eq_true rfl) (fun X hX C Kf hR => ?_)
  subst hX
  unfold f0_greatestPart at hf
  show gG X σ 0 [(0, .ref (K.2.1 31)), (1, .ref (K.2.1 13)), (2, .int x2), (3, .int x3), (4, .int x4)] []
  refine g_aload_n C 0 dX0_greatestPart_0 rfl ?_
  refine g_aload_n C 1 dX0_greatestPart_1 rfl ?_
  refine g_iload_n C 2 dX0_greatestPart_2 rfl ?_
  obtain ⟨σ_2, h_1, hf⟩ := b1_some hf
  refine g_cV_v C Kf [.ref (K.2.1 13), .int x2] (mX0_suppose hK0 X.1.2.1 σ x2 σ_2 h_1) mi_X0_suppose (qO_X0 hK0) rfl km_X0_18 ⟨rfl, rfl, by decide, by decide⟩ rfl rfl (Nat.le_of_ble_eq_true rfl) dX0_greatestPart_3 ?_
  refine g_iconst (v := 0) C dX0_greatestPart_6 (by decide) ?_
  refine g_istore C [(5, .int 0), (0, .ref (K.2.1 31)), (1, .ref (K.2.1 13)), (2, .int x2), (3, .int x3), (4, .int x4)] dX0_greatestPart_7 (by decide) rfl ?_
  refine g_cut [1, 2, 4, 5, 0] rfl ?_
  refine wL0_greatestPart_9 hK0 σ_2 x3 x4 _ _ C Kf hR _ (fun σ_8 hf => ?_) _ _ _ hf
  refine g_iconst (v := 0) C dX0_greatestPart_30 (by decide) ?_
  refine g_istore C [(5, .int 0), (0, .ref (K.2.1 31)), (1, .ref (K.2.1 13)), (3, .int x3), (4, .int x4)] dX0_greatestPart_31 (by decide) rfl ?_
  refine g_iconst (v := 0) C dX0_greatestPart_33 (by decide) ?_
  refine g_istore C [(6, .int 0), (5, .int 0), (0, .ref (K.2.1 31)), (1, .ref (K.2.1 13)), (3, .int x3), (4, .int x4)] dX0_greatestPart_34 (by decide) rfl ?_
  refine g_cut [2, 3, 4, 5, 1, 0] rfl ?_
  refine wL0_greatestPart_36 hK0 σ_8 x3 x4 _ _ C Kf hR _ (fun x5_24 σ_25 hf => ?_) _ _ _ _ hf
  refine g_iload C 0 dX0_greatestPart_101 rfl ?_
  exact g_iretP C Kf hR dX0_greatestPart_103 hf
abbrev rmX0_kindsOf : Room := { frames := 4, cells := 0, slots := 0, locals := 93 }
set_option maxHeartbeats 4000000 in
set_option maxRecDepth 100000 in
theorem wL0_kindsOf_12 {X : Gx St} {K : Kx} (hK0 : isKC K) (σ : St) (x4 : Int32) (r : Int32) (σ' : St) (C : gF X cX0_kindsOf RX0 (some .int) 7 rmX0_kindsOf) (Kf : kF X K) (hR : gR X K (some (.int r)) σ') (k : Int32 → Option (Int32 × St)) (Hk : ∀ (x5_5 : Int32), k x5_5 = some (r, σ') → gG X σ 50 [(5, .int x5_5)] []) : ∀ (n : Nat) (x5_3 : Int32) (x6_4 : Int32), L0_kindsOf_12 σ x4 k n x5_3 x6_4 = some (r, σ') → gG X σ 12 [(0, .ref (K.2.1 31)), (1, .ref (K.2.1 13)), (3, .ref (K.2.1 1)), (4, .int x4), (5, .int x5_3), (6, .int x6_4)] [] := by
  intro n
  induction n with
  | zero => intro _ _ hf; unfold L0_kindsOf_12 at hf; cases hf
  | succ n ih =>
  intro x5_3 x6_4 hf
  unfold L0_kindsOf_12 at hf
  refine g_iload C 5 dX0_kindsOf_12 rfl ?_
  refine g_bipush (v := 6) C dX0_kindsOf_14 (by decide) ?_
  refine g_icmp_ge C 50 dX0_kindsOf_16 (by decide) hf (fun hf => ?_) (fun hf => ?_)
  · refine g_cut [4] rfl ?_
    exact Hk _ hf
  · refine g_aload_n C 0 dX0_kindsOf_19 rfl ?_
    refine g_iload C 5 dX0_kindsOf_20 rfl ?_
    refine g_aload_n C 1 dX0_kindsOf_22 rfl ?_
    refine g_getIN C Kf cl_X1 (qF_X1_8 hK0) (by decide) dX0_kindsOf_23 kf_X0_22 ?_
    refine g_aload_n C 2 dX0_kindsOf_26 rfl ?_
    refine g_iload C 3 dX0_kindsOf_27 rfl ?_
    obtain ⟨r_7, h_6, hf⟩ := b1_some hf
    refine g_cV_i C Kf [.int x6_4, .int (σ.1 13 8), .ref (K.2.1 1), .int x4] (mX0_fits hK0 X.1.2.1 σ x6_4 (σ.1 13 8) x4 r_7 h_6) mi_X0_fits (qO_X0 hK0) rfl km_X0_28 ⟨rfl, rfl, by decide, by decide⟩ rfl rfl (Nat.le_of_ble_eq_true rfl) dX0_kindsOf_29 ?_
    refine g_jn hf (fun j_9 ej_11 hf => ?_)
    have HJ_10 : ∀ (x5_8 : Int32), j_9 x5_8 = some (r, σ') → gG X σ 44 [(0, .ref (K.2.1 31)), (1, .ref (K.2.1 13)), (3, .ref (K.2.1 1)), (4, .int x4), (5, .int x5_8), (6, .int x6_4)] [] := by
      intro x5_8 hf
      rw [ej_11] at hf
      refine g_iinc (d := 1) C 5 (fun x6_12 => [(6, .int x6_12), (0, .ref (K.2.1 31)), (1, .ref (K.2.1 13)), (3, .ref (K.2.1 1)), (4, .int x4), (5, .int x5_8)]) dX0_kindsOf_44 rfl (by decide) (by decide) (fun _ => rfl) hf (fun x6_12 hf => ?_)
      refine g_goto C 12 dX0_kindsOf_47 (by decide) ?_
      refine g_cut [1, 2, 3, 4, 5, 0] rfl ?_
      exact ih _ _ hf
    refine g_if_eq C 44 dX0_kindsOf_32 (by decide) hf (fun hf => ?_) (fun hf => ?_)
    · exact HJ_10 _ hf
    · refine g_iload C 4 dX0_kindsOf_35 rfl ?_
      refine g_iconst (v := 1) C dX0_kindsOf_37 (by decide) ?_
      refine g_iload C 5 dX0_kindsOf_38 rfl ?_
      refine g_ishl C dX0_kindsOf_40 ?_
      refine g_ior C dX0_kindsOf_41 ?_
      refine g_istoreB C (fun x5_13 => [(5, .int x5_13), (0, .ref (K.2.1 31)), (1, .ref (K.2.1 13)), (3, .ref (K.2.1 1)), (4, .int x4), (6, .int x6_4)]) dX0_kindsOf_42 (by decide) (fun _ => rfl) hf (fun x5_13 hf => ?_)
      refine g_cut [1, 2, 3, 4, 0, 5] rfl ?_
      exact HJ_10 _ hf
set_option maxHeartbeats 4000000 in
set_option maxRecDepth 100000 in
theorem mX0_kindsOf {K : Kx} (hK0 : isKC K) (l : Launch) (σ : St) (x2 : Int32) (x4 : Int32)  (r : Int32) (σ' : St) (hf : f0_kindsOf σ x2 x4 = some (r, σ')) : mC K l yX0_kindsOf cX0_kindsOf 7 (some .int) rmX0_kindsOf [.ref (K.2.1 31), .ref (K.2.1 13), .int x2, .ref (K.2.1 1), .int x4] σ (some (.int r)) σ' := by
  refine g_entry (own := RX0) rfl (by decide +kernel) (Nat.le_of_ble_eq_true rfl) (fun X hX C Kf hR => ?_)
  subst hX
  unfold f0_kindsOf at hf
  show gG X σ 0 [(0, .ref (K.2.1 31)), (1, .ref (K.2.1 13)), (2, .int x2), (3, .ref (K.2.1 1)), (4, .int x4)] []
  refine g_aload_n C 0 dX0_kindsOf_0 rfl ?_
  refine g_aload_n C 1 dX0_kindsOf_1 rfl ?_
  refine g_iload_n C 2 dX0_kindsOf_2 rfl ?_
  obtain ⟨σ_2, h_1, hf⟩ := b1_some hf
  refine g_cV_v C Kf [.ref (K.2.1 13), .int x2] (mX0_suppose hK0 X.1.2.1 σ x2 σ_2 h_1) mi_X0_suppose (qO_X0 hK0) rfl km_X0_18 ⟨rfl, rfl, by decide, by decide⟩ rfl rfl (Nat.le_of_ble_eq_true rfl) dX0_kindsOf_3 ?_
  refine g_iconst (v := 0) C dX0_kindsOf_6 (by decide) ?_
  refine g_istore C [(5, .int 0), (0, .ref (K.2.1 31)), (1, .ref (K.2.1 13)), (2, .int x2), (3, .ref (K.2.1 1)), (4, .int x4)] dX0_kindsOf_7 (by decide) rfl ?_
  refine g_iconst (v := 0) C dX0_kindsOf_9 (by decide) ?_
  refine g_istore C [(6, .int 0), (5, .int 0), (0, .ref (K.2.1 31)), (1, .ref (K.2.1 13)), (2, .int x2), (3, .ref (K.2.1 1)), (4, .int x4)] dX0_kindsOf_10 (by decide) rfl ?_
  refine g_cut [2, 3, 5, 6, 1, 0] rfl ?_
  refine wL0_kindsOf_12 hK0 σ_2 x4 _ _ C Kf hR _ (fun x5_14 hf => ?_) _ _ _ hf
  refine g_iload C 0 dX0_kindsOf_50 rfl ?_
  exact g_iretP C Kf hR dX0_kindsOf_52 hf
abbrev rmX1_sift : Room := { frames := 3, cells := 0, slots := 0, locals := 68 }
set_option maxHeartbeats 4000000 in
set_option maxRecDepth 100000 in
theorem wL1_sift_95 {X : Gx St} {K : Kx} (hK0 : isKC K) (σ : St) (a1 : Nat) (a2 : Nat) (ha1 : 0 < lnC a1) (ha2 : 0 < lnC a2) (x3 : Int32) (x4 : Int32) (x5 : Int32) (x6 : Int32) (x7 : Int32) (x10 : Int32) (σ' : St) (C : gF X cX1_sift RX1 none 12 rmX1_sift) (Kf : kF X K) (hR : gR X K none σ') (k : Int32 → St → Option (St)) (Hk : ∀ (x11_19 : Int32) (σ_23 : St), k x11_19 σ_23 = some σ' → gG X σ_23 146 [(0, .ref (K.2.1 13)), (1, .ref (K.2.1 a1)), (2, .ref (K.2.1 a2)), (3, .int x3), (4, .int x4), (5, .int x5), (6, .int x6), (7, .int x7), (10, .int x10), (11, .int x11_19)] []) : ∀ (n : Nat) (x11_17 : Int32) (σ_18 : St), L1_sift_95 a1 a2 x3 x4 x5 x6 x7 x10 k n x11_17 σ_18 = some σ' → gG X σ_18 95 [(0, .ref (K.2.1 13)), (1, .ref (K.2.1 a1)), (2, .ref (K.2.1 a2)), (3, .int x3), (4, .int x4), (5, .int x5), (6, .int x6), (7, .int x7), (10, .int x10), (11, .int x11_17)] [] := by
  intro n
  induction n with
  | zero => intro _ _ hf; unfold L1_sift_95 at hf; cases hf
  | succ n ih =>
  intro x11_17 σ_18 hf
  unfold L1_sift_95 at hf
  refine g_iload C 9 dX1_sift_95 rfl ?_
  refine g_if_le C 146 dX1_sift_97 (by decide) hf (fun hf => ?_) (fun hf => ?_)
  · exact Hk _ _ hf
  · refine g_aload_n C 0 dX1_sift_100 rfl ?_
    refine g_getR C Kf cl_X1 (qF_X1_5 hK0) (by decide) dX1_sift_101 kf_X1_27 ?_
    refine g_iload C 9 dX1_sift_104 rfl ?_
    refine g_iconst (v := 1) C dX1_sift_106 (by decide) ?_
    refine g_isub C dX1_sift_107 ?_
    refine g_iald C Kf (qAC_19 hK0) dX1_sift_108 hf (fun hf => ?_)
    refine g_iload C 8 dX1_sift_109 rfl ?_
    refine g_icmp_le C 146 dX1_sift_111 (by decide) hf (fun hf => ?_) (fun hf => ?_)
    · exact Hk _ _ hf
    · refine g_aload_n C 0 dX1_sift_114 rfl ?_
      refine g_getR C Kf cl_X1 (qF_X1_5 hK0) (by decide) dX1_sift_115 kf_X1_27 ?_
      refine g_iload C 9 dX1_sift_118 rfl ?_
      refine g_aload_n C 0 dX1_sift_120 rfl ?_
      refine g_getR C Kf cl_X1 (qF_X1_5 hK0) (by decide) dX1_sift_121 kf_X1_27 ?_
      refine g_iload C 9 dX1_sift_124 rfl ?_
      refine g_iconst (v := 1) C dX1_sift_126 (by decide) ?_
      refine g_isub C dX1_sift_127 ?_
      refine g_iald C Kf (qAC_19 hK0) dX1_sift_128 hf (fun hf => ?_)
      refine g_iast C Kf (qAC_19 hK0) dX1_sift_129 hf (fun σ_20 hf => ?_)
      refine g_aload_n C 2 dX1_sift_130 rfl ?_
      refine g_iload C 9 dX1_sift_131 rfl ?_
      refine g_aload_n C 2 dX1_sift_133 rfl ?_
      refine g_iload C 9 dX1_sift_134 rfl ?_
      refine g_iconst (v := 1) C dX1_sift_136 (by decide) ?_
      refine g_isub C dX1_sift_137 ?_
      refine g_iald C Kf (qAC hK0 ha2) dX1_sift_138 hf (fun hf => ?_)
      refine g_iast C Kf (qAC hK0 ha2) dX1_sift_139 hf (fun σ_21 hf => ?_)
      refine g_iinc (d := (-1)) C 9 (fun x11_22 => [(11, .int x11_22), (0, .ref (K.2.1 13)), (1, .ref (K.2.1 a1)), (2, .ref (K.2.1 a2)), (3, .int x3), (4, .int x4), (5, .int x5), (6, .int x6), (7, .int x7), (10, .int x10)]) dX1_sift_140 rfl (by decide) (by decide) (fun _ => rfl) hf (fun x11_22 hf => ?_)
      refine g_goto C 95 dX1_sift_143 (by decide) ?_
      refine g_cut [1, 2, 3, 4, 5, 6, 7, 8, 9, 0] rfl ?_
      exact ih _ _ hf
set_option maxHeartbeats 4000000 in
set_option maxRecDepth 100000 in
theorem wL1_sift_3 {X : Gx St} {K : Kx} (hK0 : isKC K) (σ : St) (a1 : Nat) (a2 : Nat) (ha1 : 0 < lnC a1) (ha2 : 0 < lnC a2) (x3 : Int32) (x4 : Int32) (x5 : Int32) (σ' : St) (C : gF X cX1_sift RX1 none 12 rmX1_sift) (Kf : kF X K) (hR : gR X K none σ') (k : St → Option (St)) (Hk : ∀ (σ_31 : St), k σ_31 = some σ' → gG X σ_31 167 [] []) : ∀ (n : Nat) (x6_1 : Int32) (σ_2 : St), L1_sift_3 a1 a2 x3 x4 x5 k n x6_1 σ_2 = some σ' → gG X σ_2 3 [(0, .ref (K.2.1 13)), (1, .ref (K.2.1 a1)), (2, .ref (K.2.1 a2)), (3, .int x3), (4, .int x4), (5, .int x5), (6, .int x6_1)] [] := by
  intro n
  induction n with
  | zero => intro _ _ hf; unfold L1_sift_3 at hf; cases hf
  | succ n ih =>
  intro x6_1 σ_2 hf
  unfold L1_sift_3 at hf
  refine g_iload C 6 dX1_sift_3 rfl ?_
  refine g_aload_n C 0 dX1_sift_5 rfl ?_
  refine g_getI C Kf cl_X1 (qF_X1_7 hK0) (by decide) dX1_sift_6 kf_X1_33 ?_
  refine g_icmp_ge C 167 dX1_sift_9 (by decide) hf (fun hf => ?_) (fun hf => ?_)
  · refine g_cut [] rfl ?_
    exact Hk _ hf
  · refine g_aload_n C 1 dX1_sift_12 rfl ?_
    refine g_iload C 6 dX1_sift_13 rfl ?_
    refine g_iald C Kf (qAC hK0 ha1) dX1_sift_15 hf (fun hf => ?_)
    refine g_istoreB C (fun x7_3 => [(7, .int x7_3), (0, .ref (K.2.1 13)), (1, .ref (K.2.1 a1)), (2, .ref (K.2.1 a2)), (3, .int x3), (4, .int x4), (5, .int x5), (6, .int x6_1)]) dX1_sift_16 (by decide) (fun _ => rfl) hf (fun x7_3 hf => ?_)
    refine g_iload C 6 dX1_sift_18 rfl ?_
    refine g_iload C 0 dX1_sift_20 rfl ?_
    refine g_ishr C dX1_sift_22 ?_
    refine g_iconst (v := 1) C dX1_sift_23 (by decide) ?_
    refine g_iand C dX1_sift_24 ?_
    refine g_jn hf (fun j_5 ej_7 hf => ?_)
    have HJ_6 : ∀ (y_4 : Int32), j_5 y_4 = some σ' → gG X σ_2 33 [(0, .ref (K.2.1 13)), (1, .ref (K.2.1 a1)), (2, .ref (K.2.1 a2)), (3, .int x3), (4, .int x4), (5, .int x5), (6, .int x6_1), (7, .int x7_3)] [.int y_4] := by
      intro y_4 hf
      rw [ej_7] at hf
      refine g_istore C [(8, .int y_4), (0, .ref (K.2.1 13)), (1, .ref (K.2.1 a1)), (2, .ref (K.2.1 a2)), (3, .int x3), (4, .int x4), (5, .int x5), (6, .int x6_1), (7, .int x7_3)] dX1_sift_33 (by decide) rfl ?_
      refine g_iload C 0 dX1_sift_35 rfl ?_
      refine g_jn hf (fun j_9 ej_11 hf => ?_)
      have HJ_10 : ∀ (y_8 : Int32), j_9 y_8 = some σ' → gG X σ_2 66 [(0, .ref (K.2.1 13)), (1, .ref (K.2.1 a1)), (2, .ref (K.2.1 a2)), (3, .int x3), (4, .int x4), (5, .int x5), (6, .int x6_1), (7, .int x7_3)] [.int y_8] := by
        intro y_8 hf
        rw [ej_11] at hf
        refine g_istore C [(9, .int y_8), (0, .ref (K.2.1 13)), (1, .ref (K.2.1 a1)), (2, .ref (K.2.1 a2)), (3, .int x3), (4, .int x4), (5, .int x5), (6, .int x6_1), (7, .int x7_3)] dX1_sift_66 (by decide) rfl ?_
        refine g_iconst (v := 2) C dX1_sift_68 (by decide) ?_
        refine g_iload C 0 dX1_sift_69 rfl ?_
        refine g_imul C dX1_sift_71 ?_
        refine g_aload_n C 1 dX1_sift_72 rfl ?_
        refine g_getR C Kf cl_X1 (qF_X1_0 hK0) (by decide) dX1_sift_73 kf_X1_9 ?_
        refine g_iload C 8 dX1_sift_76 rfl ?_
        refine g_iald C Kf (qAC_14 hK0) dX1_sift_78 hf (fun hf => ?_)
        refine g_iconst (v := 5) C dX1_sift_79 (by decide) ?_
        refine g_jn hf (fun j_13 ej_15 hf => ?_)
        have HJ_14 : ∀ (y_12 : Int32), j_13 y_12 = some σ' → gG X σ_2 88 [(0, .ref (K.2.1 13)), (1, .ref (K.2.1 a1)), (2, .ref (K.2.1 a2)), (3, .int x3), (4, .int x4), (5, .int x5), (6, .int x6_1), (7, .int x7_3)] [.int y_12, .int (2 * y_8)] := by
          intro y_12 hf
          rw [ej_15] at hf
          refine g_iadd C dX1_sift_88 ?_
          refine g_istoreB C (fun x10_16 => [(10, .int x10_16), (0, .ref (K.2.1 13)), (1, .ref (K.2.1 a1)), (2, .ref (K.2.1 a2)), (3, .int x3), (4, .int x4), (5, .int x5), (6, .int x6_1), (7, .int x7_3)]) dX1_sift_89 (by decide) (fun _ => rfl) hf (fun x10_16 hf => ?_)
          refine g_iload C 7 dX1_sift_91 rfl ?_
          refine g_istore C [(11, .int x6_1), (10, .int x10_16), (0, .ref (K.2.1 13)), (1, .ref (K.2.1 a1)), (2, .ref (K.2.1 a2)), (3, .int x3), (4, .int x4), (5, .int x5), (6, .int x6_1), (7, .int x7_3)] dX1_sift_93 (by decide) rfl ?_
          refine g_cut [2, 3, 4, 5, 6, 7, 8, 9, 1, 0] rfl ?_
          refine wL1_sift_95 hK0 σ_2 a1 a2 ha1 ha2 x3 x4 x5 x6_1 x7_3 x10_16 _ C Kf hR _ (fun x11_24 σ_25 hf => ?_) _ _ _ hf
          refine g_aload_n C 0 dX1_sift_146 rfl ?_
          refine g_getR C Kf cl_X1 (qF_X1_5 hK0) (by decide) dX1_sift_147 kf_X1_27 ?_
          refine g_iload C 9 dX1_sift_150 rfl ?_
          refine g_iload C 8 dX1_sift_152 rfl ?_
          refine g_iast C Kf (qAC_19 hK0) dX1_sift_154 hf (fun σ_26 hf => ?_)
          refine g_aload_n C 2 dX1_sift_155 rfl ?_
          refine g_iload C 9 dX1_sift_156 rfl ?_
          refine g_iload C 7 dX1_sift_158 rfl ?_
          refine g_iast C Kf (qAC hK0 ha2) dX1_sift_160 hf (fun σ_27 hf => ?_)
          refine g_iinc (d := 1) C 6 (fun x6_28 => [(6, .int x6_28), (0, .ref (K.2.1 13)), (1, .ref (K.2.1 a1)), (2, .ref (K.2.1 a2)), (3, .int x3), (4, .int x4), (5, .int x5), (7, .int x7_3), (10, .int x10_16), (11, .int x11_24)]) dX1_sift_161 rfl (by decide) (by decide) (fun _ => rfl) hf (fun x6_28 hf => ?_)
          refine g_goto C 3 dX1_sift_164 (by decide) ?_
          refine g_cut [1, 2, 3, 4, 5, 6, 0] rfl ?_
          exact ih _ _ hf
        refine g_icmp_ne C 87 dX1_sift_80 (by decide) hf (fun hf => ?_) (fun hf => ?_)
        · refine g_iconst (v := 1) C dX1_sift_87 (by decide) ?_
          refine g_cut [1, 2, 3, 4, 5, 6, 7, 8] rfl ?_
          exact HJ_14 _ hf
        · refine g_iconst (v := 0) C dX1_sift_83 (by decide) ?_
          refine g_goto C 88 dX1_sift_84 (by decide) ?_
          refine g_cut [1, 2, 3, 4, 5, 6, 7, 8] rfl ?_
          exact HJ_14 _ hf
      refine g_if_eq C 45 dX1_sift_37 (by decide) hf (fun hf => ?_) (fun hf => ?_)
      · refine g_aload_n C 1 dX1_sift_45 rfl ?_
        refine g_getR C Kf cl_X1 (qF_X1_0 hK0) (by decide) dX1_sift_46 kf_X1_9 ?_
        refine g_iload C 8 dX1_sift_49 rfl ?_
        refine g_iald C Kf (qAC_14 hK0) dX1_sift_51 hf (fun hf => ?_)
        refine g_aload_n C 1 dX1_sift_52 rfl ?_
        refine g_getR C Kf cl_X1 (qF_X1_2 hK0) (by decide) dX1_sift_53 kf_X1_18 ?_
        refine g_iload C 8 dX1_sift_56 rfl ?_
        refine g_iconst (v := 3) C dX1_sift_58 (by decide) ?_
        refine g_imul C dX1_sift_59 ?_
        refine g_iload_n C 4 dX1_sift_60 rfl ?_
        refine g_iload C 5 dX1_sift_61 rfl ?_
        obtain ⟨r_30, h_29, hf⟩ := b1_some hf
        refine g_cSN_i C Kf [.int (σ_2.1 14 x7_3.toNatClampNeg), .ref (K.2.1 16), .int (x7_3 * 3), .int x3, .int x4] (mX5_reading hK0 X.1.2.1 σ_2 (σ_2.1 14 x7_3.toNatClampNeg) 16 (x7_3 * 3) x3 x4 (by decide) r_30 h_29) mi_X5_reading km_X1_69 ⟨rfl, rfl, by decide, by decide⟩ rfl rfl (Nat.le_of_ble_eq_true rfl) dX1_sift_63 ?_
        refine g_cut [1, 2, 3, 4, 5, 6, 7, 8] rfl ?_
        exact HJ_10 _ hf
      · refine g_bipush (v := 10) C dX1_sift_40 (by decide) ?_
        refine g_goto C 66 dX1_sift_42 (by decide) ?_
        refine g_cut [1, 2, 3, 4, 5, 6, 7, 8] rfl ?_
        exact HJ_10 _ hf
    refine g_if_eq C 32 dX1_sift_25 (by decide) hf (fun hf => ?_) (fun hf => ?_)
    · refine g_iconst (v := 0) C dX1_sift_32 (by decide) ?_
      refine g_cut [1, 2, 3, 4, 5, 6, 7, 0] rfl ?_
      exact HJ_6 _ hf
    · refine g_iconst (v := 1) C dX1_sift_28 (by decide) ?_
      refine g_goto C 33 dX1_sift_29 (by decide) ?_
      refine g_cut [1, 2, 3, 4, 5, 6, 7, 0] rfl ?_
      exact HJ_6 _ hf
set_option maxHeartbeats 4000000 in
set_option maxRecDepth 100000 in
theorem mX1_sift {K : Kx} (hK0 : isKC K) (l : Launch) (σ : St) (a1 : Nat) (a2 : Nat) (x3 : Int32) (x4 : Int32) (x5 : Int32) (ha1 : 0 < lnC a1) (ha2 : 0 < lnC a2) (σ' : St) (hf : f1_sift σ a1 a2 x3 x4 x5 = some σ') : mC K l yX1_sift cX1_sift 12 none rmX1_sift [.ref (K.2.1 13), .ref (K.2.1 a1), .ref (K.2.1 a2), .int x3, .int x4, .int x5] σ none σ' := by
  refine g_entry (own := RX1) rfl (by decide +kernel) (Nat.le_of_ble_eq_true rfl) (fun X hX C Kf hR => ?_)
  subst hX
  unfold f1_sift at hf
  show gG X σ 0 [(0, .ref (K.2.1 13)), (1, .ref (K.2.1 a1)), (2, .ref (K.2.1 a2)), (3, .int x3), (4, .int x4), (5, .int x5)] []
  refine g_iconst (v := 0) C dX1_sift_0 (by decide) ?_
  refine g_istore C [(6, .int 0), (0, .ref (K.2.1 13)), (1, .ref (K.2.1 a1)), (2, .ref (K.2.1 a2)), (3, .int x3), (4, .int x4), (5, .int x5)] dX1_sift_1 (by decide) rfl ?_
  refine g_cut [1, 2, 3, 4, 5, 6, 0] rfl ?_
  refine wL1_sift_3 hK0 σ a1 a2 ha1 ha2 x3 x4 x5 _ C Kf hR _ (fun σ_32 hf => ?_) _ _ _ hf
  exact g_vretP C Kf hR dX1_sift_167 hf
abbrev rmX5_onePassMore : Room := { frames := 1, cells := 0, slots := 0, locals := 21 }
set_option maxHeartbeats 4000000 in
set_option maxRecDepth 100000 in
theorem mX5_onePassMore {K : Kx} (hK0 : isKC K) (l : Launch) (σ : St) (x0 : Int32)  (r : Int32) (hf : f5_onePassMore x0 = some r) : mC K l yX5_onePassMore cX5_onePassMore 1 (some .int) rmX5_onePassMore [.int x0] σ (some (.int r)) σ := by
  refine g_entry (own := RX5) rfl (by decide +kernel) (Nat.le_of_ble_eq_true rfl) (fun X hX C Kf hR => ?_)
  subst hX
  unfold f5_onePassMore at hf
  show gG X σ 0 [(0, .int x0)] []
  refine g_bipush (v := 60) C dX5_onePassMore_0 (by decide) ?_
  refine g_iload_n C 0 dX5_onePassMore_2 rfl ?_
  refine g_iconst (v := 1) C dX5_onePassMore_3 (by decide) ?_
  refine g_iadd C dX5_onePassMore_4 ?_
  refine g_min C dX5_onePassMore_5 km_X5_142 kmath_min ⟨Nat.le_of_ble_eq_true rfl, Nat.le_of_ble_eq_true rfl⟩ ?_
  exact g_iretR C Kf hR dX5_onePassMore_8 hf
abbrev rmX1_turnOver : Room := { frames := 0, cells := 0, slots := 0, locals := 0 }
set_option maxHeartbeats 4000000 in
set_option maxRecDepth 100000 in
theorem wL1_turnOver_2 {X : Gx St} {K : Kx} (hK0 : isKC K) (σ : St) (σ' : St) (C : gF X cX1_turnOver RX1 none 3 rmX1_turnOver) (Kf : kF X K) (hR : gR X K none σ') (k : St → Option (St)) (Hk : ∀ (σ_7 : St), k σ_7 = some σ' → gG X σ_7 58 [] []) : ∀ (n : Nat) (x1_1 : Int32) (σ_2 : St), L1_turnOver_2 k n x1_1 σ_2 = some σ' → gG X σ_2 2 [(0, .ref (K.2.1 13)), (1, .int x1_1)] [] := by
  intro n
  induction n with
  | zero => intro _ _ hf; unfold L1_turnOver_2 at hf; cases hf
  | succ n ih =>
  intro x1_1 σ_2 hf
  unfold L1_turnOver_2 at hf
  refine g_iload_n C 1 dX1_turnOver_2 rfl ?_
  refine g_aload_n C 0 dX1_turnOver_3 rfl ?_
  refine g_getI C Kf cl_X1 (qF_X1_7 hK0) (by decide) dX1_turnOver_4 kf_X1_33 ?_
  refine g_iconst (v := 2) C dX1_turnOver_7 (by decide) ?_
  refine g_idiv0 C dX1_turnOver_8 (by decide) ?_
  refine g_icmp_ge C 58 dX1_turnOver_9 (by decide) hf (fun hf => ?_) (fun hf => ?_)
  · refine g_cut [] rfl ?_
    exact Hk _ hf
  · refine g_aload_n C 0 dX1_turnOver_12 rfl ?_
    refine g_getR C Kf cl_X1 (qF_X1_3 hK0) (by decide) dX1_turnOver_13 kf_X1_21 ?_
    refine g_iload_n C 1 dX1_turnOver_16 rfl ?_
    refine g_iald C Kf (qAC_17 hK0) dX1_turnOver_17 hf (fun hf => ?_)
    refine g_istore_nB C (fun x2_3 => [(2, .int x2_3), (0, .ref (K.2.1 13)), (1, .int x1_1)]) dX1_turnOver_18 rfl (by decide) (fun _ => rfl) hf (fun x2_3 hf => ?_)
    refine g_aload_n C 1 dX1_turnOver_19 rfl ?_
    refine g_getR C Kf cl_X1 (qF_X1_3 hK0) (by decide) dX1_turnOver_20 kf_X1_21 ?_
    refine g_iload_n C 2 dX1_turnOver_23 rfl ?_
    refine g_aload_n C 1 dX1_turnOver_24 rfl ?_
    refine g_getR C Kf cl_X1 (qF_X1_3 hK0) (by decide) dX1_turnOver_25 kf_X1_21 ?_
    refine g_aload_n C 1 dX1_turnOver_28 rfl ?_
    refine g_getI C Kf cl_X1 (qF_X1_7 hK0) (by decide) dX1_turnOver_29 kf_X1_33 ?_
    refine g_iconst (v := 1) C dX1_turnOver_32 (by decide) ?_
    refine g_isub C dX1_turnOver_33 ?_
    refine g_iload_n C 2 dX1_turnOver_34 rfl ?_
    refine g_isub C dX1_turnOver_35 ?_
    refine g_iald C Kf (qAC_17 hK0) dX1_turnOver_36 hf (fun hf => ?_)
    refine g_iast C Kf (qAC_17 hK0) dX1_turnOver_37 hf (fun σ_4 hf => ?_)
    refine g_aload_n C 1 dX1_turnOver_38 rfl ?_
    refine g_getR C Kf cl_X1 (qF_X1_3 hK0) (by decide) dX1_turnOver_39 kf_X1_21 ?_
    refine g_aload_n C 1 dX1_turnOver_42 rfl ?_
    refine g_getI C Kf cl_X1 (qF_X1_7 hK0) (by decide) dX1_turnOver_43 kf_X1_33 ?_
    refine g_iconst (v := 1) C dX1_turnOver_46 (by decide) ?_
    refine g_isub C dX1_turnOver_47 ?_
    refine g_iload_n C 2 dX1_turnOver_48 rfl ?_
    refine g_isub C dX1_turnOver_49 ?_
    refine g_iload_n C 0 dX1_turnOver_50 rfl ?_
    refine g_iast C Kf (qAC_17 hK0) dX1_turnOver_51 hf (fun σ_5 hf => ?_)
    refine g_iinc (d := 1) C 2 (fun x1_6 => [(1, .int x1_6), (2, .int x2_3), (0, .ref (K.2.1 13))]) dX1_turnOver_52 rfl (by decide) (by decide) (fun _ => rfl) hf (fun x1_6 hf => ?_)
    refine g_goto C 2 dX1_turnOver_55 (by decide) ?_
    refine g_cut [2, 0] rfl ?_
    exact ih _ _ hf
set_option maxHeartbeats 4000000 in
set_option maxRecDepth 100000 in
theorem mX1_turnOver {K : Kx} (hK0 : isKC K) (l : Launch) (σ : St)   (σ' : St) (hf : f1_turnOver σ = some σ') : mC K l yX1_turnOver cX1_turnOver 3 none rmX1_turnOver [.ref (K.2.1 13)] σ none σ' := by
  refine g_entry (own := RX1) rfl (by decide +kernel) (Nat.le_of_ble_eq_true rfl) (fun X hX C Kf hR => ?_)
  subst hX
  unfold f1_turnOver at hf
  show gG X σ 0 [(0, .ref (K.2.1 13))] []
  refine g_iconst (v := 0) C dX1_turnOver_0 (by decide) ?_
  refine g_istore_n C [(1, .int 0), (0, .ref (K.2.1 13))] dX1_turnOver_1 rfl (by decide) rfl ?_
  refine g_cut [1, 0] rfl ?_
  refine wL1_turnOver_2 hK0 σ _ C Kf hR _ (fun σ_8 hf => ?_) _ _ _ hf
  exact g_vretP C Kf hR dX1_turnOver_58 hf
abbrev rmX1_liftOff : Room := { frames := 0, cells := 0, slots := 0, locals := 0 }
set_option maxHeartbeats 4000000 in
set_option maxRecDepth 100000 in
theorem wL1_liftOff_2 {X : Gx St} {K : Kx} (hK0 : isKC K) (σ : St) (x1 : Int32) (σ' : St) (C : gF X cX1_liftOff RX1 none 3 rmX1_liftOff) (Kf : kF X K) (hR : gR X K none σ') (k : St → Option (St)) (Hk : ∀ (σ_5 : St), k σ_5 = some σ' → gG X σ_5 28 [(0, .ref (K.2.1 13)), (1, .int x1)] []) : ∀ (n : Nat) (x2_1 : Int32) (σ_2 : St), L1_liftOff_2 x1 k n x2_1 σ_2 = some σ' → gG X σ_2 2 [(0, .ref (K.2.1 13)), (1, .int x1), (2, .int x2_1)] [] := by
  intro n
  induction n with
  | zero => intro _ _ hf; unfold L1_liftOff_2 at hf; cases hf
  | succ n ih =>
  intro x2_1 σ_2 hf
  unfold L1_liftOff_2 at hf
  refine g_iload_n C 2 dX1_liftOff_2 rfl ?_
  refine g_aload_n C 0 dX1_liftOff_3 rfl ?_
  refine g_getI C Kf cl_X1 (qF_X1_7 hK0) (by decide) dX1_liftOff_4 kf_X1_33 ?_
  refine g_icmp_ge C 28 dX1_liftOff_7 (by decide) hf (fun hf => ?_) (fun hf => ?_)
  · refine g_cut [0, 1] rfl ?_
    exact Hk _ hf
  · refine g_aload_n C 0 dX1_liftOff_10 rfl ?_
    refine g_getR C Kf cl_X1 (qF_X1_4 hK0) (by decide) dX1_liftOff_11 kf_X1_24 ?_
    refine g_iload_n C 2 dX1_liftOff_14 rfl ?_
    refine g_aload_n C 0 dX1_liftOff_15 rfl ?_
    refine g_getR C Kf cl_X1 (qF_X1_3 hK0) (by decide) dX1_liftOff_16 kf_X1_21 ?_
    refine g_iload_n C 2 dX1_liftOff_19 rfl ?_
    refine g_iald C Kf (qAC_17 hK0) dX1_liftOff_20 hf (fun hf => ?_)
    refine g_iast C Kf (qAC_18 hK0) dX1_liftOff_21 hf (fun σ_3 hf => ?_)
    refine g_iinc (d := 1) C 2 (fun x2_4 => [(2, .int x2_4), (0, .ref (K.2.1 13)), (1, .int x1)]) dX1_liftOff_22 rfl (by decide) (by decide) (fun _ => rfl) hf (fun x2_4 hf => ?_)
    refine g_goto C 2 dX1_liftOff_25 (by decide) ?_
    refine g_cut [1, 2, 0] rfl ?_
    exact ih _ _ hf
set_option maxHeartbeats 4000000 in
set_option maxRecDepth 100000 in
theorem wL1_liftOff_30 {X : Gx St} {K : Kx} (hK0 : isKC K) (σ : St) (x1 : Int32) (σ' : St) (C : gF X cX1_liftOff RX1 none 3 rmX1_liftOff) (Kf : kF X K) (hR : gR X K none σ') (k : St → Option (St)) (Hk : ∀ (σ_11 : St), k σ_11 = some σ' → gG X σ_11 63 [] []) : ∀ (n : Nat) (x2_7 : Int32) (σ_8 : St), L1_liftOff_30 x1 k n x2_7 σ_8 = some σ' → gG X σ_8 30 [(0, .ref (K.2.1 13)), (1, .int x1), (2, .int x2_7)] [] := by
  intro n
  induction n with
  | zero => intro _ _ hf; unfold L1_liftOff_30 at hf; cases hf
  | succ n ih =>
  intro x2_7 σ_8 hf
  unfold L1_liftOff_30 at hf
  refine g_iload_n C 2 dX1_liftOff_30 rfl ?_
  refine g_aload_n C 0 dX1_liftOff_31 rfl ?_
  refine g_getI C Kf cl_X1 (qF_X1_7 hK0) (by decide) dX1_liftOff_32 kf_X1_33 ?_
  refine g_icmp_ge C 63 dX1_liftOff_35 (by decide) hf (fun hf => ?_) (fun hf => ?_)
  · refine g_cut [] rfl ?_
    exact Hk _ hf
  · refine g_aload_n C 0 dX1_liftOff_38 rfl ?_
    refine g_getR C Kf cl_X1 (qF_X1_3 hK0) (by decide) dX1_liftOff_39 kf_X1_21 ?_
    refine g_iload_n C 2 dX1_liftOff_42 rfl ?_
    refine g_aload_n C 0 dX1_liftOff_43 rfl ?_
    refine g_getR C Kf cl_X1 (qF_X1_4 hK0) (by decide) dX1_liftOff_44 kf_X1_24 ?_
    refine g_iload_n C 2 dX1_liftOff_47 rfl ?_
    refine g_iload_n C 1 dX1_liftOff_48 rfl ?_
    refine g_iadd C dX1_liftOff_49 ?_
    refine g_aload_n C 0 dX1_liftOff_50 rfl ?_
    refine g_getI C Kf cl_X1 (qF_X1_7 hK0) (by decide) dX1_liftOff_51 kf_X1_33 ?_
    refine g_irem C dX1_liftOff_54 hf (fun hf => ?_)
    refine g_iald C Kf (qAC_18 hK0) dX1_liftOff_55 hf (fun hf => ?_)
    refine g_iast C Kf (qAC_17 hK0) dX1_liftOff_56 hf (fun σ_9 hf => ?_)
    refine g_iinc (d := 1) C 2 (fun x2_10 => [(2, .int x2_10), (0, .ref (K.2.1 13)), (1, .int x1)]) dX1_liftOff_57 rfl (by decide) (by decide) (fun _ => rfl) hf (fun x2_10 hf => ?_)
    refine g_goto C 30 dX1_liftOff_60 (by decide) ?_
    refine g_cut [1, 2, 0] rfl ?_
    exact ih _ _ hf
set_option maxHeartbeats 4000000 in
set_option maxRecDepth 100000 in
theorem mX1_liftOff {K : Kx} (hK0 : isKC K) (l : Launch) (σ : St) (x1 : Int32)  (σ' : St) (hf : f1_liftOff σ x1 = some σ') : mC K l yX1_liftOff cX1_liftOff 3 none rmX1_liftOff [.ref (K.2.1 13), .int x1] σ none σ' := by
  refine g_entry (own := RX1) rfl (by decide +kernel) (Nat.le_of_ble_eq_true rfl) (fun X hX C Kf hR => ?_)
  subst hX
  unfold f1_liftOff at hf
  show gG X σ 0 [(0, .ref (K.2.1 13)), (1, .int x1)] []
  refine g_iconst (v := 0) C dX1_liftOff_0 (by decide) ?_
  refine g_istore_n C [(2, .int 0), (0, .ref (K.2.1 13)), (1, .int x1)] dX1_liftOff_1 rfl (by decide) rfl ?_
  refine g_cut [1, 2, 0] rfl ?_
  refine wL1_liftOff_2 hK0 σ x1 _ C Kf hR _ (fun σ_6 hf => ?_) _ _ _ hf
  refine g_iconst (v := 0) C dX1_liftOff_28 (by decide) ?_
  refine g_istore_n C [(2, .int 0), (0, .ref (K.2.1 13)), (1, .int x1)] dX1_liftOff_29 rfl (by decide) rfl ?_
  refine g_cut [1, 2, 0] rfl ?_
  refine wL1_liftOff_30 hK0 σ_6 x1 _ C Kf hR _ (fun σ_12 hf => ?_) _ _ _ hf
  exact g_vretP C Kf hR dX1_liftOff_63 hf
abbrev rmX1_carryOut : Room := { frames := 4, cells := 0, slots := 0, locals := 99 }
set_option maxHeartbeats 4000000 in
set_option maxRecDepth 100000 in
theorem mX1_carryOut {K : Kx} (hK0 : isKC K) (l : Launch) (σ : St) (x1 : Int32)  (σ' : St) (hf : f1_carryOut σ x1 = some σ') : mC K l yX1_carryOut cX1_carryOut 3 none rmX1_carryOut [.ref (K.2.1 13), .int x1] σ none σ' := by
  refine g_entry (own := RX1) rfl (by decide +kernel) (Nat.le_of_ble_eq_true rfl) (fun X hX C Kf hR => ?_)
  subst hX
  unfold f1_carryOut at hf
  show gG X σ 0 [(0, .ref (K.2.1 13)), (1, .int x1)] []
  refine g_iload_n C 1 dX1_carryOut_0 rfl ?_
  refine g_bipush (v := 100) C dX1_carryOut_1 (by decide) ?_
  refine g_idiv0 C dX1_carryOut_3 (by decide) ?_
  refine g_bipush (v := 10) C dX1_carryOut_4 (by decide) ?_
  refine g_irem0 C dX1_carryOut_6 (by decide) ?_
  refine g_istore_nB C (fun x2_1 => [(2, .int x2_1), (0, .ref (K.2.1 13)), (1, .int x1)]) dX1_carryOut_7 rfl (by decide) (fun _ => rfl) hf (fun x2_1 hf => ?_)
  refine g_iload_n C 2 dX1_carryOut_8 rfl ?_
  refine g_sipush (v := 1000) C dX1_carryOut_9 (by decide) ?_
  refine g_idiv0 C dX1_carryOut_12 (by decide) ?_
  by_cases hs_3 : (x1 / 1000) = 0
  · rw [if_pos hs_3] at hf
    refine g_tabIn C 40 hs_3 dX1_carryOut_13 (by decide) (by decide) rfl (by decide) ?_
    refine g_aload_n C 1 dX1_carryOut_40 rfl ?_
    refine g_aload_n C 1 dX1_carryOut_41 rfl ?_
    refine g_getR C Kf cl_X1 (qF_X1_3 hK0) (by decide) dX1_carryOut_42 kf_X1_21 ?_
    refine g_aload_n C 1 dX1_carryOut_45 rfl ?_
    refine g_getR C Kf cl_X1 (qF_X1_3 hK0) (by decide) dX1_carryOut_46 kf_X1_21 ?_
    refine g_iload_n C 0 dX1_carryOut_49 rfl ?_
    refine g_aload_n C 1 dX1_carryOut_50 rfl ?_
    refine g_getI C Kf cl_X1 (qF_X1_8 hK0) (by decide) dX1_carryOut_51 kf_X1_37 ?_
    refine g_iconst (v := 0) C dX1_carryOut_54 (by decide) ?_
    obtain ⟨σ_7, h_6, hf⟩ := b1_some hf
    refine g_cV_v C Kf [.ref (K.2.1 17), .ref (K.2.1 17), .int x2_1, .int (σ.1 13 8), .int 0] (mX1_sift hK0 X.1.2.1 σ 17 17 x2_1 (σ.1 13 8) 0 (by decide) (by decide) σ_7 h_6) mi_X1_sift (qO_X1 hK0) rfl km_X1_55 ⟨rfl, rfl, by decide, by decide⟩ rfl rfl (Nat.le_of_ble_eq_true rfl) dX1_carryOut_55 ?_
    refine g_aload_n C 1 dX1_carryOut_58 rfl ?_
    refine g_aload_n C 1 dX1_carryOut_59 rfl ?_
    refine g_getI C Kf cl_X1 (qF_X1_8 hK0) (by decide) dX1_carryOut_60 kf_X1_37 ?_
    obtain ⟨r_9, h_8, hf⟩ := b1_some hf
    refine g_cSN_i C Kf [.int (σ_7.1 13 8)] (mX5_onePassMore hK0 X.1.2.1 σ_7 (σ_7.1 13 8) r_9 h_8) mi_X5_onePassMore km_X1_59 ⟨rfl, rfl, by decide, by decide⟩ rfl rfl (Nat.le_of_ble_eq_true rfl) dX1_carryOut_63 ?_
    refine g_putI C Kf cl_X1 (qF_X1_8 hK0) (by decide) rfl rfl rfl dX1_carryOut_66 kf_X1_37 hf (fun σ_10 hf => ?_)
    refine g_goto C 107 dX1_carryOut_69 (by decide) ?_
    exact g_vretP C Kf hR dX1_carryOut_107 hf
  · rw [if_neg hs_3] at hf
    by_cases hs_4 : (x1 / 1000) = 1
    · rw [if_pos hs_4] at hf
      refine g_tabIn C 72 hs_4 dX1_carryOut_13 (by decide) (by decide) rfl (by decide) ?_
      refine g_aload_n C 1 dX1_carryOut_72 rfl ?_
      obtain ⟨σ_12, h_11, hf⟩ := b1_some hf
      refine g_cV_v C Kf [] (mX1_turnOver hK0 X.1.2.1 σ σ_12 h_11) mi_X1_turnOver (qO_X1 hK0) rfl km_X1_63 ⟨rfl, rfl, by decide, by decide⟩ rfl rfl (Nat.le_of_ble_eq_true rfl) dX1_carryOut_73 ?_
      refine g_goto C 107 dX1_carryOut_76 (by decide) ?_
      exact g_vretP C Kf hR dX1_carryOut_107 hf
    · rw [if_neg hs_4] at hf
      by_cases hs_5 : (x1 / 1000) = 2
      · rw [if_pos hs_5] at hf
        refine g_tabIn C 79 hs_5 dX1_carryOut_13 (by decide) (by decide) rfl (by decide) ?_
        refine g_aload_n C 1 dX1_carryOut_79 rfl ?_
        refine g_iload_n C 0 dX1_carryOut_80 rfl ?_
        obtain ⟨σ_14, h_13, hf⟩ := b1_some hf
        refine g_cV_v C Kf [.int x2_1] (mX1_liftOff hK0 X.1.2.1 σ x2_1 σ_14 h_13) mi_X1_liftOff (qO_X1 hK0) rfl km_X1_66 ⟨rfl, rfl, by decide, by decide⟩ rfl rfl (Nat.le_of_ble_eq_true rfl) dX1_carryOut_81 ?_
        refine g_goto C 107 dX1_carryOut_84 (by decide) ?_
        exact g_vretP C Kf hR dX1_carryOut_107 hf
      · rw [if_neg hs_5] at hf
        refine g_tabOut C 87 dX1_carryOut_13 (by have ehs_3 := sw_ne (n := 0) (by decide) hs_3; have ehs_4 := sw_ne (n := 1) (by decide) hs_4; have ehs_5 := sw_ne (n := 2) (by decide) hs_5; omega) (by decide) ?_
        refine g_aload_n C 1 dX1_carryOut_87 rfl ?_
        refine g_getR C Kf cl_X1 (qF_X1_2 hK0) (by decide) dX1_carryOut_88 kf_X1_18 ?_
        refine g_iload_n C 0 dX1_carryOut_91 rfl ?_
        refine g_iconst (v := 3) C dX1_carryOut_92 (by decide) ?_
        refine g_imul C dX1_carryOut_93 ?_
        refine g_iload_n C 2 dX1_carryOut_94 rfl ?_
        refine g_bipush (v := 10) C dX1_carryOut_95 (by decide) ?_
        refine g_idiv0 C dX1_carryOut_97 (by decide) ?_
        refine g_bipush (v := 10) C dX1_carryOut_98 (by decide) ?_
        refine g_irem0 C dX1_carryOut_100 (by decide) ?_
        refine g_iadd C dX1_carryOut_101 ?_
        refine g_iload_n C 2 dX1_carryOut_102 rfl ?_
        refine g_bipush (v := 10) C dX1_carryOut_103 (by decide) ?_
        refine g_irem0 C dX1_carryOut_105 (by decide) ?_
        refine g_iast C Kf (qAC_16 hK0) dX1_carryOut_106 hf (fun σ_2 hf => ?_)
        exact g_vretP C Kf hR dX1_carryOut_107 hf
abbrev rmX1_add : Room := { frames := 5, cells := 0, slots := 0, locals := 121 }
set_option maxHeartbeats 4000000 in
set_option maxRecDepth 100000 in
theorem mX1_add {K : Kx} (hK0 : isKC K) (l : Launch) (σ : St) (x1 : Int32)  (r : Int32) (σ' : St) (hf : f1_add σ x1 = some (r, σ')) : mC K l yX1_add cX1_add 2 (some .int) rmX1_add [.ref (K.2.1 13), .int x1] σ (some (.int r)) σ' := by
  refine g_entry (own := RX1) rfl (by decide +kernel) (Nat.le_of_ble_eq_true rfl) (fun X hX C Kf hR => ?_)
  subst hX
  unfold f1_add at hf
  show gG X σ 0 [(0, .ref (K.2.1 13)), (1, .int x1)] []
  refine g_aload_n C 0 dX1_add_0 rfl ?_
  refine g_getI C Kf cl_X1 (qF_X1_9 hK0) (by decide) dX1_add_1 kf_X1_40 ?_
  refine g_bipush (v := 40) C dX1_add_4 (by decide) ?_
  refine g_jn hf (fun j_2 ej_4 hf => ?_)
  have HJ_3 : ∀ (σ_1 : St), j_2 σ_1 = some (r, σ') → gG X σ_1 34 [(0, .ref (K.2.1 13))] [] := by
    intro σ_1 hf
    rw [ej_4] at hf
    refine g_aload_n C 0 dX1_add_34 rfl ?_
    refine g_getR C Kf cl_X1 (qF_X1_3 hK0) (by decide) dX1_add_35 kf_X1_21 ?_
    refine g_iconst (v := 0) C dX1_add_38 (by decide) ?_
    refine g_ialdL C Kf 0 (by decide) (by unfold vp_in; decide) (qAC_17 hK0) dX1_add_39 ?_
    exact g_iretP C Kf hR dX1_add_40 hf
  refine g_icmp_ge C 34 dX1_add_6 (by decide) hf (fun hf => ?_) (fun hf => ?_)
  · refine g_cut [0] rfl ?_
    exact HJ_3 _ hf
  · refine g_aload_n C 0 dX1_add_9 rfl ?_
    refine g_getR C Kf cl_X1 (qF_X1_6 hK0) (by decide) dX1_add_10 kf_X1_30 ?_
    refine g_aload_n C 0 dX1_add_13 rfl ?_
    refine g_getI C Kf cl_X1 (qF_X1_9 hK0) (by decide) dX1_add_14 kf_X1_40 ?_
    refine g_iload_n C 1 dX1_add_17 rfl ?_
    refine g_iast C Kf (qAC_20 hK0) dX1_add_18 hf (fun σ_5 hf => ?_)
    refine g_aload_n C 0 dX1_add_19 rfl ?_
    refine g_dup C dX1_add_20 rfl ?_
    refine g_getI C Kf cl_X1 (qF_X1_9 hK0) (by decide) dX1_add_21 kf_X1_40 ?_
    refine g_iconst (v := 1) C dX1_add_24 (by decide) ?_
    refine g_iadd C dX1_add_25 ?_
    refine g_putI C Kf cl_X1 (qF_X1_9 hK0) (by decide) rfl rfl rfl dX1_add_26 kf_X1_40 hf (fun σ_6 hf => ?_)
    refine g_aload_n C 0 dX1_add_29 rfl ?_
    refine g_iload_n C 1 dX1_add_30 rfl ?_
    obtain ⟨σ_8, h_7, hf⟩ := b1_some hf
    refine g_cV_v C Kf [.int x1] (mX1_carryOut hK0 X.1.2.1 σ_6 x1 σ_8 h_7) mi_X1_carryOut (qO_X1 hK0) rfl km_X1_52 ⟨rfl, rfl, by decide, by decide⟩ rfl rfl (Nat.le_of_ble_eq_true rfl) dX1_add_31 ?_
    refine g_cut [0] rfl ?_
    exact HJ_3 _ hf
abbrev rmX1_redo : Room := { frames := 5, cells := 0, slots := 0, locals := 121 }
set_option maxHeartbeats 4000000 in
set_option maxRecDepth 100000 in
theorem wL1_redo_2 {X : Gx St} {K : Kx} (hK0 : isKC K) (σ : St) (x1 : Int32) (σ' : St) (C : gF X cX1_redo RX1 none 3 rmX1_redo) (Kf : kF X K) (hR : gR X K none σ') (k : St → Option (St)) (Hk : ∀ (σ_5 : St), k σ_5 = some σ' → gG X σ_5 23 [(0, .ref (K.2.1 13)), (1, .int x1)] []) : ∀ (n : Nat) (x2_1 : Int32) (σ_2 : St), L1_redo_2 x1 k n x2_1 σ_2 = some σ' → gG X σ_2 2 [(0, .ref (K.2.1 13)), (1, .int x1), (2, .int x2_1)] [] := by
  intro n
  induction n with
  | zero => intro _ _ hf; unfold L1_redo_2 at hf; cases hf
  | succ n ih =>
  intro x2_1 σ_2 hf
  unfold L1_redo_2 at hf
  refine g_iload_n C 2 dX1_redo_2 rfl ?_
  refine g_aload_n C 0 dX1_redo_3 rfl ?_
  refine g_getI C Kf cl_X1 (qF_X1_7 hK0) (by decide) dX1_redo_4 kf_X1_33 ?_
  refine g_icmp_ge C 23 dX1_redo_7 (by decide) hf (fun hf => ?_) (fun hf => ?_)
  · refine g_cut [0, 1] rfl ?_
    exact Hk _ hf
  · refine g_aload_n C 0 dX1_redo_10 rfl ?_
    refine g_getR C Kf cl_X1 (qF_X1_3 hK0) (by decide) dX1_redo_11 kf_X1_21 ?_
    refine g_iload_n C 2 dX1_redo_14 rfl ?_
    refine g_iload_n C 2 dX1_redo_15 rfl ?_
    refine g_iast C Kf (qAC_17 hK0) dX1_redo_16 hf (fun σ_3 hf => ?_)
    refine g_iinc (d := 1) C 2 (fun x2_4 => [(2, .int x2_4), (0, .ref (K.2.1 13)), (1, .int x1)]) dX1_redo_17 rfl (by decide) (by decide) (fun _ => rfl) hf (fun x2_4 hf => ?_)
    refine g_goto C 2 dX1_redo_20 (by decide) ?_
    refine g_cut [1, 2, 0] rfl ?_
    exact ih _ _ hf
set_option maxHeartbeats 4000000 in
set_option maxRecDepth 100000 in
theorem wL1_redo_25 {X : Gx St} {K : Kx} (hK0 : isKC K) (σ : St) (x1 : Int32) (σ' : St) (C : gF X cX1_redo RX1 none 3 rmX1_redo) (Kf : kF X K) (hR : gR X K none σ') (k : St → Option (St)) (Hk : ∀ (σ_11 : St), k σ_11 = some σ' → gG X σ_11 53 [(0, .ref (K.2.1 13)), (1, .int x1)] []) : ∀ (n : Nat) (x2_7 : Int32) (σ_8 : St), L1_redo_25 x1 k n x2_7 σ_8 = some σ' → gG X σ_8 25 [(0, .ref (K.2.1 13)), (1, .int x1), (2, .int x2_7)] [] := by
  intro n
  induction n with
  | zero => intro _ _ hf; unfold L1_redo_25 at hf; cases hf
  | succ n ih =>
  intro x2_7 σ_8 hf
  unfold L1_redo_25 at hf
  refine g_iload_n C 2 dX1_redo_25 rfl ?_
  refine g_aload_n C 0 dX1_redo_26 rfl ?_
  refine g_getI C Kf cl_X1 (qF_X1_7 hK0) (by decide) dX1_redo_27 kf_X1_33 ?_
  refine g_iconst (v := 3) C dX1_redo_30 (by decide) ?_
  refine g_imul C dX1_redo_31 ?_
  refine g_icmp_ge C 53 dX1_redo_32 (by decide) hf (fun hf => ?_) (fun hf => ?_)
  · refine g_cut [0, 1] rfl ?_
    exact Hk _ hf
  · refine g_aload_n C 0 dX1_redo_35 rfl ?_
    refine g_getR C Kf cl_X1 (qF_X1_2 hK0) (by decide) dX1_redo_36 kf_X1_18 ?_
    refine g_iload_n C 2 dX1_redo_39 rfl ?_
    refine g_aload_n C 0 dX1_redo_40 rfl ?_
    refine g_getR C Kf cl_X1 (qF_X1_1 hK0) (by decide) dX1_redo_41 kf_X1_15 ?_
    refine g_iload_n C 2 dX1_redo_44 rfl ?_
    refine g_iald C Kf (qAC_15 hK0) dX1_redo_45 hf (fun hf => ?_)
    refine g_iast C Kf (qAC_16 hK0) dX1_redo_46 hf (fun σ_9 hf => ?_)
    refine g_iinc (d := 1) C 2 (fun x2_10 => [(2, .int x2_10), (0, .ref (K.2.1 13)), (1, .int x1)]) dX1_redo_47 rfl (by decide) (by decide) (fun _ => rfl) hf (fun x2_10 hf => ?_)
    refine g_goto C 25 dX1_redo_50 (by decide) ?_
    refine g_cut [1, 2, 0] rfl ?_
    exact ih _ _ hf
set_option maxHeartbeats 4000000 in
set_option maxRecDepth 100000 in
theorem wL1_redo_65 {X : Gx St} {K : Kx} (hK0 : isKC K) (σ : St) (x1 : Int32) (σ' : St) (C : gF X cX1_redo RX1 none 3 rmX1_redo) (Kf : kF X K) (hR : gR X K none σ') (k : St → Option (St)) (Hk : ∀ (σ_20 : St), k σ_20 = some σ' → gG X σ_20 86 [] []) : ∀ (n : Nat) (x2_15 : Int32) (σ_16 : St), L1_redo_65 x1 k n x2_15 σ_16 = some σ' → gG X σ_16 65 [(0, .ref (K.2.1 13)), (1, .int x1), (2, .int x2_15)] [] := by
  intro n
  induction n with
  | zero => intro _ _ hf; unfold L1_redo_65 at hf; cases hf
  | succ n ih =>
  intro x2_15 σ_16 hf
  unfold L1_redo_65 at hf
  refine g_iload_n C 2 dX1_redo_65 rfl ?_
  refine g_iload_n C 1 dX1_redo_66 rfl ?_
  refine g_icmp_ge C 86 dX1_redo_67 (by decide) hf (fun hf => ?_) (fun hf => ?_)
  · refine g_cut [] rfl ?_
    exact Hk _ hf
  · refine g_aload_n C 0 dX1_redo_70 rfl ?_
    refine g_aload_n C 0 dX1_redo_71 rfl ?_
    refine g_getR C Kf cl_X1 (qF_X1_6 hK0) (by decide) dX1_redo_72 kf_X1_30 ?_
    refine g_iload_n C 2 dX1_redo_75 rfl ?_
    refine g_iald C Kf (qAC_20 hK0) dX1_redo_76 hf (fun hf => ?_)
    obtain ⟨σ_18, h_17, hf⟩ := b1_some hf
    refine g_cV_v C Kf [.int (σ_16.1 20 x2_15.toNatClampNeg)] (mX1_carryOut hK0 X.1.2.1 σ_16 (σ_16.1 20 x2_15.toNatClampNeg) σ_18 h_17) mi_X1_carryOut (qO_X1 hK0) rfl km_X1_52 ⟨rfl, rfl, by decide, by decide⟩ rfl rfl (Nat.le_of_ble_eq_true rfl) dX1_redo_77 ?_
    refine g_iinc (d := 1) C 2 (fun x2_19 => [(2, .int x2_19), (0, .ref (K.2.1 13)), (1, .int x1)]) dX1_redo_80 rfl (by decide) (by decide) (fun _ => rfl) hf (fun x2_19 hf => ?_)
    refine g_goto C 65 dX1_redo_83 (by decide) ?_
    refine g_cut [1, 2, 0] rfl ?_
    exact ih _ _ hf
set_option maxHeartbeats 4000000 in
set_option maxRecDepth 100000 in
theorem mX1_redo {K : Kx} (hK0 : isKC K) (l : Launch) (σ : St) (x1 : Int32)  (σ' : St) (hf : f1_redo σ x1 = some σ') : mC K l yX1_redo cX1_redo 3 none rmX1_redo [.ref (K.2.1 13), .int x1] σ none σ' := by
  refine g_entry (own := RX1) rfl (by decide +kernel) (Nat.le_of_ble_eq_true rfl) (fun X hX C Kf hR => ?_)
  subst hX
  unfold f1_redo at hf
  show gG X σ 0 [(0, .ref (K.2.1 13)), (1, .int x1)] []
  refine g_iconst (v := 0) C dX1_redo_0 (by decide) ?_
  refine g_istore_n C [(2, .int 0), (0, .ref (K.2.1 13)), (1, .int x1)] dX1_redo_1 rfl (by decide) rfl ?_
  refine g_cut [1, 2, 0] rfl ?_
  refine wL1_redo_2 hK0 σ x1 _ C Kf hR _ (fun σ_6 hf => ?_) _ _ _ hf
  refine g_iconst (v := 0) C dX1_redo_23 (by decide) ?_
  refine g_istore_n C [(2, .int 0), (0, .ref (K.2.1 13)), (1, .int x1)] dX1_redo_24 rfl (by decide) rfl ?_
  refine g_cut [1, 2, 0] rfl ?_
  refine wL1_redo_25 hK0 σ_6 x1 _ C Kf hR _ (fun σ_12 hf => ?_) _ _ _ hf
  refine g_aload_n C 0 dX1_redo_53 rfl ?_
  refine g_iconst (v := 0) C dX1_redo_54 (by decide) ?_
  refine g_putI C Kf cl_X1 (qF_X1_8 hK0) (by decide) rfl rfl rfl dX1_redo_55 kf_X1_37 hf (fun σ_13 hf => ?_)
  refine g_aload_n C 0 dX1_redo_58 rfl ?_
  refine g_iload_n C 1 dX1_redo_59 rfl ?_
  refine g_putI C Kf cl_X1 (qF_X1_9 hK0) (by decide) rfl rfl rfl dX1_redo_60 kf_X1_40 hf (fun σ_14 hf => ?_)
  refine g_iconst (v := 0) C dX1_redo_63 (by decide) ?_
  refine g_istore_n C [(2, .int 0), (0, .ref (K.2.1 13)), (1, .int x1)] dX1_redo_64 rfl (by decide) rfl ?_
  refine g_cut [1, 2, 0] rfl ?_
  refine wL1_redo_65 hK0 σ_14 x1 _ C Kf hR _ (fun σ_21 hf => ?_) _ _ _ hf
  exact g_vretP C Kf hR dX1_redo_86 hf
abbrev rmX1_begin : Room := { frames := 6, cells := 0, slots := 0, locals := 143 }
set_option maxHeartbeats 4000000 in
set_option maxRecDepth 100000 in
theorem wL1_begin_10 {X : Gx St} {K : Kx} (hK0 : isKC K) (σ : St) (σ' : St) (C : gF X cX1_begin RX1 none 3 rmX1_begin) (Kf : kF X K) (hR : gR X K none σ') (k : St → Option (St)) (Hk : ∀ (σ_6 : St), k σ_6 = some σ' → gG X σ_6 36 [(0, .ref (K.2.1 13)), (1, .ref (K.2.1 10))] []) : ∀ (n : Nat) (x2_2 : Int32) (σ_3 : St), L1_begin_10 k n x2_2 σ_3 = some σ' → gG X σ_3 10 [(0, .ref (K.2.1 13)), (1, .ref (K.2.1 10)), (2, .int x2_2)] [] := by
  intro n
  induction n with
  | zero => intro _ _ hf; unfold L1_begin_10 at hf; cases hf
  | succ n ih =>
  intro x2_2 σ_3 hf
  unfold L1_begin_10 at hf
  refine g_iload_n C 2 dX1_begin_10 rfl ?_
  refine g_aload_n C 0 dX1_begin_11 rfl ?_
  refine g_getI C Kf cl_X1 (qF_X1_7 hK0) (by decide) dX1_begin_12 kf_X1_33 ?_
  refine g_icmp_ge C 36 dX1_begin_15 (by decide) hf (fun hf => ?_) (fun hf => ?_)
  · refine g_cut [0, 1] rfl ?_
    exact Hk _ hf
  · refine g_aload_n C 0 dX1_begin_18 rfl ?_
    refine g_getR C Kf cl_X1 (qF_X1_0 hK0) (by decide) dX1_begin_19 kf_X1_9 ?_
    refine g_iload_n C 2 dX1_begin_22 rfl ?_
    refine g_aload_n C 1 dX1_begin_23 rfl ?_
    refine g_getRN C Kf cl_X2 (qF_X2_0 hK0) (by decide) dX1_begin_24 kf_X1_46 ?_
    refine g_iload_n C 2 dX1_begin_27 rfl ?_
    refine g_iald C Kf (qAC_11 hK0) dX1_begin_28 hf (fun hf => ?_)
    refine g_iast C Kf (qAC_14 hK0) dX1_begin_29 hf (fun σ_4 hf => ?_)
    refine g_iinc (d := 1) C 2 (fun x2_5 => [(2, .int x2_5), (0, .ref (K.2.1 13)), (1, .ref (K.2.1 10))]) dX1_begin_30 rfl (by decide) (by decide) (fun _ => rfl) hf (fun x2_5 hf => ?_)
    refine g_goto C 10 dX1_begin_33 (by decide) ?_
    refine g_cut [1, 2, 0] rfl ?_
    exact ih _ _ hf
set_option maxHeartbeats 4000000 in
set_option maxRecDepth 100000 in
theorem wL1_begin_38 {X : Gx St} {K : Kx} (hK0 : isKC K) (σ : St) (σ' : St) (C : gF X cX1_begin RX1 none 3 rmX1_begin) (Kf : kF X K) (hR : gR X K none σ') (k : St → Option (St)) (Hk : ∀ (σ_12 : St), k σ_12 = some σ' → gG X σ_12 66 [(0, .ref (K.2.1 13))] []) : ∀ (n : Nat) (x2_8 : Int32) (σ_9 : St), L1_begin_38 k n x2_8 σ_9 = some σ' → gG X σ_9 38 [(0, .ref (K.2.1 13)), (1, .ref (K.2.1 10)), (2, .int x2_8)] [] := by
  intro n
  induction n with
  | zero => intro _ _ hf; unfold L1_begin_38 at hf; cases hf
  | succ n ih =>
  intro x2_8 σ_9 hf
  unfold L1_begin_38 at hf
  refine g_iload_n C 2 dX1_begin_38 rfl ?_
  refine g_aload_n C 0 dX1_begin_39 rfl ?_
  refine g_getI C Kf cl_X1 (qF_X1_7 hK0) (by decide) dX1_begin_40 kf_X1_33 ?_
  refine g_iconst (v := 3) C dX1_begin_43 (by decide) ?_
  refine g_imul C dX1_begin_44 ?_
  refine g_icmp_ge C 66 dX1_begin_45 (by decide) hf (fun hf => ?_) (fun hf => ?_)
  · refine g_cut [0] rfl ?_
    exact Hk _ hf
  · refine g_aload_n C 0 dX1_begin_48 rfl ?_
    refine g_getR C Kf cl_X1 (qF_X1_1 hK0) (by decide) dX1_begin_49 kf_X1_15 ?_
    refine g_iload_n C 2 dX1_begin_52 rfl ?_
    refine g_aload_n C 1 dX1_begin_53 rfl ?_
    refine g_getRN C Kf cl_X2 (qF_X2_1 hK0) (by decide) dX1_begin_54 kf_X1_47 ?_
    refine g_iload_n C 2 dX1_begin_57 rfl ?_
    refine g_iald C Kf (qAC_12 hK0) dX1_begin_58 hf (fun hf => ?_)
    refine g_iast C Kf (qAC_15 hK0) dX1_begin_59 hf (fun σ_10 hf => ?_)
    refine g_iinc (d := 1) C 2 (fun x2_11 => [(2, .int x2_11), (0, .ref (K.2.1 13)), (1, .ref (K.2.1 10))]) dX1_begin_60 rfl (by decide) (by decide) (fun _ => rfl) hf (fun x2_11 hf => ?_)
    refine g_goto C 38 dX1_begin_63 (by decide) ?_
    refine g_cut [1, 2, 0] rfl ?_
    exact ih _ _ hf
set_option maxHeartbeats 4000000 in
set_option maxRecDepth 100000 in
theorem mX1_begin {K : Kx} (hK0 : isKC K) (l : Launch) (σ : St)   (σ' : St) (hf : f1_begin σ = some σ') : mC K l yX1_begin cX1_begin 3 none rmX1_begin [.ref (K.2.1 13), .ref (K.2.1 10)] σ none σ' := by
  refine g_entry (own := RX1) rfl (by decide +kernel) (Nat.le_of_ble_eq_true rfl) (fun X hX C Kf hR => ?_)
  subst hX
  unfold f1_begin at hf
  show gG X σ 0 [(0, .ref (K.2.1 13)), (1, .ref (K.2.1 10))] []
  refine g_aload_n C 0 dX1_begin_0 rfl ?_
  refine g_aload_n C 1 dX1_begin_1 rfl ?_
  refine g_getIN C Kf cl_X2 (qF_X2_2 hK0) (by decide) dX1_begin_2 kf_X1_43 ?_
  refine g_putI C Kf cl_X1 (qF_X1_7 hK0) (by decide) rfl rfl rfl dX1_begin_5 kf_X1_33 hf (fun σ_1 hf => ?_)
  refine g_iconst (v := 0) C dX1_begin_8 (by decide) ?_
  refine g_istore_n C [(2, .int 0), (0, .ref (K.2.1 13)), (1, .ref (K.2.1 10))] dX1_begin_9 rfl (by decide) rfl ?_
  refine g_cut [1, 2, 0] rfl ?_
  refine wL1_begin_10 hK0 σ_1 _ C Kf hR _ (fun σ_7 hf => ?_) _ _ _ hf
  refine g_iconst (v := 0) C dX1_begin_36 (by decide) ?_
  refine g_istore_n C [(2, .int 0), (0, .ref (K.2.1 13)), (1, .ref (K.2.1 10))] dX1_begin_37 rfl (by decide) rfl ?_
  refine g_cut [1, 2, 0] rfl ?_
  refine wL1_begin_38 hK0 σ_7 _ C Kf hR _ (fun σ_13 hf => ?_) _ _ _ hf
  refine g_aload_n C 0 dX1_begin_66 rfl ?_
  refine g_iconst (v := 0) C dX1_begin_67 (by decide) ?_
  obtain ⟨σ_15, h_14, hf⟩ := b1_some hf
  refine g_cV_v C Kf [.int 0] (mX1_redo hK0 X.1.2.1 σ_13 0 σ_15 h_14) mi_X1_redo (qO_X1 hK0) rfl km_X1_48 ⟨rfl, rfl, by decide, by decide⟩ rfl rfl (Nat.le_of_ble_eq_true rfl) dX1_begin_68 ?_
  exact g_vretP C Kf hR dX1_begin_71 hf
abbrev rmX5_isOf : Room := { frames := 0, cells := 0, slots := 0, locals := 0 }
set_option maxHeartbeats 4000000 in
set_option maxRecDepth 100000 in
theorem mX5_isOf {K : Kx} (hK0 : isKC K) (l : Launch) (σ : St) (x0 : Int32) (x1 : Int32)  (r : Int32) (hf : f5_isOf σ x0 x1 = some r) : mC K l yX5_isOf cX5_isOf 2 (some .boolean) rmX5_isOf [.int x0, .int x1] σ (some (.int r)) σ := by
  refine g_entry (own := RX5) rfl (by decide +kernel) (Nat.le_of_ble_eq_true rfl) (fun X hX C Kf hR => ?_)
  subst hX
  unfold f5_isOf at hf
  show gG X σ 0 [(0, .int x0), (1, .int x1)] []
  refine g_iload_n C 0 dX5_isOf_0 rfl ?_
  refine g_iload_n C 1 dX5_isOf_1 rfl ?_
  refine g_icmp_eq C 14 dX5_isOf_2 (by decide) hf (fun hf => ?_) (fun hf => ?_)
  · refine g_iconst (v := 1) C dX5_isOf_14 (by decide) ?_
    refine g_goto C 19 dX5_isOf_15 (by decide) ?_
    exact g_zretR C Kf hR (Or.inr rfl) dX5_isOf_19 hf
  · refine g_sWid C Kf dX5_isOf_5 kf_X5_300 ?_
    refine g_iload_n C 0 dX5_isOf_8 rfl ?_
    refine g_sWidLd C Kf dX5_isOf_9 hf (fun hf => ?_)
    refine g_iload_n C 1 dX5_isOf_10 rfl ?_
    refine g_icmp_ne C 18 dX5_isOf_11 (by decide) hf (fun hf => ?_) (fun hf => ?_)
    · refine g_iconst (v := 0) C dX5_isOf_18 (by decide) ?_
      exact g_zretR C Kf hR (Or.inl rfl) dX5_isOf_19 hf
    · refine g_iconst (v := 1) C dX5_isOf_14 (by decide) ?_
      refine g_goto C 19 dX5_isOf_15 (by decide) ?_
      exact g_zretR C Kf hR (Or.inr rfl) dX5_isOf_19 hf
abbrev rmX1_manyOf : Room := { frames := 1, cells := 0, slots := 0, locals := 21 }
set_option maxHeartbeats 4000000 in
set_option maxRecDepth 100000 in
theorem wL1_manyOf_4 {X : Gx St} {K : Kx} (hK0 : isKC K) (σ : St) (x1 : Int32) (r : Int32) (C : gF X cX1_manyOf RX1 (some .int) 4 rmX1_manyOf) (Kf : kF X K) (hR : gR X K (some (.int r)) σ) (k : Int32 → Option (Int32)) (Hk : ∀ (x2_3 : Int32), k x2_3 = some r → gG X σ 34 [(2, .int x2_3)] []) : ∀ (n : Nat) (x2_1 : Int32) (x3_2 : Int32), L1_manyOf_4 σ x1 k n x2_1 x3_2 = some r → gG X σ 4 [(0, .ref (K.2.1 13)), (1, .int x1), (2, .int x2_1), (3, .int x3_2)] [] := by
  intro n
  induction n with
  | zero => intro _ _ hf; unfold L1_manyOf_4 at hf; cases hf
  | succ n ih =>
  intro x2_1 x3_2 hf
  unfold L1_manyOf_4 at hf
  refine g_iload_n C 3 dX1_manyOf_4 rfl ?_
  refine g_aload_n C 0 dX1_manyOf_5 rfl ?_
  refine g_getI C Kf cl_X1 (qF_X1_7 hK0) (by decide) dX1_manyOf_6 kf_X1_33 ?_
  refine g_icmp_ge C 34 dX1_manyOf_9 (by decide) hf (fun hf => ?_) (fun hf => ?_)
  · refine g_cut [2] rfl ?_
    exact Hk _ hf
  · refine g_aload_n C 0 dX1_manyOf_12 rfl ?_
    refine g_getR C Kf cl_X1 (qF_X1_0 hK0) (by decide) dX1_manyOf_13 kf_X1_9 ?_
    refine g_iload_n C 3 dX1_manyOf_16 rfl ?_
    refine g_iald C Kf (qAC_14 hK0) dX1_manyOf_17 hf (fun hf => ?_)
    refine g_iload_n C 1 dX1_manyOf_18 rfl ?_
    obtain ⟨r_5, h_4, hf⟩ := b1_some hf
    refine g_cSN_i C Kf [.int (σ.1 14 x3_2.toNatClampNeg), .int x1] (mX5_isOf hK0 X.1.2.1 σ (σ.1 14 x3_2.toNatClampNeg) x1 r_5 h_4) mi_X5_isOf km_X1_84 ⟨rfl, rfl, by decide, by decide⟩ rfl rfl (Nat.le_of_ble_eq_true rfl) dX1_manyOf_19 ?_
    refine g_jn hf (fun j_7 ej_9 hf => ?_)
    have HJ_8 : ∀ (x2_6 : Int32), j_7 x2_6 = some r → gG X σ 28 [(0, .ref (K.2.1 13)), (1, .int x1), (2, .int x2_6), (3, .int x3_2)] [] := by
      intro x2_6 hf
      rw [ej_9] at hf
      refine g_iinc (d := 1) C 3 (fun x3_10 => [(3, .int x3_10), (0, .ref (K.2.1 13)), (1, .int x1), (2, .int x2_6)]) dX1_manyOf_28 rfl (by decide) (by decide) (fun _ => rfl) hf (fun x3_10 hf => ?_)
      refine g_goto C 4 dX1_manyOf_31 (by decide) ?_
      refine g_cut [1, 2, 3, 0] rfl ?_
      exact ih _ _ hf
    refine g_if_eq C 28 dX1_manyOf_22 (by decide) hf (fun hf => ?_) (fun hf => ?_)
    · exact HJ_8 _ hf
    · refine g_iinc (d := 1) C 2 (fun x2_11 => [(2, .int x2_11), (0, .ref (K.2.1 13)), (1, .int x1), (3, .int x3_2)]) dX1_manyOf_25 rfl (by decide) (by decide) (fun _ => rfl) hf (fun x2_11 hf => ?_)
      refine g_cut [1, 2, 0, 3] rfl ?_
      exact HJ_8 _ hf
set_option maxHeartbeats 4000000 in
set_option maxRecDepth 100000 in
theorem mX1_manyOf {K : Kx} (hK0 : isKC K) (l : Launch) (σ : St) (x1 : Int32)  (r : Int32) (hf : f1_manyOf σ x1 = some r) : mC K l yX1_manyOf cX1_manyOf 4 (some .int) rmX1_manyOf [.ref (K.2.1 13), .int x1] σ (some (.int r)) σ := by
  refine g_entry (own := RX1) rfl (by decide +kernel) (Nat.le_of_ble_eq_true rfl) (fun X hX C Kf hR => ?_)
  subst hX
  unfold f1_manyOf at hf
  show gG X σ 0 [(0, .ref (K.2.1 13)), (1, .int x1)] []
  refine g_iconst (v := 0) C dX1_manyOf_0 (by decide) ?_
  refine g_istore_n C [(2, .int 0), (0, .ref (K.2.1 13)), (1, .int x1)] dX1_manyOf_1 rfl (by decide) rfl ?_
  refine g_iconst (v := 0) C dX1_manyOf_2 (by decide) ?_
  refine g_istore_n C [(3, .int 0), (2, .int 0), (0, .ref (K.2.1 13)), (1, .int x1)] dX1_manyOf_3 rfl (by decide) rfl ?_
  refine g_cut [2, 3, 1, 0] rfl ?_
  refine wL1_manyOf_4 hK0 σ x1 _ C Kf hR _ (fun x2_12 hf => ?_) _ _ _ hf
  refine g_iload_n C 0 dX1_manyOf_34 rfl ?_
  exact g_iretR C Kf hR dX1_manyOf_35 hf
