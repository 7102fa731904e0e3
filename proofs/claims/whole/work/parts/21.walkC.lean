abbrev rmX5_placeIn : Room := { frames := 0, cells := 0, slots := 0, locals := 0 }
set_option maxHeartbeats 4000000 in
set_option maxRecDepth 100000 in
theorem wL5_placeIn_2 {X : Gx St} {K : Kx} (hK0 : isKC K) (σ : St) (a0 : Nat) (ha0 : 0 < lnC a0) (x1 : Int32) (x2 : Int32) (r : Int32) (C : gF X cX5_placeIn RX5 (some .int) 4 rmX5_placeIn) (Kf : kF X K) (hR : gR X K (some (.int r)) σ) (k : Option (Int32)) (Hk : k = some r → gG X σ 22 [] []) : ∀ (n : Nat) (x3_1 : Int32), L5_placeIn_2 σ a0 x1 x2 k n x3_1 = some r → gG X σ 2 [(0, .ref (K.2.1 a0)), (1, .int x1), (2, .int x2), (3, .int x3_1)] [] := by
  intro n
  induction n with
  | zero => intro _ hf; unfold L5_placeIn_2 at hf; cases hf
  | succ n ih =>
  intro x3_1 hf
  unfold L5_placeIn_2 at hf
  refine g_iload_n C 3 dX5_placeIn_2 rfl ?_
  refine g_iload_n C 2 dX5_placeIn_3 rfl ?_
  refine g_icmp_ge C 22 dX5_placeIn_4 (by decide) hf (fun hf => ?_) (fun hf => ?_)
  · refine g_cut [] rfl ?_
    exact Hk hf
  · refine g_aload_n C 0 dX5_placeIn_7 rfl ?_
    refine g_iload_n C 3 dX5_placeIn_8 rfl ?_
    refine g_iald C Kf (qAC hK0 ha0) dX5_placeIn_9 hf (fun hf => ?_)
    refine g_iload_n C 1 dX5_placeIn_10 rfl ?_
    refine g_icmp_ne C 16 dX5_placeIn_11 (by decide) hf (fun hf => ?_) (fun hf => ?_)
    · refine g_iinc (d := 1) C 3 (fun x3_2 => [(3, .int x3_2), (0, .ref (K.2.1 a0)), (1, .int x1), (2, .int x2)]) dX5_placeIn_16 rfl (by decide) (by decide) (fun _ => rfl) hf (fun x3_2 hf => ?_)
      refine g_goto C 2 dX5_placeIn_19 (by decide) ?_
      refine g_cut [1, 2, 3, 0] rfl ?_
      exact ih _ hf
    · refine g_iload_n C 3 dX5_placeIn_14 rfl ?_
      exact g_iretR C Kf hR dX5_placeIn_15 hf
set_option maxHeartbeats 4000000 in
set_option maxRecDepth 100000 in
theorem mX5_placeIn {K : Kx} (hK0 : isKC K) (l : Launch) (σ : St) (a0 : Nat) (x1 : Int32) (x2 : Int32) (ha0 : 0 < lnC a0) (r : Int32) (hf : f5_placeIn σ a0 x1 x2 = some r) : mC K l yX5_placeIn cX5_placeIn 4 (some .int) rmX5_placeIn [.ref (K.2.1 a0), .int x1, .int x2] σ (some (.int r)) σ := by
  refine g_entry (own := RX5) rfl (by decide +kernel) (Nat.le_of_ble_eq_true rfl) (fun X hX C Kf hR => ?_)
  subst hX
  unfold f5_placeIn at hf
  show gG X σ 0 [(0, .ref (K.2.1 a0)), (1, .int x1), (2, .int x2)] []
  refine g_iconst (v := 0) C dX5_placeIn_0 (by decide) ?_
  refine g_istore_n C [(3, .int 0), (0, .ref (K.2.1 a0)), (1, .int x1), (2, .int x2)] dX5_placeIn_1 rfl (by decide) rfl ?_
  refine g_cut [1, 2, 3, 0] rfl ?_
  refine wL5_placeIn_2 hK0 σ a0 ha0 x1 x2 _ C Kf hR _ (fun  hf => ?_) _ _ hf
  refine g_bipush (v := (-9)) C dX5_placeIn_22 (by decide) ?_
  exact g_iretR C Kf hR dX5_placeIn_24 hf
abbrev rmX1_placeOf : Room := { frames := 1, cells := 0, slots := 0, locals := 23 }
set_option maxHeartbeats 4000000 in
set_option maxRecDepth 100000 in
theorem mX1_placeOf {K : Kx} (hK0 : isKC K) (l : Launch) (σ : St) (x1 : Int32)  (r : Int32) (hf : f1_placeOf σ x1 = some r) : mC K l yX1_placeOf cX1_placeOf 2 (some .int) rmX1_placeOf [.ref (K.2.1 13), .int x1] σ (some (.int r)) σ := by
  refine g_entry (own := RX1) rfl (by decide +kernel) (Nat.le_of_ble_eq_true rfl) (fun X hX C Kf hR => ?_)
  subst hX
  unfold f1_placeOf at hf
  show gG X σ 0 [(0, .ref (K.2.1 13)), (1, .int x1)] []
  refine g_aload_n C 0 dX1_placeOf_0 rfl ?_
  refine g_getR C Kf cl_X1 (qF_X1_3 hK0) (by decide) dX1_placeOf_1 kf_X1_21 ?_
  refine g_iload_n C 1 dX1_placeOf_4 rfl ?_
  refine g_aload_n C 0 dX1_placeOf_5 rfl ?_
  refine g_getI C Kf cl_X1 (qF_X1_7 hK0) (by decide) dX1_placeOf_6 kf_X1_33 ?_
  obtain ⟨r_2, h_1, hf⟩ := b1_some hf
  refine g_cSN_i C Kf [.ref (K.2.1 17), .int x1, .int (σ.1 13 7)] (mX5_placeIn hK0 X.1.2.1 σ 17 x1 (σ.1 13 7) (by decide) r_2 h_1) mi_X5_placeIn km_X1_73 ⟨rfl, rfl, by decide, by decide⟩ rfl rfl (Nat.le_of_ble_eq_true rfl) dX1_placeOf_9 ?_
  exact g_iretR C Kf hR dX1_placeOf_12 hf
abbrev rmX1_readsBehind : Room := { frames := 3, cells := 0, slots := 0, locals := 68 }
set_option maxHeartbeats 4000000 in
set_option maxRecDepth 100000 in
theorem mX1_readsBehind {K : Kx} (hK0 : isKC K) (l : Launch) (σ : St) (x1 : Int32) (x2 : Int32) (x3 : Int32)  (r : Int32) (hf : f1_readsBehind σ x1 x2 x3 = some r) : mC K l yX1_readsBehind cX1_readsBehind 4 (some .int) rmX1_readsBehind [.ref (K.2.1 13), .int x1, .int x2, .int x3] σ (some (.int r)) σ := by
  refine g_entry (own := RX1) rfl (by decide +kernel) (Nat.le_of_ble_eq_true rfl) (fun X hX C Kf hR => ?_)
  subst hX
  unfold f1_readsBehind at hf
  show gG X σ 0 [(0, .ref (K.2.1 13)), (1, .int x1), (2, .int x2), (3, .int x3)] []
  refine g_aload_n C 0 dX1_readsBehind_0 rfl ?_
  refine g_getR C Kf cl_X1 (qF_X1_0 hK0) (by decide) dX1_readsBehind_1 kf_X1_9 ?_
  refine g_iload_n C 1 dX1_readsBehind_4 rfl ?_
  refine g_iald C Kf (qAC_14 hK0) dX1_readsBehind_5 hf (fun hf => ?_)
  refine g_aload_n C 0 dX1_readsBehind_6 rfl ?_
  refine g_getR C Kf cl_X1 (qF_X1_2 hK0) (by decide) dX1_readsBehind_7 kf_X1_18 ?_
  refine g_iload_n C 1 dX1_readsBehind_10 rfl ?_
  refine g_iconst (v := 3) C dX1_readsBehind_11 (by decide) ?_
  refine g_imul C dX1_readsBehind_12 ?_
  refine g_iload_n C 2 dX1_readsBehind_13 rfl ?_
  refine g_iload_n C 3 dX1_readsBehind_14 rfl ?_
  obtain ⟨r_2, h_1, hf⟩ := b1_some hf
  refine g_cSN_i C Kf [.int (σ.1 14 x1.toNatClampNeg), .ref (K.2.1 16), .int (x1 * 3), .int x2, .int x3] (mX5_reading hK0 X.1.2.1 σ (σ.1 14 x1.toNatClampNeg) 16 (x1 * 3) x2 x3 (by decide) r_2 h_1) mi_X5_reading km_X1_69 ⟨rfl, rfl, by decide, by decide⟩ rfl rfl (Nat.le_of_ble_eq_true rfl) dX1_readsBehind_15 ?_
  exact g_iretR C Kf hR dX1_readsBehind_18 hf
abbrev rmX1_sumOf : Room := { frames := 1, cells := 0, slots := 0, locals := 22 }
set_option maxHeartbeats 4000000 in
set_option maxRecDepth 100000 in
theorem wL1_sumOf_5 {X : Gx St} {K : Kx} (hK0 : isKC K) (σ : St) (x1 : Int32) (x2 : Int32) (r : Int32) (C : gF X cX1_sumOf RX1 (some .int) 5 rmX1_sumOf) (Kf : kF X K) (hR : gR X K (some (.int r)) σ) (k : Int32 → Option (Int32)) (Hk : ∀ (x3_3 : Int32), k x3_3 = some r → gG X σ 39 [(3, .int x3_3)] []) : ∀ (n : Nat) (x3_1 : Int32) (x4_2 : Int32), L1_sumOf_5 σ x1 x2 k n x3_1 x4_2 = some r → gG X σ 5 [(0, .ref (K.2.1 13)), (1, .int x1), (2, .int x2), (3, .int x3_1), (4, .int x4_2)] [] := by
  intro n
  induction n with
  | zero => intro _ _ hf; unfold L1_sumOf_5 at hf; cases hf
  | succ n ih =>
  intro x3_1 x4_2 hf
  unfold L1_sumOf_5 at hf
  refine g_iload C 4 dX1_sumOf_5 rfl ?_
  refine g_aload_n C 0 dX1_sumOf_7 rfl ?_
  refine g_getI C Kf cl_X1 (qF_X1_7 hK0) (by decide) dX1_sumOf_8 kf_X1_33 ?_
  refine g_icmp_ge C 39 dX1_sumOf_11 (by decide) hf (fun hf => ?_) (fun hf => ?_)
  · refine g_cut [3] rfl ?_
    exact Hk _ hf
  · refine g_iload_n C 1 dX1_sumOf_14 rfl ?_
    refine g_iload C 4 dX1_sumOf_15 rfl ?_
    refine g_ishr C dX1_sumOf_17 ?_
    refine g_iconst (v := 1) C dX1_sumOf_18 (by decide) ?_
    refine g_iand C dX1_sumOf_19 ?_
    refine g_jn hf (fun j_5 ej_7 hf => ?_)
    have HJ_6 : ∀ (x3_4 : Int32), j_5 x3_4 = some r → gG X σ 33 [(0, .ref (K.2.1 13)), (1, .int x1), (2, .int x2), (3, .int x3_4), (4, .int x4_2)] [] := by
      intro x3_4 hf
      rw [ej_7] at hf
      refine g_iinc (d := 1) C 4 (fun x4_8 => [(4, .int x4_8), (0, .ref (K.2.1 13)), (1, .int x1), (2, .int x2), (3, .int x3_4)]) dX1_sumOf_33 rfl (by decide) (by decide) (fun _ => rfl) hf (fun x4_8 hf => ?_)
      refine g_goto C 5 dX1_sumOf_36 (by decide) ?_
      refine g_cut [1, 2, 3, 4, 0] rfl ?_
      exact ih _ _ hf
    refine g_if_eq C 33 dX1_sumOf_20 (by decide) hf (fun hf => ?_) (fun hf => ?_)
    · exact HJ_6 _ hf
    · refine g_iload_n C 3 dX1_sumOf_23 rfl ?_
      refine g_aload_n C 0 dX1_sumOf_24 rfl ?_
      refine g_iload C 4 dX1_sumOf_25 rfl ?_
      refine g_iload_n C 2 dX1_sumOf_27 rfl ?_
      obtain ⟨r_10, h_9, hf⟩ := b1_some hf
      refine g_cV_i C Kf [.int x4_2, .int x2] (mX1_figureOf hK0 X.1.2.1 σ x4_2 x2 r_10 h_9) mi_X1_figureOf (qO_X1 hK0) rfl km_X1_77 ⟨rfl, rfl, by decide, by decide⟩ rfl rfl (Nat.le_of_ble_eq_true rfl) dX1_sumOf_28 ?_
      refine g_iadd C dX1_sumOf_31 ?_
      refine g_istore_nB C (fun x3_11 => [(3, .int x3_11), (0, .ref (K.2.1 13)), (1, .int x1), (2, .int x2), (4, .int x4_2)]) dX1_sumOf_32 rfl (by decide) (fun _ => rfl) hf (fun x3_11 hf => ?_)
      refine g_cut [1, 2, 3, 0, 4] rfl ?_
      exact HJ_6 _ hf
set_option maxHeartbeats 4000000 in
set_option maxRecDepth 100000 in
theorem mX1_sumOf {K : Kx} (hK0 : isKC K) (l : Launch) (σ : St) (x1 : Int32) (x2 : Int32)  (r : Int32) (hf : f1_sumOf σ x1 x2 = some r) : mC K l yX1_sumOf cX1_sumOf 5 (some .int) rmX1_sumOf [.ref (K.2.1 13), .int x1, .int x2] σ (some (.int r)) σ := by
  refine g_entry (own := RX1) rfl (by decide +kernel) (Nat.le_of_ble_eq_true rfl) (fun X hX C Kf hR => ?_)
  subst hX
  unfold f1_sumOf at hf
  show gG X σ 0 [(0, .ref (K.2.1 13)), (1, .int x1), (2, .int x2)] []
  refine g_iconst (v := 0) C dX1_sumOf_0 (by decide) ?_
  refine g_istore_n C [(3, .int 0), (0, .ref (K.2.1 13)), (1, .int x1), (2, .int x2)] dX1_sumOf_1 rfl (by decide) rfl ?_
  refine g_iconst (v := 0) C dX1_sumOf_2 (by decide) ?_
  refine g_istore C [(4, .int 0), (3, .int 0), (0, .ref (K.2.1 13)), (1, .int x1), (2, .int x2)] dX1_sumOf_3 (by decide) rfl ?_
  refine g_cut [2, 3, 4, 1, 0] rfl ?_
  refine wL1_sumOf_5 hK0 σ x1 x2 _ C Kf hR _ (fun x3_12 hf => ?_) _ _ _ hf
  refine g_iload_n C 0 dX1_sumOf_39 rfl ?_
  exact g_iretR C Kf hR dX1_sumOf_40 hf
abbrev rmX1_sumOfAll : Room := { frames := 2, cells := 0, slots := 0, locals := 46 }
set_option maxHeartbeats 4000000 in
set_option maxRecDepth 100000 in
theorem wL1_sumOfAll_4 {X : Gx St} {K : Kx} (hK0 : isKC K) (σ : St) (r : Int32) (C : gF X cX1_sumOfAll RX1 (some .int) 3 rmX1_sumOfAll) (Kf : kF X K) (hR : gR X K (some (.int r)) σ) (k : Int32 → Option (Int32)) (Hk : ∀ (x1_3 : Int32), k x1_3 = some r → gG X σ 31 [(1, .int x1_3)] []) : ∀ (n : Nat) (x1_1 : Int32) (x2_2 : Int32), L1_sumOfAll_4 σ k n x1_1 x2_2 = some r → gG X σ 4 [(0, .ref (K.2.1 13)), (1, .int x1_1), (2, .int x2_2)] [] := by
  intro n
  induction n with
  | zero => intro _ _ hf; unfold L1_sumOfAll_4 at hf; cases hf
  | succ n ih =>
  intro x1_1 x2_2 hf
  unfold L1_sumOfAll_4 at hf
  refine g_iload_n C 2 dX1_sumOfAll_4 rfl ?_
  refine g_iconst (v := 3) C dX1_sumOfAll_5 (by decide) ?_
  refine g_icmp_ge C 31 dX1_sumOfAll_6 (by decide) hf (fun hf => ?_) (fun hf => ?_)
  · refine g_cut [1] rfl ?_
    exact Hk _ hf
  · refine g_iload_n C 1 dX1_sumOfAll_9 rfl ?_
    refine g_aload_n C 0 dX1_sumOfAll_10 rfl ?_
    refine g_iconst (v := 1) C dX1_sumOfAll_11 (by decide) ?_
    refine g_aload_n C 0 dX1_sumOfAll_12 rfl ?_
    refine g_getI C Kf cl_X1 (qF_X1_7 hK0) (by decide) dX1_sumOfAll_13 kf_X1_33 ?_
    refine g_ishl C dX1_sumOfAll_16 ?_
    refine g_iconst (v := 1) C dX1_sumOfAll_17 (by decide) ?_
    refine g_isub C dX1_sumOfAll_18 ?_
    refine g_iload_n C 2 dX1_sumOfAll_19 rfl ?_
    obtain ⟨r_5, h_4, hf⟩ := b1_some hf
    refine g_cV_i C Kf [.int ((1 <<< ((σ.1 13 7) &&& 31)) - 1), .int x2_2] (mX1_sumOf hK0 X.1.2.1 σ ((1 <<< ((σ.1 13 7) &&& 31)) - 1) x2_2 r_5 h_4) mi_X1_sumOf (qO_X1 hK0) rfl km_X1_81 ⟨rfl, rfl, by decide, by decide⟩ rfl rfl (Nat.le_of_ble_eq_true rfl) dX1_sumOfAll_20 ?_
    refine g_iadd C dX1_sumOfAll_23 ?_
    refine g_istore_nB C (fun x1_6 => [(1, .int x1_6), (0, .ref (K.2.1 13)), (2, .int x2_2)]) dX1_sumOfAll_24 rfl (by decide) (fun _ => rfl) hf (fun x1_6 hf => ?_)
    refine g_iinc (d := 1) C 2 (fun x2_7 => [(2, .int x2_7), (1, .int x1_6), (0, .ref (K.2.1 13))]) dX1_sumOfAll_25 rfl (by decide) (by decide) (fun _ => rfl) hf (fun x2_7 hf => ?_)
    refine g_goto C 4 dX1_sumOfAll_28 (by decide) ?_
    refine g_cut [2, 1, 0] rfl ?_
    exact ih _ _ hf
set_option maxHeartbeats 4000000 in
set_option maxRecDepth 100000 in
theorem mX1_sumOfAll {K : Kx} (hK0 : isKC K) (l : Launch) (σ : St)   (r : Int32) (hf : f1_sumOfAll σ = some r) : mC K l yX1_sumOfAll cX1_sumOfAll 3 (some .int) rmX1_sumOfAll [.ref (K.2.1 13)] σ (some (.int r)) σ := by
  refine g_entry (own := RX1) rfl (by decide +kernel) (Nat.le_of_ble_eq_true rfl) (fun X hX C Kf hR => ?_)
  subst hX
  unfold f1_sumOfAll at hf
  show gG X σ 0 [(0, .ref (K.2.1 13))] []
  refine g_iconst (v := 0) C dX1_sumOfAll_0 (by decide) ?_
  refine g_istore_n C [(1, .int 0), (0, .ref (K.2.1 13))] dX1_sumOfAll_1 rfl (by decide) rfl ?_
  refine g_iconst (v := 0) C dX1_sumOfAll_2 (by decide) ?_
  refine g_istore_n C [(2, .int 0), (1, .int 0), (0, .ref (K.2.1 13))] dX1_sumOfAll_3 rfl (by decide) rfl ?_
  refine g_cut [2, 1, 0] rfl ?_
  refine wL1_sumOfAll_4 hK0 σ _ C Kf hR _ (fun x1_8 hf => ?_) _ _ _ hf
  refine g_iload_n C 0 dX1_sumOfAll_31 rfl ?_
  exact g_iretR C Kf hR dX1_sumOfAll_32 hf
abbrev rmX2_kindBy : Room := { frames := 0, cells := 0, slots := 0, locals := 0 }
set_option maxHeartbeats 4000000 in
set_option maxRecDepth 100000 in
theorem wL2_kindBy_2 {X : Gx St} {K : Kx} (hK0 : isKC K) (σ : St) (x0 : Int32) (r : Int32) (C : gF X cX2_kindBy RX2 (some .int) 2 rmX2_kindBy) (Kf : kF X K) (hR : gR X K (some (.int r)) σ) (k : Option (Int32)) (Hk : k = some r → gG X σ 25 [] []) : ∀ (n : Nat) (x1_1 : Int32), L2_kindBy_2 σ x0 k n x1_1 = some r → gG X σ 2 [(0, .int x0), (1, .int x1_1)] [] := by
  intro n
  induction n with
  | zero => intro _ hf; unfold L2_kindBy_2 at hf; cases hf
  | succ n ih =>
  intro x1_1 hf
  unfold L2_kindBy_2 at hf
  refine g_iload_n C 1 dX2_kindBy_2 rfl ?_
  refine g_bipush (v := 6) C dX2_kindBy_3 (by decide) ?_
  refine g_icmp_ge C 25 dX2_kindBy_5 (by decide) hf (fun hf => ?_) (fun hf => ?_)
  · refine g_cut [] rfl ?_
    exact Hk hf
  · refine g_sLetN C Kf dX2_kindBy_8 kf_X2_35 ?_
    refine g_iload_n C 1 dX2_kindBy_11 rfl ?_
    refine g_sLetLd C Kf dX2_kindBy_12 hf (fun hf => ?_)
    refine g_iload_n C 0 dX2_kindBy_13 rfl ?_
    refine g_icmp_ne C 19 dX2_kindBy_14 (by decide) hf (fun hf => ?_) (fun hf => ?_)
    · refine g_iinc (d := 1) C 1 (fun x1_2 => [(1, .int x1_2), (0, .int x0)]) dX2_kindBy_19 rfl (by decide) (by decide) (fun _ => rfl) hf (fun x1_2 hf => ?_)
      refine g_goto C 2 dX2_kindBy_22 (by decide) ?_
      refine g_cut [1, 0] rfl ?_
      exact ih _ hf
    · refine g_iload_n C 1 dX2_kindBy_17 rfl ?_
      exact g_iretR C Kf hR dX2_kindBy_18 hf
set_option maxHeartbeats 4000000 in
set_option maxRecDepth 100000 in
theorem mX2_kindBy {K : Kx} (hK0 : isKC K) (l : Launch) (σ : St) (x0 : Int32)  (r : Int32) (hf : f2_kindBy σ x0 = some r) : mC K l yX2_kindBy cX2_kindBy 2 (some .int) rmX2_kindBy [.int x0] σ (some (.int r)) σ := by
  refine g_entry (own := RX2) rfl (by decide +kernel) (Nat.le_of_ble_eq_true rfl) (fun X hX C Kf hR => ?_)
  subst hX
  unfold f2_kindBy at hf
  show gG X σ 0 [(0, .int x0)] []
  refine g_iconst (v := 0) C dX2_kindBy_0 (by decide) ?_
  refine g_istore_n C [(1, .int 0), (0, .int x0)] dX2_kindBy_1 rfl (by decide) rfl ?_
  refine g_cut [1, 0] rfl ?_
  refine wL2_kindBy_2 hK0 σ x0 _ C Kf hR _ (fun  hf => ?_) _ _ hf
  refine g_bipush (v := (-9)) C dX2_kindBy_25 (by decide) ?_
  exact g_iretR C Kf hR dX2_kindBy_27 hf
abbrev rmX2_faultOf : Room := { frames := 3, cells := 0, slots := 0, locals := 66 }
set_option maxHeartbeats 4000000 in
set_option maxRecDepth 100000 in
theorem wL2_faultOf_17 {X : Gx St} {K : Kx} (hK0 : isKC K) (σ : St) (x2 : Int32) (x3 : Int32) (r : Int32) (σ' : St) (C : gF X cX2_faultOf RX2 (some .int) 8 rmX2_faultOf) (Kf : kF X K) (hR : gR X K (some (.int r)) σ') (k : Int32 → St → Option (Int32 × St)) (Hk : ∀ (x4_7 : Int32) (σ_23 : St), k x4_7 σ_23 = some (r, σ') → gG X σ_23 147 [(0, .ref (K.2.1 10)), (3, .int x3), (4, .int x4_7)] []) : ∀ (n : Nat) (x4_4 : Int32) (x5_5 : Int32) (σ_6 : St), L2_faultOf_17 x2 x3 k n x4_4 x5_5 σ_6 = some (r, σ') → gG X σ_6 17 [(0, .ref (K.2.1 10)), (1, .ref (K.2.1 4)), (2, .int x2), (3, .int x3), (4, .int x4_4), (5, .int x5_5)] [] := by
  intro n
  induction n with
  | zero => intro _ _ _ hf; unfold L2_faultOf_17 at hf; cases hf
  | succ n ih =>
  intro x4_4 x5_5 σ_6 hf
  unfold L2_faultOf_17 at hf
  refine g_iload C 5 dX2_faultOf_17 rfl ?_
  refine g_iload_n C 3 dX2_faultOf_19 rfl ?_
  refine g_icmp_ge C 147 dX2_faultOf_20 (by decide) hf (fun hf => ?_) (fun hf => ?_)
  · refine g_cut [0, 3, 4] rfl ?_
    exact Hk _ _ hf
  · refine g_aload_n C 1 dX2_faultOf_23 rfl ?_
    refine g_iload_n C 2 dX2_faultOf_24 rfl ?_
    refine g_iload C 5 dX2_faultOf_25 rfl ?_
    obtain ⟨r_9, h_8, hf⟩ := b1_some hf
    refine g_cVN_i C Kf [.int x2, .int x5_5] (mX3_get hK0 X.1.2.1 σ_6 4 x2 x5_5 (sh_4) r_9 h_8) mi_X3_get (qO_X3 hK0 sh_4) rfl km_X2_28 ⟨rfl, rfl, by decide, by decide⟩ rfl rfl (Nat.le_of_ble_eq_true rfl) dX2_faultOf_27 ?_
    refine g_istore C [(6, .int r_9), (0, .ref (K.2.1 10)), (1, .ref (K.2.1 4)), (2, .int x2), (3, .int x3), (4, .int x4_4), (5, .int x5_5)] dX2_faultOf_30 (by decide) rfl ?_
    refine g_iload C 5 dX2_faultOf_32 rfl ?_
    refine g_iconst (v := 3) C dX2_faultOf_34 (by decide) ?_
    refine g_jn hf (fun j_12 ej_14 hf => ?_)
    have HJ_13 : ∀ (x4_10 : Int32) (σ_11 : St), j_12 x4_10 σ_11 = some (r, σ') → gG X σ_11 141 [(0, .ref (K.2.1 10)), (1, .ref (K.2.1 4)), (2, .int x2), (3, .int x3), (4, .int x4_10), (5, .int x5_5)] [] := by
      intro x4_10 σ_11 hf
      rw [ej_14] at hf
      refine g_iinc (d := 1) C 5 (fun x5_15 => [(5, .int x5_15), (0, .ref (K.2.1 10)), (1, .ref (K.2.1 4)), (2, .int x2), (3, .int x3), (4, .int x4_10)]) dX2_faultOf_141 rfl (by decide) (by decide) (fun _ => rfl) hf (fun x5_15 hf => ?_)
      refine g_goto C 17 dX2_faultOf_144 (by decide) ?_
      refine g_cut [1, 2, 3, 4, 5, 0] rfl ?_
      exact ih _ _ _ hf
    refine g_icmp_ge C 84 dX2_faultOf_35 (by decide) hf (fun hf => ?_) (fun hf => ?_)
    · refine g_iload C 0 dX2_faultOf_84 rfl ?_
      refine g_bipush (v := 32) C dX2_faultOf_86 (by decide) ?_
      refine g_icmp_eq C 141 dX2_faultOf_88 (by decide) hf (fun hf => ?_) (fun hf => ?_)
      · refine g_cut [1, 2, 3, 4, 5, 6] rfl ?_
        exact HJ_13 _ _ hf
      · refine g_iload C 0 dX2_faultOf_91 rfl ?_
        obtain ⟨r_17, h_16, hf⟩ := b1_some hf
        refine g_cS_i C Kf [.int r_9] (mX2_kindBy hK0 X.1.2.1 σ_6 r_9 r_17 h_16) mi_X2_kindBy km_X2_32 ⟨rfl, rfl, by decide, by decide⟩ rfl rfl (Nat.le_of_ble_eq_true rfl) dX2_faultOf_93 ?_
        refine g_istore C [(7, .int r_17), (6, .int r_9), (0, .ref (K.2.1 10)), (1, .ref (K.2.1 4)), (2, .int x2), (3, .int x3), (4, .int x4_4), (5, .int x5_5)] dX2_faultOf_96 (by decide) rfl ?_
        refine g_iload C 0 dX2_faultOf_98 rfl ?_
        refine g_bipush (v := (-9)) C dX2_faultOf_100 (by decide) ?_
        refine g_icmp_eq C 114 dX2_faultOf_102 (by decide) hf (fun hf => ?_) (fun hf => ?_)
        · refine g_iload C 7 dX2_faultOf_114 rfl ?_
          exact g_iretP C Kf hR dX2_faultOf_116 hf
        · refine g_aload_n C 2 dX2_faultOf_105 rfl ?_
          refine g_getI C Kf cl_X2 (qF_X2_2 hK0) (by decide) dX2_faultOf_106 kf_X2_18 ?_
          refine g_bipush (v := 6) C dX2_faultOf_109 (by decide) ?_
          refine g_icmp_lt C 117 dX2_faultOf_111 (by decide) hf (fun hf => ?_) (fun hf => ?_)
          · refine g_aload_n C 2 dX2_faultOf_117 rfl ?_
            refine g_getR C Kf cl_X2 (qF_X2_0 hK0) (by decide) dX2_faultOf_118 kf_X2_9 ?_
            refine g_aload_n C 2 dX2_faultOf_121 rfl ?_
            refine g_getI C Kf cl_X2 (qF_X2_2 hK0) (by decide) dX2_faultOf_122 kf_X2_18 ?_
            refine g_iload C 0 dX2_faultOf_125 rfl ?_
            refine g_iast C Kf (qAC_11 hK0) dX2_faultOf_127 hf (fun σ_18 hf => ?_)
            refine g_aload_n C 2 dX2_faultOf_128 rfl ?_
            refine g_dup C dX2_faultOf_129 rfl ?_
            refine g_getI C Kf cl_X2 (qF_X2_2 hK0) (by decide) dX2_faultOf_130 kf_X2_18 ?_
            refine g_iconst (v := 1) C dX2_faultOf_133 (by decide) ?_
            refine g_iadd C dX2_faultOf_134 ?_
            refine g_putI C Kf cl_X2 (qF_X2_2 hK0) (by decide) rfl rfl rfl dX2_faultOf_135 kf_X2_18 hf (fun σ_19 hf => ?_)
            refine g_iconst (v := 0) C dX2_faultOf_138 (by decide) ?_
            refine g_istore C [(4, .int 0), (7, .int r_17), (6, .int r_9), (0, .ref (K.2.1 10)), (1, .ref (K.2.1 4)), (2, .int x2), (3, .int x3), (5, .int x5_5)] dX2_faultOf_139 (by decide) rfl ?_
            refine g_cut [3, 4, 5, 6, 0, 7] rfl ?_
            exact HJ_13 _ _ hf
          · refine g_iload C 7 dX2_faultOf_114 rfl ?_
            exact g_iretP C Kf hR dX2_faultOf_116 hf
    · refine g_iload C 0 dX2_faultOf_38 rfl ?_
      refine g_bipush (v := 48) C dX2_faultOf_40 (by decide) ?_
      refine g_isub C dX2_faultOf_42 ?_
      refine g_istoreB C (fun x7_20 => [(7, .int x7_20), (6, .int r_9), (0, .ref (K.2.1 10)), (1, .ref (K.2.1 4)), (2, .int x2), (3, .int x3), (4, .int x4_4), (5, .int x5_5)]) dX2_faultOf_43 (by decide) (fun _ => rfl) hf (fun x7_20 hf => ?_)
      refine g_iload C 0 dX2_faultOf_45 rfl ?_
      refine g_if_lt C 57 dX2_faultOf_47 (by decide) hf (fun hf => ?_) (fun hf => ?_)
      · refine g_iload C 7 dX2_faultOf_57 rfl ?_
        exact g_iretP C Kf hR dX2_faultOf_59 hf
      · refine g_iload C 0 dX2_faultOf_50 rfl ?_
        refine g_bipush (v := 10) C dX2_faultOf_52 (by decide) ?_
        refine g_icmp_lt C 60 dX2_faultOf_54 (by decide) hf (fun hf => ?_) (fun hf => ?_)
        · refine g_aload_n C 2 dX2_faultOf_60 rfl ?_
          refine g_getR C Kf cl_X2 (qF_X2_1 hK0) (by decide) dX2_faultOf_61 kf_X2_15 ?_
          refine g_aload_n C 2 dX2_faultOf_64 rfl ?_
          refine g_getI C Kf cl_X2 (qF_X2_2 hK0) (by decide) dX2_faultOf_65 kf_X2_18 ?_
          refine g_iconst (v := 1) C dX2_faultOf_68 (by decide) ?_
          refine g_isub C dX2_faultOf_69 ?_
          refine g_iconst (v := 3) C dX2_faultOf_70 (by decide) ?_
          refine g_imul C dX2_faultOf_71 ?_
          refine g_iload C 6 dX2_faultOf_72 rfl ?_
          refine g_iadd C dX2_faultOf_74 ?_
          refine g_iload C 0 dX2_faultOf_75 rfl ?_
          refine g_iast C Kf (qAC_12 hK0) dX2_faultOf_77 hf (fun σ_21 hf => ?_)
          refine g_iinc (d := 1) C 6 (fun x4_22 => [(4, .int x4_22), (7, .int x7_20), (6, .int r_9), (0, .ref (K.2.1 10)), (1, .ref (K.2.1 4)), (2, .int x2), (3, .int x3), (5, .int x5_5)]) dX2_faultOf_78 rfl (by decide) (by decide) (fun _ => rfl) hf (fun x4_22 hf => ?_)
          refine g_goto C 141 dX2_faultOf_81 (by decide) ?_
          refine g_cut [3, 4, 5, 6, 0, 7] rfl ?_
          exact HJ_13 _ _ hf
        · refine g_iload C 7 dX2_faultOf_57 rfl ?_
          exact g_iretP C Kf hR dX2_faultOf_59 hf
set_option maxHeartbeats 4000000 in
set_option maxRecDepth 100000 in
theorem mX2_faultOf {K : Kx} (hK0 : isKC K) (l : Launch) (σ : St) (x2 : Int32)  (r : Int32) (σ' : St) (hf : f2_faultOf σ x2 = some (r, σ')) : mC K l yX2_faultOf cX2_faultOf 8 (some .int) rmX2_faultOf [.ref (K.2.1 10), .ref (K.2.1 4), .int x2] σ (some (.int r)) σ' := by
  refine g_entry (own := RX2) rfl (by decide +kernel) (Nat.le_of_ble_eq_true rfl) (fun X hX C Kf hR => ?_)
  subst hX
  unfold f2_faultOf at hf
  show gG X σ 0 [(0, .ref (K.2.1 10)), (1, .ref (K.2.1 4)), (2, .int x2)] []
  refine g_aload_n C 1 dX2_faultOf_0 rfl ?_
  refine g_iload_n C 2 dX2_faultOf_1 rfl ?_
  obtain ⟨r_2, h_1, hf⟩ := b1_some hf
  refine g_cVN_i C Kf [.int x2] (mX3_sizeOf hK0 X.1.2.1 σ 4 x2 (sh_4) r_2 h_1) mi_X3_sizeOf (qO_X3 hK0 sh_4) rfl km_X2_22 ⟨rfl, rfl, by decide, by decide⟩ rfl rfl (Nat.le_of_ble_eq_true rfl) dX2_faultOf_2 ?_
  refine g_istore_n C [(3, .int r_2), (0, .ref (K.2.1 10)), (1, .ref (K.2.1 4)), (2, .int x2)] dX2_faultOf_5 rfl (by decide) rfl ?_
  refine g_iconst (v := 3) C dX2_faultOf_6 (by decide) ?_
  refine g_istore C [(4, .int 3), (3, .int r_2), (0, .ref (K.2.1 10)), (1, .ref (K.2.1 4)), (2, .int x2)] dX2_faultOf_7 (by decide) rfl ?_
  refine g_aload_n C 2 dX2_faultOf_9 rfl ?_
  refine g_iconst (v := 0) C dX2_faultOf_10 (by decide) ?_
  refine g_putI C Kf cl_X2 (qF_X2_2 hK0) (by decide) rfl rfl rfl dX2_faultOf_11 kf_X2_18 hf (fun σ_3 hf => ?_)
  refine g_iconst (v := 0) C dX2_faultOf_14 (by decide) ?_
  refine g_istore C [(5, .int 0), (4, .int 3), (3, .int r_2), (0, .ref (K.2.1 10)), (1, .ref (K.2.1 4)), (2, .int x2)] dX2_faultOf_15 (by decide) rfl ?_
  refine g_cut [3, 4, 5, 2, 1, 0] rfl ?_
  refine wL2_faultOf_17 hK0 σ_3 x2 r_2 _ _ C Kf hR _ (fun x4_24 σ_25 hf => ?_) _ _ _ _ hf
  refine g_iload C 2 dX2_faultOf_147 rfl ?_
  refine g_iconst (v := 3) C dX2_faultOf_149 (by decide) ?_
  refine g_icmp_lt C 161 dX2_faultOf_150 (by decide) hf (fun hf => ?_) (fun hf => ?_)
  · refine g_iload_n C 1 dX2_faultOf_161 rfl ?_
    refine g_goto C 167 dX2_faultOf_162 (by decide) ?_
    exact g_iretP C Kf hR dX2_faultOf_167 hf
  · refine g_aload_n C 0 dX2_faultOf_153 rfl ?_
    refine g_getI C Kf cl_X2 (qF_X2_2 hK0) (by decide) dX2_faultOf_154 kf_X2_18 ?_
    refine g_iconst (v := 2) C dX2_faultOf_157 (by decide) ?_
    refine g_icmp_ge C 165 dX2_faultOf_158 (by decide) hf (fun hf => ?_) (fun hf => ?_)
    · refine g_bipush (v := (-9)) C dX2_faultOf_165 (by decide) ?_
      exact g_iretP C Kf hR dX2_faultOf_167 hf
    · refine g_iload_n C 1 dX2_faultOf_161 rfl ?_
      refine g_goto C 167 dX2_faultOf_162 (by decide) ?_
      exact g_iretP C Kf hR dX2_faultOf_167 hf
abbrev rmX3_digestOn : Room := { frames := 3, cells := 0, slots := 0, locals := 66 }
set_option maxHeartbeats 4000000 in
set_option maxRecDepth 100000 in
theorem wL3_digestOn_28 {X : Gx St} {K : Kx} (hK0 : isKC K) (σ : St) (c0 : Nat) (hc0 : shC c0) (x3 : Int32) (r : Int64) (C : gF X cX3_digestOn RX3 (some .long) 5 rmX3_digestOn) (Kf : kF X K) (hR : gR X K (some (.long r)) σ) (k : Int64 → Option (Int64)) (Hk : ∀ (x1_7 : Int64), k x1_7 = some r → gG X σ 60 [(0, .ref (K.2.1 c0)), (1, .long x1_7), (3, .int x3)] []) : ∀ (n : Nat) (x1_5 : Int64) (x4_6 : Int32), L3_digestOn_28 σ c0 x3 k n x1_5 x4_6 = some r → gG X σ 28 [(0, .ref (K.2.1 c0)), (1, .long x1_5), (3, .int x3), (4, .int x4_6)] [] := by
  intro n
  induction n with
  | zero => intro _ _ hf; unfold L3_digestOn_28 at hf; cases hf
  | succ n ih =>
  intro x1_5 x4_6 hf
  unfold L3_digestOn_28 at hf
  refine g_iload C 3 dX3_digestOn_28 rfl ?_
  refine g_aload_n C 0 dX3_digestOn_30 rfl ?_
  refine g_getR C Kf cl_X3 (qF_X3_1 hK0 hc0) (by decide) dX3_digestOn_31 kf_X3_17 ?_
  refine g_iload_n C 2 dX3_digestOn_34 rfl ?_
  refine g_iald C Kf (qAC hK0 (lnC_sh2 hc0)) dX3_digestOn_35 hf (fun hf => ?_)
  refine g_icmp_ge C 60 dX3_digestOn_36 (by decide) hf (fun hf => ?_) (fun hf => ?_)
  · refine g_cut [0, 1, 2] rfl ?_
    exact Hk _ hf
  · refine g_ldc2 (v := 31) C dX3_digestOn_39 kl_X3_35 ?_
    refine g_lload_n C 1 dX3_digestOn_42 rfl ?_
    refine g_lmul C dX3_digestOn_43 ?_
    refine g_aload_n C 0 dX3_digestOn_44 rfl ?_
    refine g_iload_n C 2 dX3_digestOn_45 rfl ?_
    refine g_iload C 3 dX3_digestOn_46 rfl ?_
    obtain ⟨r_9, h_8, hf⟩ := b1_some hf
    refine g_cV_i C Kf [.int x3, .int x4_6] (mX3_get hK0 X.1.2.1 σ c0 x3 x4_6 hc0 r_9 h_8) mi_X3_get (qO_X3 hK0 hc0) rfl km_X3_37 ⟨rfl, rfl, by decide, by decide⟩ rfl rfl (Nat.le_of_ble_eq_true rfl) dX3_digestOn_48 ?_
    refine g_i2l C dX3_digestOn_51 ?_
    refine g_ladd C dX3_digestOn_52 ?_
    refine g_lstore_nB C (fun x1_10 => [(1, .long x1_10), (0, .ref (K.2.1 c0)), (3, .int x3), (4, .int x4_6)]) dX3_digestOn_53 rfl (by decide) (fun _ => rfl) hf (fun x1_10 hf => ?_)
    refine g_iinc (d := 1) C 3 (fun x4_11 => [(4, .int x4_11), (1, .long x1_10), (0, .ref (K.2.1 c0)), (3, .int x3)]) dX3_digestOn_54 rfl (by decide) (by decide) (fun _ => rfl) hf (fun x4_11 hf => ?_)
    refine g_goto C 28 dX3_digestOn_57 (by decide) ?_
    refine g_cut [2, 1, 3, 0] rfl ?_
    exact ih _ _ hf
set_option maxHeartbeats 4000000 in
set_option maxRecDepth 100000 in
theorem wL3_digestOn_2 {X : Gx St} {K : Kx} (hK0 : isKC K) (σ : St) (c0 : Nat) (hc0 : shC c0) (r : Int64) (C : gF X cX3_digestOn RX3 (some .long) 5 rmX3_digestOn) (Kf : kF X K) (hR : gR X K (some (.long r)) σ) (k : Int64 → Option (Int64)) (Hk : ∀ (x1_3 : Int64), k x1_3 = some r → gG X σ 66 [(1, .long x1_3)] []) : ∀ (n : Nat) (x1_1 : Int64) (x3_2 : Int32), L3_digestOn_2 σ c0 k n x1_1 x3_2 = some r → gG X σ 2 [(0, .ref (K.2.1 c0)), (1, .long x1_1), (3, .int x3_2)] [] := by
  intro n
  induction n with
  | zero => intro _ _ hf; unfold L3_digestOn_2 at hf; cases hf
  | succ n ih =>
  intro x1_1 x3_2 hf
  unfold L3_digestOn_2 at hf
  refine g_iload_n C 2 dX3_digestOn_2 rfl ?_
  refine g_aload_n C 0 dX3_digestOn_3 rfl ?_
  refine g_getR C Kf cl_X3 (qF_X3_1 hK0 hc0) (by decide) dX3_digestOn_4 kf_X3_17 ?_
  refine g_alen (v := Int32.ofNat (lnC (c0 + 2))) C Kf (qAC hK0 (lnC_sh2 hc0)) rfl dX3_digestOn_7 ?_
  refine g_icmp_ge C 66 dX3_digestOn_8 (by decide) hf (fun hf => ?_) (fun hf => ?_)
  · refine g_cut [1] rfl ?_
    exact Hk _ hf
  · refine g_ldc2 (v := 31) C dX3_digestOn_11 kl_X3_35 ?_
    refine g_lload_n C 1 dX3_digestOn_14 rfl ?_
    refine g_lmul C dX3_digestOn_15 ?_
    refine g_aload_n C 0 dX3_digestOn_16 rfl ?_
    refine g_getR C Kf cl_X3 (qF_X3_1 hK0 hc0) (by decide) dX3_digestOn_17 kf_X3_17 ?_
    refine g_iload_n C 2 dX3_digestOn_20 rfl ?_
    refine g_iald C Kf (qAC hK0 (lnC_sh2 hc0)) dX3_digestOn_21 hf (fun hf => ?_)
    refine g_i2l C dX3_digestOn_22 ?_
    refine g_ladd C dX3_digestOn_23 ?_
    refine g_lstore_nB C (fun x1_4 => [(1, .long x1_4), (0, .ref (K.2.1 c0)), (3, .int x3_2)]) dX3_digestOn_24 rfl (by decide) (fun _ => rfl) hf (fun x1_4 hf => ?_)
    refine g_iconst (v := 0) C dX3_digestOn_25 (by decide) ?_
    refine g_istore C [(4, .int 0), (1, .long x1_4), (0, .ref (K.2.1 c0)), (3, .int x3_2)] dX3_digestOn_26 (by decide) rfl ?_
    refine g_cut [2, 1, 3, 0] rfl ?_
    refine wL3_digestOn_28 hK0 σ c0 hc0 x3_2 _ C Kf hR _ (fun x1_12 hf => ?_) _ _ _ hf
    refine g_iinc (d := 1) C 2 (fun x3_13 => [(3, .int x3_13), (0, .ref (K.2.1 c0)), (1, .long x1_12)]) dX3_digestOn_60 rfl (by decide) (by decide) (fun _ => rfl) hf (fun x3_13 hf => ?_)
    refine g_goto C 2 dX3_digestOn_63 (by decide) ?_
    refine g_cut [1, 2, 0] rfl ?_
    exact ih _ _ hf
set_option maxHeartbeats 4000000 in
set_option maxRecDepth 100000 in
theorem mX3_digestOn {K : Kx} (hK0 : isKC K) (l : Launch) (σ : St) (c0 : Nat) (x1 : Int64) (hc0 : shC c0) (r : Int64) (hf : f3_digestOn σ c0 x1 = some r) : mC K l yX3_digestOn cX3_digestOn 5 (some .long) rmX3_digestOn [.ref (K.2.1 c0), .long x1] σ (some (.long r)) σ := by
  refine g_entry (own := RX3) rfl (by decide +kernel) (Nat.le_of_ble_eq_true rfl) (fun X hX C Kf hR => ?_)
  subst hX
  unfold f3_digestOn at hf
  show gG X σ 0 [(0, .ref (K.2.1 c0)), (1, .long x1)] []
  refine g_iconst (v := 0) C dX3_digestOn_0 (by decide) ?_
  refine g_istore_n C [(3, .int 0), (0, .ref (K.2.1 c0)), (1, .long x1)] dX3_digestOn_1 rfl (by decide) rfl ?_
  refine g_cut [1, 2, 0] rfl ?_
  refine wL3_digestOn_2 hK0 σ c0 hc0 _ C Kf hR _ (fun x1_14 hf => ?_) _ _ _ hf
  refine g_lload_n C 0 dX3_digestOn_66 rfl ?_
  exact g_lretR C Kf hR dX3_digestOn_67 hf
abbrev rmX3_make : Room := { frames := 0, cells := 0, slots := 0, locals := 0 }
set_option maxHeartbeats 4000000 in
set_option maxRecDepth 100000 in
theorem wL3_make_36 {X : Gx St} {K : Kx} (hK0 : isKC K) (σ : St) (c0 : Nat) (hc0 : shC c0) (x1 : Int32) (x2 : Int32) (x3 : Int32) (σ' : St) (C : gF X cX3_make RX3 none 5 rmX3_make) (Kf : kF X K) (hR : gR X K none σ') (k : St → Option (St)) (Hk : ∀ (σ_6 : St), k σ_6 = some σ' → gG X σ_6 63 [] []) : ∀ (n : Nat) (x4_2 : Int32) (σ_3 : St), L3_make_36 c0 x1 x2 x3 k n x4_2 σ_3 = some σ' → gG X σ_3 36 [(0, .ref (K.2.1 c0)), (1, .int x1), (2, .int x2), (3, .int x3), (4, .int x4_2)] [] := by
  intro n
  induction n with
  | zero => intro _ _ hf; unfold L3_make_36 at hf; cases hf
  | succ n ih =>
  intro x4_2 σ_3 hf
  unfold L3_make_36 at hf
  refine g_iload C 4 dX3_make_36 rfl ?_
  refine g_iload_n C 2 dX3_make_38 rfl ?_
  refine g_icmp_ge C 63 dX3_make_39 (by decide) hf (fun hf => ?_) (fun hf => ?_)
  · refine g_cut [] rfl ?_
    exact Hk _ hf
  · refine g_aload_n C 0 dX3_make_42 rfl ?_
    refine g_getR C Kf cl_X3 (qF_X3_0 hK0 hc0) (by decide) dX3_make_43 kf_X3_13 ?_
    refine g_iload_n C 1 dX3_make_46 rfl ?_
    refine g_aload_n C 0 dX3_make_47 rfl ?_
    refine g_getI C Kf cl_X3 (qF_X3_2 hK0 hc0) (by decide) dX3_make_48 kf_X3_7 ?_
    refine g_imul C dX3_make_51 ?_
    refine g_iload C 4 dX3_make_52 rfl ?_
    refine g_iadd C dX3_make_54 ?_
    refine g_iload_n C 3 dX3_make_55 rfl ?_
    refine g_iast C Kf (qAC hK0 (lnC_sh1 hc0)) dX3_make_56 hf (fun σ_4 hf => ?_)
    refine g_iinc (d := 1) C 4 (fun x4_5 => [(4, .int x4_5), (0, .ref (K.2.1 c0)), (1, .int x1), (2, .int x2), (3, .int x3)]) dX3_make_57 rfl (by decide) (by decide) (fun _ => rfl) hf (fun x4_5 hf => ?_)
    refine g_goto C 36 dX3_make_60 (by decide) ?_
    refine g_cut [1, 2, 3, 4, 0] rfl ?_
    exact ih _ _ hf
set_option maxHeartbeats 4000000 in
set_option maxRecDepth 100000 in
theorem mX3_make {K : Kx} (hK0 : isKC K) (l : Launch) (σ : St) (c0 : Nat) (x1 : Int32) (x2 : Int32) (x3 : Int32) (hc0 : shC c0) (σ' : St) (hf : f3_make σ c0 x1 x2 x3 = some σ') : mC K l yX3_make cX3_make 5 none rmX3_make [.ref (K.2.1 c0), .int x1, .int x2, .int x3] σ none σ' := by
  refine g_entry (own := RX3) rfl (by decide +kernel) (Nat.le_of_ble_eq_true rfl) (fun X hX C Kf hR => ?_)
  subst hX
  unfold f3_make at hf
  show gG X σ 0 [(0, .ref (K.2.1 c0)), (1, .int x1), (2, .int x2), (3, .int x3)] []
  refine g_iload_n C 1 dX3_make_0 rfl ?_
  refine g_if_lt C 25 dX3_make_1 (by decide) hf (fun hf => ?_) (fun hf => ?_)
  · exact g_vretP C Kf hR dX3_make_25 hf
  · refine g_iload_n C 1 dX3_make_4 rfl ?_
    refine g_aload_n C 0 dX3_make_5 rfl ?_
    refine g_getR C Kf cl_X3 (qF_X3_1 hK0 hc0) (by decide) dX3_make_6 kf_X3_17 ?_
    refine g_alen (v := Int32.ofNat (lnC (c0 + 2))) C Kf (qAC hK0 (lnC_sh2 hc0)) rfl dX3_make_9 ?_
    refine g_icmp_ge C 25 dX3_make_10 (by decide) hf (fun hf => ?_) (fun hf => ?_)
    · exact g_vretP C Kf hR dX3_make_25 hf
    · refine g_iload_n C 2 dX3_make_13 rfl ?_
      refine g_if_lt C 25 dX3_make_14 (by decide) hf (fun hf => ?_) (fun hf => ?_)
      · exact g_vretP C Kf hR dX3_make_25 hf
      · refine g_iload_n C 2 dX3_make_17 rfl ?_
        refine g_aload_n C 0 dX3_make_18 rfl ?_
        refine g_getI C Kf cl_X3 (qF_X3_2 hK0 hc0) (by decide) dX3_make_19 kf_X3_7 ?_
        refine g_icmp_le C 26 dX3_make_22 (by decide) hf (fun hf => ?_) (fun hf => ?_)
        · refine g_aload_n C 0 dX3_make_26 rfl ?_
          refine g_getR C Kf cl_X3 (qF_X3_1 hK0 hc0) (by decide) dX3_make_27 kf_X3_17 ?_
          refine g_iload_n C 1 dX3_make_30 rfl ?_
          refine g_iload_n C 2 dX3_make_31 rfl ?_
          refine g_iast C Kf (qAC hK0 (lnC_sh2 hc0)) dX3_make_32 hf (fun σ_1 hf => ?_)
          refine g_iconst (v := 0) C dX3_make_33 (by decide) ?_
          refine g_istore C [(4, .int 0), (0, .ref (K.2.1 c0)), (1, .int x1), (2, .int x2), (3, .int x3)] dX3_make_34 (by decide) rfl ?_
          refine g_cut [1, 2, 3, 4, 0] rfl ?_
          refine wL3_make_36 hK0 σ_1 c0 hc0 x1 x2 x3 _ C Kf hR _ (fun σ_7 hf => ?_) _ _ _ hf
          exact g_vretP C Kf hR dX3_make_63 hf
        · exact g_vretP C Kf hR dX3_make_25 hf
abbrev rmX3_set : Room := { frames := 2, cells := 0, slots := 0, locals := 44 }
set_option maxHeartbeats 4000000 in
set_option maxRecDepth 100000 in
theorem mX3_set {K : Kx} (hK0 : isKC K) (l : Launch) (σ : St) (c0 : Nat) (x1 : Int32) (x2 : Int32) (x3 : Int32) (hc0 : shC c0) (σ' : St) (hf : f3_set σ c0 x1 x2 x3 = some σ') : mC K l yX3_set cX3_set 4 none rmX3_set [.ref (K.2.1 c0), .int x1, .int x2, .int x3] σ none σ' := by
  refine g_entry (own := RX3) rfl (by decide +kernel) (Nat.le_of_ble_eq_true rfl) (fun X hX C Kf hR => ?_)
  subst hX
  unfold f3_set at hf
  show gG X σ 0 [(0, .ref (K.2.1 c0)), (1, .int x1), (2, .int x2), (3, .int x3)] []
  refine g_aload_n C 0 dX3_set_0 rfl ?_
  refine g_iload_n C 1 dX3_set_1 rfl ?_
  refine g_iload_n C 2 dX3_set_2 rfl ?_
  refine g_iconst (v := 1) C dX3_set_3 (by decide) ?_
  obtain ⟨r_2, h_1, hf⟩ := b1_some hf
  refine g_cV_i C Kf [.int x1, .int x2, .int 1] (mX3_spans hK0 X.1.2.1 σ c0 x1 x2 1 hc0 r_2 h_1) mi_X3_spans (qO_X3 hK0 hc0) rfl km_X3_31 ⟨rfl, rfl, by decide, by decide⟩ rfl rfl (Nat.le_of_ble_eq_true rfl) dX3_set_4 ?_
  refine g_if_eq C 24 dX3_set_7 (by decide) hf (fun hf => ?_) (fun hf => ?_)
  · exact g_vretP C Kf hR dX3_set_24 hf
  · refine g_aload_n C 0 dX3_set_10 rfl ?_
    refine g_getR C Kf cl_X3 (qF_X3_0 hK0 hc0) (by decide) dX3_set_11 kf_X3_13 ?_
    refine g_iload_n C 1 dX3_set_14 rfl ?_
    refine g_aload_n C 0 dX3_set_15 rfl ?_
    refine g_getI C Kf cl_X3 (qF_X3_2 hK0 hc0) (by decide) dX3_set_16 kf_X3_7 ?_
    refine g_imul C dX3_set_19 ?_
    refine g_iload_n C 2 dX3_set_20 rfl ?_
    refine g_iadd C dX3_set_21 ?_
    refine g_iload_n C 3 dX3_set_22 rfl ?_
    refine g_iast C Kf (qAC hK0 (lnC_sh1 hc0)) dX3_set_23 hf (fun σ_3 hf => ?_)
    exact g_vretP C Kf hR dX3_set_24 hf
abbrev rmX3_fill : Room := { frames := 3, cells := 0, slots := 0, locals := 67 }
set_option maxHeartbeats 4000000 in
set_option maxRecDepth 100000 in
theorem wL3_fill_10 {X : Gx St} {K : Kx} (hK0 : isKC K) (σ : St) (c0 : Nat) (a2 : Nat) (hc0 : shC c0) (ha2 : 0 < lnC a2) (x1 : Int32) (x3 : Int32) (σ' : St) (C : gF X cX3_fill RX3 none 5 rmX3_fill) (Kf : kF X K) (hR : gR X K none σ') (k : St → Option (St)) (Hk : ∀ (σ_8 : St), k σ_8 = some σ' → gG X σ_8 40 [] []) : ∀ (n : Nat) (x4_3 : Int32) (σ_4 : St), L3_fill_10 c0 a2 x1 x3 k n x4_3 σ_4 = some σ' → gG X σ_4 10 [(0, .ref (K.2.1 c0)), (1, .int x1), (2, .ref (K.2.1 a2)), (3, .int x3), (4, .int x4_3)] [] := by
  intro n
  induction n with
  | zero => intro _ _ hf; unfold L3_fill_10 at hf; cases hf
  | succ n ih =>
  intro x4_3 σ_4 hf
  unfold L3_fill_10 at hf
  refine g_iload C 4 dX3_fill_10 rfl ?_
  refine g_iload_n C 3 dX3_fill_12 rfl ?_
  refine g_icmp_ge C 40 dX3_fill_13 (by decide) hf (fun hf => ?_) (fun hf => ?_)
  · refine g_cut [] rfl ?_
    exact Hk _ hf
  · refine g_iload C 4 dX3_fill_16 rfl ?_
    refine g_aload_n C 2 dX3_fill_18 rfl ?_
    refine g_alen (v := Int32.ofNat (lnC a2)) C Kf (qAC hK0 ha2) rfl dX3_fill_19 ?_
    refine g_icmp_ge C 40 dX3_fill_20 (by decide) hf (fun hf => ?_) (fun hf => ?_)
    · refine g_cut [] rfl ?_
      exact Hk _ hf
    · refine g_aload_n C 0 dX3_fill_23 rfl ?_
      refine g_iload_n C 1 dX3_fill_24 rfl ?_
      refine g_iload C 4 dX3_fill_25 rfl ?_
      refine g_aload_n C 2 dX3_fill_27 rfl ?_
      refine g_iload C 4 dX3_fill_28 rfl ?_
      refine g_iald C Kf (qAC hK0 ha2) dX3_fill_30 hf (fun hf => ?_)
      obtain ⟨σ_6, h_5, hf⟩ := b1_some hf
      refine g_cV_v C Kf [.int x1, .int x4_3, .int (σ_4.1 a2 x4_3.toNatClampNeg)] (mX3_set hK0 X.1.2.1 σ_4 c0 x1 x4_3 (σ_4.1 a2 x4_3.toNatClampNeg) hc0 σ_6 h_5) mi_X3_set (qO_X3 hK0 hc0) rfl km_X3_24 ⟨rfl, rfl, by decide, by decide⟩ rfl rfl (Nat.le_of_ble_eq_true rfl) dX3_fill_31 ?_
      refine g_iinc (d := 1) C 4 (fun x4_7 => [(4, .int x4_7), (0, .ref (K.2.1 c0)), (1, .int x1), (2, .ref (K.2.1 a2)), (3, .int x3)]) dX3_fill_34 rfl (by decide) (by decide) (fun _ => rfl) hf (fun x4_7 hf => ?_)
      refine g_goto C 10 dX3_fill_37 (by decide) ?_
      refine g_cut [1, 2, 3, 4, 0] rfl ?_
      exact ih _ _ hf
set_option maxHeartbeats 4000000 in
set_option maxRecDepth 100000 in
theorem mX3_fill {K : Kx} (hK0 : isKC K) (l : Launch) (σ : St) (c0 : Nat) (x1 : Int32) (a2 : Nat) (x3 : Int32) (hc0 : shC c0) (ha2 : 0 < lnC a2) (σ' : St) (hf : f3_fill σ c0 x1 a2 x3 = some σ') : mC K l yX3_fill cX3_fill 5 none rmX3_fill [.ref (K.2.1 c0), .int x1, .ref (K.2.1 a2), .int x3] σ none σ' := by
  refine g_entry (own := RX3) rfl (by decide +kernel) (Nat.le_of_ble_eq_true rfl) (fun X hX C Kf hR => ?_)
  subst hX
  unfold f3_fill at hf
  show gG X σ 0 [(0, .ref (K.2.1 c0)), (1, .int x1), (2, .ref (K.2.1 a2)), (3, .int x3)] []
  refine g_aload_n C 0 dX3_fill_0 rfl ?_
  refine g_iload_n C 1 dX3_fill_1 rfl ?_
  refine g_iload_n C 3 dX3_fill_2 rfl ?_
  refine g_iconst (v := 0) C dX3_fill_3 (by decide) ?_
  obtain ⟨σ_2, h_1, hf⟩ := b1_some hf
  refine g_cV_v C Kf [.int x1, .int x3, .int 0] (mX3_make hK0 X.1.2.1 σ c0 x1 x3 0 hc0 σ_2 h_1) mi_X3_make (qO_X3 hK0 hc0) rfl km_X3_20 ⟨rfl, rfl, by decide, by decide⟩ rfl rfl (Nat.le_of_ble_eq_true rfl) dX3_fill_4 ?_
  refine g_iconst (v := 0) C dX3_fill_7 (by decide) ?_
  refine g_istore C [(4, .int 0), (0, .ref (K.2.1 c0)), (1, .int x1), (2, .ref (K.2.1 a2)), (3, .int x3)] dX3_fill_8 (by decide) rfl ?_
  refine g_cut [1, 2, 3, 4, 0] rfl ?_
  refine wL3_fill_10 hK0 σ_2 c0 a2 hc0 ha2 x1 x3 _ C Kf hR _ (fun σ_9 hf => ?_) _ _ _ hf
  exact g_vretP C Kf hR dX3_fill_40 hf
abbrev rmX3_held : Room := { frames := 0, cells := 0, slots := 0, locals := 0 }
set_option maxHeartbeats 4000000 in
set_option maxRecDepth 100000 in
theorem wL3_held_4 {X : Gx St} {K : Kx} (hK0 : isKC K) (σ : St) (c0 : Nat) (hc0 : shC c0) (r : Int32) (C : gF X cX3_held RX3 (some .int) 3 rmX3_held) (Kf : kF X K) (hR : gR X K (some (.int r)) σ) (k : Int32 → Option (Int32)) (Hk : ∀ (x1_3 : Int32), k x1_3 = some r → gG X σ 31 [(1, .int x1_3)] []) : ∀ (n : Nat) (x1_1 : Int32) (x2_2 : Int32), L3_held_4 σ c0 k n x1_1 x2_2 = some r → gG X σ 4 [(0, .ref (K.2.1 c0)), (1, .int x1_1), (2, .int x2_2)] [] := by
  intro n
  induction n with
  | zero => intro _ _ hf; unfold L3_held_4 at hf; cases hf
  | succ n ih =>
  intro x1_1 x2_2 hf
  unfold L3_held_4 at hf
  refine g_iload_n C 2 dX3_held_4 rfl ?_
  refine g_aload_n C 0 dX3_held_5 rfl ?_
  refine g_getR C Kf cl_X3 (qF_X3_1 hK0 hc0) (by decide) dX3_held_6 kf_X3_17 ?_
  refine g_alen (v := Int32.ofNat (lnC (c0 + 2))) C Kf (qAC hK0 (lnC_sh2 hc0)) rfl dX3_held_9 ?_
  refine g_icmp_ge C 31 dX3_held_10 (by decide) hf (fun hf => ?_) (fun hf => ?_)
  · refine g_cut [1] rfl ?_
    exact Hk _ hf
  · refine g_aload_n C 0 dX3_held_13 rfl ?_
    refine g_getR C Kf cl_X3 (qF_X3_1 hK0 hc0) (by decide) dX3_held_14 kf_X3_17 ?_
    refine g_iload_n C 2 dX3_held_17 rfl ?_
    refine g_iald C Kf (qAC hK0 (lnC_sh2 hc0)) dX3_held_18 hf (fun hf => ?_)
    refine g_jn hf (fun j_5 ej_7 hf => ?_)
    have HJ_6 : ∀ (x1_4 : Int32), j_5 x1_4 = some r → gG X σ 25 [(0, .ref (K.2.1 c0)), (1, .int x1_4), (2, .int x2_2)] [] := by
      intro x1_4 hf
      rw [ej_7] at hf
      refine g_iinc (d := 1) C 2 (fun x2_8 => [(2, .int x2_8), (0, .ref (K.2.1 c0)), (1, .int x1_4)]) dX3_held_25 rfl (by decide) (by decide) (fun _ => rfl) hf (fun x2_8 hf => ?_)
      refine g_goto C 4 dX3_held_28 (by decide) ?_
      refine g_cut [1, 2, 0] rfl ?_
      exact ih _ _ hf
    refine g_if_lt C 25 dX3_held_19 (by decide) hf (fun hf => ?_) (fun hf => ?_)
    · exact HJ_6 _ hf
    · refine g_iinc (d := 1) C 1 (fun x1_9 => [(1, .int x1_9), (0, .ref (K.2.1 c0)), (2, .int x2_2)]) dX3_held_22 rfl (by decide) (by decide) (fun _ => rfl) hf (fun x1_9 hf => ?_)
      refine g_cut [1, 0, 2] rfl ?_
      exact HJ_6 _ hf
set_option maxHeartbeats 4000000 in
set_option maxRecDepth 100000 in
theorem mX3_held {K : Kx} (hK0 : isKC K) (l : Launch) (σ : St) (c0 : Nat) (hc0 : shC c0) (r : Int32) (hf : f3_held σ c0 = some r) : mC K l yX3_held cX3_held 3 (some .int) rmX3_held [.ref (K.2.1 c0)] σ (some (.int r)) σ := by
  refine g_entry (own := RX3) rfl (by decide +kernel) (Nat.le_of_ble_eq_true rfl) (fun X hX C Kf hR => ?_)
  subst hX
  unfold f3_held at hf
  show gG X σ 0 [(0, .ref (K.2.1 c0))] []
  refine g_iconst (v := 0) C dX3_held_0 (by decide) ?_
  refine g_istore_n C [(1, .int 0), (0, .ref (K.2.1 c0))] dX3_held_1 rfl (by decide) rfl ?_
  refine g_iconst (v := 0) C dX3_held_2 (by decide) ?_
  refine g_istore_n C [(2, .int 0), (1, .int 0), (0, .ref (K.2.1 c0))] dX3_held_3 rfl (by decide) rfl ?_
  refine g_cut [2, 1, 0] rfl ?_
  refine wL3_held_4 hK0 σ c0 hc0 _ C Kf hR _ (fun x1_10 hf => ?_) _ _ _ hf
  refine g_iload_n C 0 dX3_held_31 rfl ?_
  exact g_iretR C Kf hR dX3_held_32 hf
abbrev rmX3_holds : Room := { frames := 1, cells := 0, slots := 0, locals := 21 }
set_option maxHeartbeats 4000000 in
set_option maxRecDepth 100000 in
theorem mX3_holds {K : Kx} (hK0 : isKC K) (l : Launch) (σ : St) (c0 : Nat) (x1 : Int32) (hc0 : shC c0) (r : Int32) (hf : f3_holds σ c0 x1 = some r) : mC K l yX3_holds cX3_holds 2 (some .boolean) rmX3_holds [.ref (K.2.1 c0), .int x1] σ (some (.int r)) σ := by
  refine g_entry (own := RX3) rfl (by decide +kernel) (Nat.le_of_ble_eq_true rfl) (fun X hX C Kf hR => ?_)
  subst hX
  unfold f3_holds at hf
  show gG X σ 0 [(0, .ref (K.2.1 c0)), (1, .int x1)] []
  refine g_aload_n C 0 dX3_holds_0 rfl ?_
  refine g_iload_n C 1 dX3_holds_1 rfl ?_
  obtain ⟨r_2, h_1, hf⟩ := b1_some hf
  refine g_cV_i C Kf [.int x1] (mX3_sizeOf hK0 X.1.2.1 σ c0 x1 hc0 r_2 h_1) mi_X3_sizeOf (qO_X3 hK0 hc0) rfl km_X3_27 ⟨rfl, rfl, by decide, by decide⟩ rfl rfl (Nat.le_of_ble_eq_true rfl) dX3_holds_2 ?_
  refine g_if_lt C 12 dX3_holds_5 (by decide) hf (fun hf => ?_) (fun hf => ?_)
  · refine g_iconst (v := 0) C dX3_holds_12 (by decide) ?_
    exact g_zretR C Kf hR (Or.inl rfl) dX3_holds_13 hf
  · refine g_iconst (v := 1) C dX3_holds_8 (by decide) ?_
    refine g_goto C 13 dX3_holds_9 (by decide) ?_
    exact g_zretR C Kf hR (Or.inr rfl) dX3_holds_13 hf
abbrev rmX3_remove : Room := { frames := 0, cells := 0, slots := 0, locals := 0 }
set_option maxHeartbeats 4000000 in
set_option maxRecDepth 100000 in
theorem mX3_remove {K : Kx} (hK0 : isKC K) (l : Launch) (σ : St) (c0 : Nat) (x1 : Int32) (hc0 : shC c0) (σ' : St) (hf : f3_remove σ c0 x1 = some σ') : mC K l yX3_remove cX3_remove 2 none rmX3_remove [.ref (K.2.1 c0), .int x1] σ none σ' := by
  refine g_entry (own := RX3) rfl (by decide +kernel) (Nat.le_of_ble_eq_true rfl) (fun X hX C Kf hR => ?_)
  subst hX
  unfold f3_remove at hf
  show gG X σ 0 [(0, .ref (K.2.1 c0)), (1, .int x1)] []
  refine g_iload_n C 1 dX3_remove_0 rfl ?_
  refine g_if_lt C 20 dX3_remove_1 (by decide) hf (fun hf => ?_) (fun hf => ?_)
  · exact g_vretP C Kf hR dX3_remove_20 hf
  · refine g_iload_n C 1 dX3_remove_4 rfl ?_
    refine g_aload_n C 0 dX3_remove_5 rfl ?_
    refine g_getR C Kf cl_X3 (qF_X3_1 hK0 hc0) (by decide) dX3_remove_6 kf_X3_17 ?_
    refine g_alen (v := Int32.ofNat (lnC (c0 + 2))) C Kf (qAC hK0 (lnC_sh2 hc0)) rfl dX3_remove_9 ?_
    refine g_icmp_ge C 20 dX3_remove_10 (by decide) hf (fun hf => ?_) (fun hf => ?_)
    · exact g_vretP C Kf hR dX3_remove_20 hf
    · refine g_aload_n C 0 dX3_remove_13 rfl ?_
      refine g_getR C Kf cl_X3 (qF_X3_1 hK0 hc0) (by decide) dX3_remove_14 kf_X3_17 ?_
      refine g_iload_n C 1 dX3_remove_17 rfl ?_
      refine g_iconst (v := (-1)) C dX3_remove_18 (by decide) ?_
      refine g_iast C Kf (qAC hK0 (lnC_sh2 hc0)) dX3_remove_19 hf (fun σ_1 hf => ?_)
      exact g_vretP C Kf hR dX3_remove_20 hf
abbrev rmX4_layAs : Room := { frames := 0, cells := 0, slots := 0, locals := 0 }
set_option maxHeartbeats 4000000 in
set_option maxRecDepth 100000 in
theorem wL4_layAs_2 {X : Gx St} {K : Kx} (hK0 : isKC K) (σ : St) (a0 : Nat) (a1 : Nat) (ha0 : 0 < lnC a0) (ha1 : 0 < lnC a1) (x2 : Int32) (σ' : St) (C : gF X cX4_layAs RX4 none 4 rmX4_layAs) (Kf : kF X K) (hR : gR X K none σ') (k : St → Option (St)) (Hk : ∀ (σ_5 : St), k σ_5 = some σ' → gG X σ_5 19 [] []) : ∀ (n : Nat) (x3_1 : Int32) (σ_2 : St), L4_layAs_2 a0 a1 x2 k n x3_1 σ_2 = some σ' → gG X σ_2 2 [(0, .ref (K.2.1 a0)), (1, .ref (K.2.1 a1)), (2, .int x2), (3, .int x3_1)] [] := by
  intro n
  induction n with
  | zero => intro _ _ hf; unfold L4_layAs_2 at hf; cases hf
  | succ n ih =>
  intro x3_1 σ_2 hf
  unfold L4_layAs_2 at hf
  refine g_iload_n C 3 dX4_layAs_2 rfl ?_
  refine g_iload_n C 2 dX4_layAs_3 rfl ?_
  refine g_icmp_ge C 19 dX4_layAs_4 (by decide) hf (fun hf => ?_) (fun hf => ?_)
  · refine g_cut [] rfl ?_
    exact Hk _ hf
  · refine g_aload_n C 1 dX4_layAs_7 rfl ?_
    refine g_iload_n C 3 dX4_layAs_8 rfl ?_
    refine g_aload_n C 0 dX4_layAs_9 rfl ?_
    refine g_iload_n C 3 dX4_layAs_10 rfl ?_
    refine g_iald C Kf (qAC hK0 ha0) dX4_layAs_11 hf (fun hf => ?_)
    refine g_iast C Kf (qAC hK0 ha1) dX4_layAs_12 hf (fun σ_3 hf => ?_)
    refine g_iinc (d := 1) C 3 (fun x3_4 => [(3, .int x3_4), (0, .ref (K.2.1 a0)), (1, .ref (K.2.1 a1)), (2, .int x2)]) dX4_layAs_13 rfl (by decide) (by decide) (fun _ => rfl) hf (fun x3_4 hf => ?_)
    refine g_goto C 2 dX4_layAs_16 (by decide) ?_
    refine g_cut [1, 2, 3, 0] rfl ?_
    exact ih _ _ hf
set_option maxHeartbeats 4000000 in
set_option maxRecDepth 100000 in
theorem mX4_layAs {K : Kx} (hK0 : isKC K) (l : Launch) (σ : St) (a0 : Nat) (a1 : Nat) (x2 : Int32) (ha0 : 0 < lnC a0) (ha1 : 0 < lnC a1) (σ' : St) (hf : f4_layAs σ a0 a1 x2 = some σ') : mC K l yX4_layAs cX4_layAs 4 none rmX4_layAs [.ref (K.2.1 a0), .ref (K.2.1 a1), .int x2] σ none σ' := by
  refine g_entry (own := RX4) rfl (by decide +kernel) (Nat.le_of_ble_eq_true rfl) (fun X hX C Kf hR => ?_)
  subst hX
  unfold f4_layAs at hf
  show gG X σ 0 [(0, .ref (K.2.1 a0)), (1, .ref (K.2.1 a1)), (2, .int x2)] []
  refine g_iconst (v := 0) C dX4_layAs_0 (by decide) ?_
  refine g_istore_n C [(3, .int 0), (0, .ref (K.2.1 a0)), (1, .ref (K.2.1 a1)), (2, .int x2)] dX4_layAs_1 rfl (by decide) rfl ?_
  refine g_cut [1, 2, 3, 0] rfl ?_
  refine wL4_layAs_2 hK0 σ a0 a1 ha0 ha1 x2 _ C Kf hR _ (fun σ_6 hf => ?_) _ _ _ hf
  exact g_vretP C Kf hR dX4_layAs_19 hf
abbrev rmX4_start : Room := { frames := 1, cells := 0, slots := 0, locals := 23 }
set_option maxHeartbeats 4000000 in
set_option maxRecDepth 100000 in
theorem mX4_start {K : Kx} (hK0 : isKC K) (l : Launch) (σ : St)   (σ' : St) (hf : f4_start σ = some σ') : mC K l yX4_start cX4_start 2 none rmX4_start [.ref (K.2.1 21), .ref (K.2.1 13)] σ none σ' := by
  refine g_entry (own := RX4) rfl (by decide +kernel) (Nat.le_of_ble_eq_true rfl) (fun X hX C Kf hR => ?_)
  subst hX
  unfold f4_start at hf
  show gG X σ 0 [(0, .ref (K.2.1 21)), (1, .ref (K.2.1 13))] []
  refine g_aload_n C 1 dX4_start_0 rfl ?_
  refine g_getRN C Kf cl_X1 (qF_X1_3 hK0) (by decide) dX4_start_1 kf_X4_40 ?_
  refine g_aload_n C 0 dX4_start_4 rfl ?_
  refine g_getR C Kf cl_X4 (qF_X4_0 hK0) (by decide) dX4_start_5 kf_X4_11 ?_
  refine g_iconst (v := 0) C dX4_start_8 (by decide) ?_
  refine g_aaldL C Kf 24 (by decide) (by unfold vp_in; decide) (qRC_22 hK0) dX4_start_9 ?_
  refine g_aload_n C 1 dX4_start_10 rfl ?_
  refine g_getIN C Kf cl_X1 (qF_X1_7 hK0) (by decide) dX4_start_11 kf_X4_45 ?_
  obtain ⟨σ_2, h_1, hf⟩ := b1_some hf
  refine g_cS_v C Kf [.ref (K.2.1 17), .ref (K.2.1 24), .int (σ.1 13 7)] (mX4_layAs hK0 X.1.2.1 σ 17 24 (σ.1 13 7) (by decide) (by decide) σ_2 h_1) mi_X4_layAs km_X4_48 ⟨rfl, rfl, by decide, by decide⟩ rfl rfl (Nat.le_of_ble_eq_true rfl) dX4_start_14 ?_
  exact g_vretP C Kf hR dX4_start_17 hf
abbrev rmX4_step : Room := { frames := 4, cells := 0, slots := 0, locals := 99 }
set_option maxHeartbeats 4000000 in
set_option maxRecDepth 100000 in
theorem mX4_step {K : Kx} (hK0 : isKC K) (l : Launch) (σ : St) (x2 : Int32) (x3 : Int32) (x4 : Int32)  (r : Int32) (σ' : St) (hf : f4_step σ x2 x3 x4 = some (r, σ')) : mC K l yX4_step cX4_step 5 (some .int) rmX4_step [.ref (K.2.1 21), .ref (K.2.1 13), .int x2, .int x3, .int x4] σ (some (.int r)) σ' := by
  refine g_entry (own := RX4) rfl (by decide +kernel) (Nat.le_of_ble_eq_true rfl) (fun X hX C Kf hR => ?_)
  subst hX
  unfold f4_step at hf
  show gG X σ 0 [(0, .ref (K.2.1 21)), (1, .ref (K.2.1 13)), (2, .int x2), (3, .int x3), (4, .int x4)] []
  refine g_iload_n C 3 dX4_step_0 rfl ?_
  refine g_iconst (v := 3) C dX4_step_1 (by decide) ?_
  refine g_icmp_lt C 29 dX4_step_2 (by decide) hf (fun hf => ?_) (fun hf => ?_)
  · refine g_aload_n C 1 dX4_step_29 rfl ?_
    refine g_aload_n C 0 dX4_step_30 rfl ?_
    refine g_getR C Kf cl_X4 (qF_X4_0 hK0) (by decide) dX4_step_31 kf_X4_11 ?_
    refine g_iload_n C 2 dX4_step_34 rfl ?_
    refine g_aald C Kf (qRC_22 hK0) dX4_step_35 hf (fun hl_1 hf => ?_)
    refine g_aload_n C 0 dX4_step_36 rfl ?_
    refine g_getR C Kf cl_X4 (qF_X4_0 hK0) (by decide) dX4_step_37 kf_X4_11 ?_
    refine g_iload_n C 2 dX4_step_40 rfl ?_
    refine g_iconst (v := 1) C dX4_step_41 (by decide) ?_
    refine g_iadd C dX4_step_42 ?_
    refine g_aald C Kf (qRC_22 hK0) dX4_step_43 hf (fun hl_2 hf => ?_)
    refine g_iload_n C 3 dX4_step_44 rfl ?_
    refine g_iload C 4 dX4_step_45 rfl ?_
    refine g_iconst (v := 0) C dX4_step_47 (by decide) ?_
    obtain ⟨σ_4, h_3, hf⟩ := b1_some hf
    refine g_cVN_v C Kf [.ref (K.2.1 (24 + x2.toNatClampNeg)), .ref (K.2.1 (24 + (x2 + 1).toNatClampNeg)), .int x3, .int x4, .int 0] (mX1_sift hK0 X.1.2.1 σ (24 + x2.toNatClampNeg) (24 + (x2 + 1).toNatClampNeg) x3 x4 0 (by rw [lnC_lies hl_1]; decide) (by rw [lnC_lies hl_2]; decide) σ_4 h_3) mi_X1_sift (qO_X1 hK0) rfl km_X4_55 ⟨rfl, rfl, by decide, by decide⟩ rfl rfl (Nat.le_of_ble_eq_true rfl) dX4_step_48 ?_
    refine g_iload C 4 dX4_step_51 rfl ?_
    obtain ⟨r_6, h_5, hf⟩ := b1_some hf
    refine g_cSN_i C Kf [.int x4] (mX5_onePassMore hK0 X.1.2.1 σ_4 x4 r_6 h_5) mi_X5_onePassMore km_X4_73 ⟨rfl, rfl, by decide, by decide⟩ rfl rfl (Nat.le_of_ble_eq_true rfl) dX4_step_53 ?_
    exact g_iretP C Kf hR dX4_step_56 hf
  · refine g_aload_n C 0 dX4_step_5 rfl ?_
    refine g_getR C Kf cl_X4 (qF_X4_0 hK0) (by decide) dX4_step_6 kf_X4_11 ?_
    refine g_iload_n C 2 dX4_step_9 rfl ?_
    refine g_aald C Kf (qRC_22 hK0) dX4_step_10 hf (fun hl_7 hf => ?_)
    refine g_aload_n C 0 dX4_step_11 rfl ?_
    refine g_getR C Kf cl_X4 (qF_X4_0 hK0) (by decide) dX4_step_12 kf_X4_11 ?_
    refine g_iload_n C 2 dX4_step_15 rfl ?_
    refine g_iconst (v := 1) C dX4_step_16 (by decide) ?_
    refine g_iadd C dX4_step_17 ?_
    refine g_aald C Kf (qRC_22 hK0) dX4_step_18 hf (fun hl_8 hf => ?_)
    refine g_aload_n C 1 dX4_step_19 rfl ?_
    refine g_getIN C Kf cl_X1 (qF_X1_7 hK0) (by decide) dX4_step_20 kf_X4_45 ?_
    obtain ⟨σ_10, h_9, hf⟩ := b1_some hf
    refine g_cS_v C Kf [.ref (K.2.1 (24 + x2.toNatClampNeg)), .ref (K.2.1 (24 + (x2 + 1).toNatClampNeg)), .int (σ.1 13 7)] (mX4_layAs hK0 X.1.2.1 σ (24 + x2.toNatClampNeg) (24 + (x2 + 1).toNatClampNeg) (σ.1 13 7) (by rw [lnC_lies hl_7]; decide) (by rw [lnC_lies hl_8]; decide) σ_10 h_9) mi_X4_layAs km_X4_48 ⟨rfl, rfl, by decide, by decide⟩ rfl rfl (Nat.le_of_ble_eq_true rfl) dX4_step_23 ?_
    refine g_iload C 4 dX4_step_26 rfl ?_
    exact g_iretP C Kf hR dX4_step_28 hf
abbrev rmX4_outcome (d : Nat) : Room := { frames := 5 + d, cells := 0, slots := 0, locals := 123 + 29 * d }
set_option maxHeartbeats 4000000 in
set_option maxRecDepth 100000 in
theorem wL4_outcome_66 {X : Gx St} {K : Kx} (hK0 : isKC K) {d : Nat} {rec : St → Int32 → Int32 → Int32 → Int32 → Option (Int32 × St)} (ihd : ∀ (l : Launch) (σ : St) (x2 : Int32) (x3 : Int32) (x4 : Int32) (x5 : Int32) (r : Int32) (σ' : St), rec σ x2 x3 x4 x5 = some (r, σ') → mC K l yX4_outcome cX4_outcome 10 (some .int) (rmX4_outcome d) [.ref (K.2.1 21), .ref (K.2.1 13), .int x2, .int x3, .int x4, .int x5] σ (some (.int r)) σ') (σ : St) (x2 : Int32) (x3 : Int32) (x6 : Int32) (r : Int32) (σ' : St) (C : gF X cX4_outcome RX4 (some .int) 10 (rmX4_outcome (d + 1))) (Kf : kF X K) (hR : gR X K (some (.int r)) σ') (k : Int32 → Int32 → St → Option (Int32 × St)) (Hk : ∀ (x4_18 : Int32) (x5_19 : Int32) (σ_34 : St), k x4_18 x5_19 σ_34 = some (r, σ') → gG X σ_34 138 [(4, .int x4_18), (5, .int x5_19), (6, .int x6)] []) : ∀ (n : Nat) (x4_14 : Int32) (x5_15 : Int32) (x7_16 : Int32) (σ_17 : St), L4_outcome_66 rec x2 x3 x6 k n x4_14 x5_15 x7_16 σ_17 = some (r, σ') → gG X σ_17 66 [(0, .ref (K.2.1 21)), (1, .ref (K.2.1 13)), (2, .int x2), (3, .int x3), (4, .int x4_14), (5, .int x5_15), (6, .int x6), (7, .int x7_16)] [] := by
  intro n
  induction n with
  | zero => intro _ _ _ _ hf; unfold L4_outcome_66 at hf; cases hf
  | succ n ih =>
  intro x4_14 x5_15 x7_16 σ_17 hf
  unfold L4_outcome_66 at hf
  refine g_iload C 7 dX4_outcome_66 rfl ?_
  refine g_iconst (v := 3) C dX4_outcome_68 (by decide) ?_
  refine g_icmp_gt C 138 dX4_outcome_69 (by decide) hf (fun hf => ?_) (fun hf => ?_)
  · refine g_cut [4, 5, 6] rfl ?_
    exact Hk _ _ _ hf
  · refine g_iload C 4 dX4_outcome_72 rfl ?_
    refine g_iload C 5 dX4_outcome_74 rfl ?_
    refine g_icmp_ge C 138 dX4_outcome_76 (by decide) hf (fun hf => ?_) (fun hf => ?_)
    · refine g_cut [4, 5, 6] rfl ?_
      exact Hk _ _ _ hf
    · refine g_aload_n C 0 dX4_outcome_79 rfl ?_
      refine g_aload_n C 1 dX4_outcome_80 rfl ?_
      refine g_iload_n C 2 dX4_outcome_81 rfl ?_
      refine g_iload C 7 dX4_outcome_82 rfl ?_
      refine g_iload_n C 3 dX4_outcome_84 rfl ?_
      obtain ⟨r_21, σ_22, h_20, hf⟩ := b2_some hf
      refine g_cV_i C Kf [.ref (K.2.1 13), .int x2, .int x7_16, .int x3] (mX4_step hK0 X.1.2.1 σ_17 x2 x7_16 x3 r_21 σ_22 h_20) mi_X4_step (qO_X4 hK0) rfl km_X4_96 (by unfold rmOK; refine ⟨rfl, rfl, ?_, ?_⟩ <;> (simp [rmX4_outcome, rmX4_step]; try omega)) rfl rfl (Nat.le_of_ble_eq_true rfl) dX4_outcome_85 ?_
      refine g_istore C [(8, .int r_21), (0, .ref (K.2.1 21)), (1, .ref (K.2.1 13)), (2, .int x2), (3, .int x3), (4, .int x4_14), (5, .int x5_15), (6, .int x6), (7, .int x7_16)] dX4_outcome_88 (by decide) rfl ?_
      refine g_aload_n C 1 dX4_outcome_90 rfl ?_
      refine g_aload_n C 2 dX4_outcome_91 rfl ?_
      refine g_iload_n C 3 dX4_outcome_92 rfl ?_
      refine g_iconst (v := 1) C dX4_outcome_93 (by decide) ?_
      refine g_iadd C dX4_outcome_94 ?_
      refine g_iload C 0 dX4_outcome_95 rfl ?_
      refine g_iload C 5 dX4_outcome_97 rfl ?_
      refine g_iload C 6 dX4_outcome_99 rfl ?_
      obtain ⟨r_24, σ_25, h_23, hf⟩ := b2_some hf
      refine g_cV_i C Kf [.ref (K.2.1 13), .int (x2 + 1), .int r_21, .int x4_14, .int x5_15] (ihd X.1.2.1 σ_22 (x2 + 1) r_21 x4_14 x5_15 r_24 σ_25 h_23) mi_X4_outcome (qO_X4 hK0) rfl km_X4_88 (by unfold rmOK; refine ⟨rfl, rfl, ?_, ?_⟩ <;> (simp [rmX4_outcome]; try omega)) rfl rfl (Nat.le_of_ble_eq_true rfl) dX4_outcome_101 ?_
      refine g_istore C [(9, .int r_24), (8, .int r_21), (0, .ref (K.2.1 21)), (1, .ref (K.2.1 13)), (2, .int x2), (3, .int x3), (4, .int x4_14), (5, .int x5_15), (6, .int x6), (7, .int x7_16)] dX4_outcome_104 (by decide) rfl ?_
      refine g_iload C 8 dX4_outcome_106 rfl ?_
      refine g_jn hf (fun j_28 ej_30 hf => ?_)
      have HJ_29 : ∀ (x4_26 : Int32) (x5_27 : Int32), j_28 x4_26 x5_27 = some (r, σ') → gG X σ_25 132 [(0, .ref (K.2.1 21)), (1, .ref (K.2.1 13)), (2, .int x2), (3, .int x3), (4, .int x4_26), (5, .int x5_27), (6, .int x6), (7, .int x7_16)] [] := by
        intro x4_26 x5_27 hf
        rw [ej_30] at hf
        refine g_iinc (d := 1) C 7 (fun x7_31 => [(7, .int x7_31), (0, .ref (K.2.1 21)), (1, .ref (K.2.1 13)), (2, .int x2), (3, .int x3), (4, .int x4_26), (5, .int x5_27), (6, .int x6)]) dX4_outcome_132 rfl (by decide) (by decide) (fun _ => rfl) hf (fun x7_31 hf => ?_)
        refine g_goto C 66 dX4_outcome_135 (by decide) ?_
        refine g_cut [1, 2, 3, 4, 5, 6, 7, 0] rfl ?_
        exact ih _ _ _ _ hf
      refine g_if_eq C 123 dX4_outcome_108 (by decide) hf (fun hf => ?_) (fun hf => ?_)
      · refine g_iload C 7 dX4_outcome_123 rfl ?_
        refine g_iload C 0 dX4_outcome_125 rfl ?_
        refine g_min C dX4_outcome_127 km_X4_105 kmath_min ⟨Nat.le_of_ble_eq_true rfl, Nat.le_of_ble_eq_true rfl⟩ ?_
        refine g_istoreB C (fun x5_32 => [(5, .int x5_32), (9, .int r_24), (8, .int r_21), (0, .ref (K.2.1 21)), (1, .ref (K.2.1 13)), (2, .int x2), (3, .int x3), (4, .int x4_14), (6, .int x6), (7, .int x7_16)]) dX4_outcome_130 (by decide) (fun _ => rfl) hf (fun x5_32 hf => ?_)
        refine g_cut [3, 4, 5, 6, 7, 0, 8, 9] rfl ?_
        exact HJ_29 _ _ hf
      · refine g_iload C 6 dX4_outcome_111 rfl ?_
        refine g_iload C 0 dX4_outcome_113 rfl ?_
        refine g_max C dX4_outcome_115 km_X4_100 kmath_max ⟨Nat.le_of_ble_eq_true rfl, Nat.le_of_ble_eq_true rfl⟩ ?_
        refine g_istoreB C (fun x4_33 => [(4, .int x4_33), (9, .int r_24), (8, .int r_21), (0, .ref (K.2.1 21)), (1, .ref (K.2.1 13)), (2, .int x2), (3, .int x3), (5, .int x5_15), (6, .int x6), (7, .int x7_16)]) dX4_outcome_118 (by decide) (fun _ => rfl) hf (fun x4_33 hf => ?_)
        refine g_goto C 132 dX4_outcome_120 (by decide) ?_
        refine g_cut [3, 4, 5, 6, 0, 7, 8, 9] rfl ?_
        exact HJ_29 _ _ hf
set_option maxHeartbeats 4000000 in
set_option maxRecDepth 100000 in
theorem mX4_outcome {K : Kx} (hK0 : isKC K) : ∀ (d : Nat) (l : Launch) (σ : St) (x2 : Int32) (x3 : Int32) (x4 : Int32) (x5 : Int32) (r : Int32) (σ' : St), f4_outcome d σ x2 x3 x4 x5 = some (r, σ') → mC K l yX4_outcome cX4_outcome 10 (some .int) (rmX4_outcome d) [.ref (K.2.1 21), .ref (K.2.1 13), .int x2, .int x3, .int x4, .int x5] σ (some (.int r)) σ' := by
  intro d
  induction d with
  | zero => intro l σ x2 x3 x4 x5 r σ' hf; unfold f4_outcome at hf; cases hf
  | succ d ihd =>
  intro l σ x2 x3 x4 x5 r σ' hf
  refine g_entry (own := RX4) rfl (by decide +kernel) (Nat.le_of_ble_eq_true rfl) (fun X hX C Kf hR => ?_)
  subst hX
  unfold f4_outcome at hf
  show gG X σ 0 [(0, .ref (K.2.1 21)), (1, .ref (K.2.1 13)), (2, .int x2), (3, .int x3), (4, .int x4), (5, .int x5)] []
  refine g_iload_n C 2 dX4_outcome_0 rfl ?_
  refine g_aload_n C 0 dX4_outcome_1 rfl ?_
  refine g_getI C Kf cl_X4 (qF_X4_7 hK0) (by decide) dX4_outcome_2 kf_X4_37 ?_
  refine g_jn hf (fun j_1 ej_3 hf => ?_)
  have HJ_2 : j_1 = some (r, σ') → gG X σ 14 [(0, .ref (K.2.1 21)), (1, .ref (K.2.1 13)), (2, .int x2)] [] := by
    intro hf
    rw [ej_3] at hf
    refine g_aload_n C 0 dX4_outcome_14 rfl ?_
    refine g_getR C Kf cl_X4 (qF_X4_0 hK0) (by decide) dX4_outcome_15 kf_X4_11 ?_
    refine g_iload_n C 2 dX4_outcome_18 rfl ?_
    refine g_aald C Kf (qRC_22 hK0) dX4_outcome_19 hf (fun hl_4 hf => ?_)
    refine g_aload_n C 0 dX4_outcome_20 rfl ?_
    refine g_getI C Kf cl_X4 (qF_X4_6 hK0) (by decide) dX4_outcome_21 kf_X4_34 ?_
    refine g_aload_n C 1 dX4_outcome_24 rfl ?_
    refine g_getIN C Kf cl_X1 (qF_X1_7 hK0) (by decide) dX4_outcome_25 kf_X4_45 ?_
    obtain ⟨r_6, h_5, hf⟩ := b1_some hf
    refine g_cSN_i C Kf [.ref (K.2.1 (24 + x2.toNatClampNeg)), .int (σ.1 21 6), .int (σ.1 13 7)] (mX5_placeIn hK0 X.1.2.1 σ (24 + x2.toNatClampNeg) (σ.1 21 6) (σ.1 13 7) (by rw [lnC_lies hl_4]; decide) r_6 h_5) mi_X5_placeIn km_X4_92 (by unfold rmOK; refine ⟨rfl, rfl, ?_, ?_⟩ <;> (simp [rmX4_outcome, rmX5_placeIn]; try omega)) rfl rfl (Nat.le_of_ble_eq_true rfl) dX4_outcome_28 ?_
    refine g_aload_n C 0 dX4_outcome_31 rfl ?_
    refine g_getR C Kf cl_X4 (qF_X4_0 hK0) (by decide) dX4_outcome_32 kf_X4_11 ?_
    refine g_iload_n C 2 dX4_outcome_35 rfl ?_
    refine g_aald C Kf (qRC_22 hK0) dX4_outcome_36 hf (fun hl_7 hf => ?_)
    refine g_aload_n C 0 dX4_outcome_37 rfl ?_
    refine g_getI C Kf cl_X4 (qF_X4_3 hK0) (by decide) dX4_outcome_38 kf_X4_24 ?_
    refine g_aload_n C 1 dX4_outcome_41 rfl ?_
    refine g_getIN C Kf cl_X1 (qF_X1_7 hK0) (by decide) dX4_outcome_42 kf_X4_45 ?_
    obtain ⟨r_9, h_8, hf⟩ := b1_some hf
    refine g_cSN_i C Kf [.ref (K.2.1 (24 + x2.toNatClampNeg)), .int (σ.1 21 3), .int (σ.1 13 7)] (mX5_placeIn hK0 X.1.2.1 σ (24 + x2.toNatClampNeg) (σ.1 21 3) (σ.1 13 7) (by rw [lnC_lies hl_7]; decide) r_9 h_8) mi_X5_placeIn km_X4_92 (by unfold rmOK; refine ⟨rfl, rfl, ?_, ?_⟩ <;> (simp [rmX4_outcome, rmX5_placeIn]; try omega)) rfl rfl (Nat.le_of_ble_eq_true rfl) dX4_outcome_45 ?_
    refine g_isub C dX4_outcome_48 ?_
    exact g_iretP C Kf hR dX4_outcome_49 hf
  refine g_icmp_ge C 14 dX4_outcome_5 (by decide) hf (fun hf => ?_) (fun hf => ?_)
  · refine g_cut [0, 1, 2] rfl ?_
    exact HJ_2 hf
  · refine g_iload_n C 2 dX4_outcome_8 rfl ?_
    refine g_bipush (v := 6) C dX4_outcome_9 (by decide) ?_
    refine g_icmp_lt C 50 dX4_outcome_11 (by decide) hf (fun hf => ?_) (fun hf => ?_)
    · refine g_iload_n C 2 dX4_outcome_50 rfl ?_
      refine g_iconst (v := 2) C dX4_outcome_51 (by decide) ?_
      refine g_irem0 C dX4_outcome_52 (by decide) ?_
      refine g_jn hf (fun j_11 ej_13 hf => ?_)
      have HJ_12 : ∀ (y_10 : Int32), j_11 y_10 = some (r, σ') → gG X σ 61 [(0, .ref (K.2.1 21)), (1, .ref (K.2.1 13)), (2, .int x2), (3, .int x3), (4, .int x4), (5, .int x5)] [.int y_10] := by
        intro y_10 hf
        rw [ej_13] at hf
        refine g_istore C [(6, .int y_10), (0, .ref (K.2.1 21)), (1, .ref (K.2.1 13)), (2, .int x2), (3, .int x3), (4, .int x4), (5, .int x5)] dX4_outcome_61 (by decide) rfl ?_
        refine g_iconst (v := 0) C dX4_outcome_63 (by decide) ?_
        refine g_istore C [(7, .int 0), (6, .int y_10), (0, .ref (K.2.1 21)), (1, .ref (K.2.1 13)), (2, .int x2), (3, .int x3), (4, .int x4), (5, .int x5)] dX4_outcome_64 (by decide) rfl ?_
        refine g_cut [2, 3, 4, 5, 6, 7, 1, 0] rfl ?_
        refine wL4_outcome_66 hK0 ihd σ x2 x3 y_10 _ _ C Kf hR _ (fun x4_35 x5_36 σ_37 hf => ?_) _ _ _ _ _ hf
        refine g_iload C 2 dX4_outcome_138 rfl ?_
        refine g_if_eq C 148 dX4_outcome_140 (by decide) hf (fun hf => ?_) (fun hf => ?_)
        · refine g_iload C 1 dX4_outcome_148 rfl ?_
          exact g_iretP C Kf hR dX4_outcome_150 hf
        · refine g_iload C 0 dX4_outcome_143 rfl ?_
          refine g_goto C 150 dX4_outcome_145 (by decide) ?_
          exact g_iretP C Kf hR dX4_outcome_150 hf
      refine g_if_ne C 60 dX4_outcome_53 (by decide) hf (fun hf => ?_) (fun hf => ?_)
      · refine g_iconst (v := 0) C dX4_outcome_60 (by decide) ?_
        exact HJ_12 _ hf
      · refine g_iconst (v := 1) C dX4_outcome_56 (by decide) ?_
        refine g_goto C 61 dX4_outcome_57 (by decide) ?_
        exact HJ_12 _ hf
    · refine g_cut [0, 1, 2] rfl ?_
      exact HJ_2 hf
abbrev rmX4_duelOf : Room := { frames := 13, cells := 0, slots := 0, locals := 355 }
set_option maxHeartbeats 4000000 in
set_option maxRecDepth 100000 in
theorem mX4_duelOf {K : Kx} (hK0 : isKC K) (l : Launch) (σ : St) (x2 : Int32) (x3 : Int32) (x4 : Int32)  (r : Int32) (σ' : St) (hf : f4_duelOf σ x2 x3 x4 = some (r, σ')) : mC K l yX4_duelOf cX4_duelOf 5 (some .int) rmX4_duelOf [.ref (K.2.1 21), .ref (K.2.1 13), .int x2, .int x3, .int x4] σ (some (.int r)) σ' := by
  refine g_entry (own := RX4) rfl (by decide +kernel) (Nat.le_of_ble_eq_true rfl) (fun X hX C Kf hR => ?_)
  subst hX
  unfold f4_duelOf at hf
  show gG X σ 0 [(0, .ref (K.2.1 21)), (1, .ref (K.2.1 13)), (2, .int x2), (3, .int x3), (4, .int x4)] []
  refine g_aload_n C 0 dX4_duelOf_0 rfl ?_
  refine g_aload_n C 1 dX4_duelOf_1 rfl ?_
  obtain ⟨σ_2, h_1, hf⟩ := b1_some hf
  refine g_cV_v C Kf [.ref (K.2.1 13)] (mX4_start hK0 X.1.2.1 σ σ_2 h_1) mi_X4_start (qO_X4 hK0) rfl km_X4_59 ⟨rfl, rfl, by decide, by decide⟩ rfl rfl (Nat.le_of_ble_eq_true rfl) dX4_duelOf_2 ?_
  refine g_aload_n C 0 dX4_duelOf_5 rfl ?_
  refine g_iload_n C 2 dX4_duelOf_6 rfl ?_
  refine g_putI C Kf cl_X4 (qF_X4_3 hK0) (by decide) rfl rfl rfl dX4_duelOf_7 kf_X4_24 hf (fun σ_3 hf => ?_)
  refine g_aload_n C 0 dX4_duelOf_10 rfl ?_
  refine g_iload_n C 3 dX4_duelOf_11 rfl ?_
  refine g_putI C Kf cl_X4 (qF_X4_6 hK0) (by decide) rfl rfl rfl dX4_duelOf_12 kf_X4_34 hf (fun σ_4 hf => ?_)
  refine g_aload_n C 0 dX4_duelOf_15 rfl ?_
  refine g_iconst (v := 2) C dX4_duelOf_16 (by decide) ?_
  refine g_iload C 4 dX4_duelOf_17 rfl ?_
  refine g_imul C dX4_duelOf_19 ?_
  refine g_putI C Kf cl_X4 (qF_X4_7 hK0) (by decide) rfl rfl rfl dX4_duelOf_20 kf_X4_37 hf (fun σ_5 hf => ?_)
  refine g_aload_n C 0 dX4_duelOf_23 rfl ?_
  refine g_aload_n C 1 dX4_duelOf_24 rfl ?_
  refine g_iconst (v := 0) C dX4_duelOf_25 (by decide) ?_
  refine g_aload_n C 1 dX4_duelOf_26 rfl ?_
  refine g_getIN C Kf cl_X1 (qF_X1_8 hK0) (by decide) dX4_duelOf_27 kf_X4_52 ?_
  refine g_bipush (v := (-6)) C dX4_duelOf_30 (by decide) ?_
  refine g_bipush (v := 6) C dX4_duelOf_32 (by decide) ?_
  obtain ⟨r_7, σ_8, h_6, hf⟩ := b2_some hf
  refine g_cV_i C Kf [.ref (K.2.1 13), .int 0, .int (σ_5.1 13 8), .int ((-6)), .int 6] (mX4_outcome hK0 7 X.1.2.1 σ_5 0 (σ_5.1 13 8) ((-6) : Int32) 6 r_7 σ_8 h_6) mi_X4_outcome (qO_X4 hK0) rfl km_X4_88 ⟨rfl, rfl, by decide, by decide⟩ rfl rfl (Nat.le_of_ble_eq_true rfl) dX4_duelOf_34 ?_
  exact g_iretP C Kf hR dX4_duelOf_37 hf
abbrev rmX4_inOrder : Room := { frames := 4, cells := 0, slots := 0, locals := 91 }
set_option maxHeartbeats 4000000 in
set_option maxRecDepth 100000 in
theorem wL4_inOrder_6 {X : Gx St} {K : Kx} (hK0 : isKC K) (σ : St) (a2 : Nat) (ha2 : 0 < lnC a2) (x3 : Int32) (r : Int32) (C : gF X cX4_inOrder RX4 (some .boolean) 7 rmX4_inOrder) (Kf : kF X K) (hR : gR X K (some (.int r)) σ) (k : Option (Int32)) (Hk : k = some r → gG X σ 49 [] []) : ∀ (n : Nat) (x4_1 : Int32) (x5_2 : Int32), L4_inOrder_6 σ a2 x3 k n x4_1 x5_2 = some r → gG X σ 6 [(0, .ref (K.2.1 21)), (1, .ref (K.2.1 13)), (2, .ref (K.2.1 a2)), (3, .int x3), (4, .int x4_1), (5, .int x5_2)] [] := by
  intro n
  induction n with
  | zero => intro _ _ hf; unfold L4_inOrder_6 at hf; cases hf
  | succ n ih =>
  intro x4_1 x5_2 hf
  unfold L4_inOrder_6 at hf
  refine g_iload C 5 dX4_inOrder_6 rfl ?_
  refine g_aload_n C 1 dX4_inOrder_8 rfl ?_
  refine g_getIN C Kf cl_X1 (qF_X1_7 hK0) (by decide) dX4_inOrder_9 kf_X4_45 ?_
  refine g_icmp_ge C 49 dX4_inOrder_12 (by decide) hf (fun hf => ?_) (fun hf => ?_)
  · refine g_cut [] rfl ?_
    exact Hk hf
  · refine g_aload_n C 1 dX4_inOrder_15 rfl ?_
    refine g_aload_n C 2 dX4_inOrder_16 rfl ?_
    refine g_iload C 5 dX4_inOrder_17 rfl ?_
    refine g_iald C Kf (qAC hK0 ha2) dX4_inOrder_19 hf (fun hf => ?_)
    refine g_aload_n C 0 dX4_inOrder_20 rfl ?_
    refine g_getI C Kf cl_X4 (qF_X4_5 hK0) (by decide) dX4_inOrder_21 kf_X4_31 ?_
    refine g_iload_n C 3 dX4_inOrder_24 rfl ?_
    obtain ⟨r_4, h_3, hf⟩ := b1_some hf
    refine g_cVN_i C Kf [.int (σ.1 a2 x5_2.toNatClampNeg), .int (σ.1 21 5), .int x3] (mX1_readsBehind hK0 X.1.2.1 σ (σ.1 a2 x5_2.toNatClampNeg) (σ.1 21 5) x3 r_4 h_3) mi_X1_readsBehind (qO_X1 hK0) rfl km_X4_84 ⟨rfl, rfl, by decide, by decide⟩ rfl rfl (Nat.le_of_ble_eq_true rfl) dX4_inOrder_25 ?_
    refine g_istore C [(6, .int r_4), (0, .ref (K.2.1 21)), (1, .ref (K.2.1 13)), (2, .ref (K.2.1 a2)), (3, .int x3), (4, .int x4_1), (5, .int x5_2)] dX4_inOrder_28 (by decide) rfl ?_
    refine g_iload C 0 dX4_inOrder_30 rfl ?_
    refine g_iload C 5 dX4_inOrder_32 rfl ?_
    refine g_icmp_ge C 39 dX4_inOrder_34 (by decide) hf (fun hf => ?_) (fun hf => ?_)
    · refine g_iload C 0 dX4_inOrder_39 rfl ?_
      refine g_istore C [(4, .int r_4), (6, .int r_4), (0, .ref (K.2.1 21)), (1, .ref (K.2.1 13)), (2, .ref (K.2.1 a2)), (3, .int x3), (5, .int x5_2)] dX4_inOrder_41 (by decide) rfl ?_
      refine g_iinc (d := 1) C 6 (fun x5_5 => [(5, .int x5_5), (4, .int r_4), (6, .int r_4), (0, .ref (K.2.1 21)), (1, .ref (K.2.1 13)), (2, .ref (K.2.1 a2)), (3, .int x3)]) dX4_inOrder_43 rfl (by decide) (by decide) (fun _ => rfl) hf (fun x5_5 hf => ?_)
      refine g_goto C 6 dX4_inOrder_46 (by decide) ?_
      refine g_cut [3, 4, 5, 6, 1, 0] rfl ?_
      exact ih _ _ hf
    · refine g_iconst (v := 0) C dX4_inOrder_37 (by decide) ?_
      exact g_zretR C Kf hR (Or.inl rfl) dX4_inOrder_38 hf
set_option maxHeartbeats 4000000 in
set_option maxRecDepth 100000 in
theorem mX4_inOrder {K : Kx} (hK0 : isKC K) (l : Launch) (σ : St) (a2 : Nat) (x3 : Int32) (ha2 : 0 < lnC a2) (r : Int32) (hf : f4_inOrder σ a2 x3 = some r) : mC K l yX4_inOrder cX4_inOrder 7 (some .boolean) rmX4_inOrder [.ref (K.2.1 21), .ref (K.2.1 13), .ref (K.2.1 a2), .int x3] σ (some (.int r)) σ := by
  refine g_entry (own := RX4) rfl (by decide +kernel) (Nat.le_of_ble_eq_true rfl) (fun X hX C Kf hR => ?_)
  subst hX
  unfold f4_inOrder at hf
  show gG X σ 0 [(0, .ref (K.2.1 21)), (1, .ref (K.2.1 13)), (2, .ref (K.2.1 a2)), (3, .int x3)] []
  refine g_iconst (v := 0) C dX4_inOrder_0 (by decide) ?_
  refine g_istore C [(4, .int 0), (0, .ref (K.2.1 21)), (1, .ref (K.2.1 13)), (2, .ref (K.2.1 a2)), (3, .int x3)] dX4_inOrder_1 (by decide) rfl ?_
  refine g_iconst (v := 0) C dX4_inOrder_3 (by decide) ?_
  refine g_istore C [(5, .int 0), (4, .int 0), (0, .ref (K.2.1 21)), (1, .ref (K.2.1 13)), (2, .ref (K.2.1 a2)), (3, .int x3)] dX4_inOrder_4 (by decide) rfl ?_
  refine g_cut [2, 3, 4, 5, 1, 0] rfl ?_
  refine wL4_inOrder_6 hK0 σ a2 ha2 x3 _ C Kf hR _ (fun  hf => ?_) _ _ _ hf
  refine g_iconst (v := 1) C dX4_inOrder_49 (by decide) ?_
  exact g_zretR C Kf hR (Or.inr rfl) dX4_inOrder_50 hf
abbrev rmX4_passAll : Room := { frames := 4, cells := 0, slots := 0, locals := 99 }
set_option maxHeartbeats 4000000 in
set_option maxRecDepth 100000 in
theorem wL4_passAll_14 {X : Gx St} {K : Kx} (hK0 : isKC K) (σ : St) (x3 : Int32) (r : Nat) (σ' : St) (C : gF X cX4_passAll RX4 (some (.array .int)) 6 rmX4_passAll) (Kf : kF X K) (hR : gR X K (some (.ref (K.2.1 r))) σ') (k : St → Option (Nat × St)) (Hk : ∀ (σ_16 : St), k σ_16 = some (r, σ') → gG X σ_16 63 [(0, .ref (K.2.1 21))] []) : ∀ (n : Nat) (x4_4 : Int32) (x5_5 : Int32) (σ_6 : St), L4_passAll_14 x3 k n x4_4 x5_5 σ_6 = some (r, σ') → gG X σ_6 14 [(0, .ref (K.2.1 21)), (1, .ref (K.2.1 13)), (2, .ref (K.2.1 1)), (3, .int x3), (4, .int x4_4), (5, .int x5_5)] [] := by
  intro n
  induction n with
  | zero => intro _ _ _ hf; unfold L4_passAll_14 at hf; cases hf
  | succ n ih =>
  intro x4_4 x5_5 σ_6 hf
  unfold L4_passAll_14 at hf
  refine g_iload C 5 dX4_passAll_14 rfl ?_
  refine g_aload_n C 2 dX4_passAll_16 rfl ?_
  refine g_iload_n C 3 dX4_passAll_17 rfl ?_
  obtain ⟨r_8, h_7, hf⟩ := b1_some hf
  refine g_cVN_i C Kf [.int x3] (mX3_sizeOf hK0 X.1.2.1 σ_6 1 x3 (sh_1) r_8 h_7) mi_X3_sizeOf (qO_X3 hK0 sh_1) rfl km_X4_63 ⟨rfl, rfl, by decide, by decide⟩ rfl rfl (Nat.le_of_ble_eq_true rfl) dX4_passAll_18 ?_
  refine g_icmp_ge C 63 dX4_passAll_21 (by decide) hf (fun hf => ?_) (fun hf => ?_)
  · refine g_cut [0] rfl ?_
    exact Hk _ hf
  · refine g_aload_n C 1 dX4_passAll_24 rfl ?_
    refine g_aload_n C 0 dX4_passAll_25 rfl ?_
    refine g_getR C Kf cl_X4 (qF_X4_0 hK0) (by decide) dX4_passAll_26 kf_X4_11 ?_
    refine g_iconst (v := 0) C dX4_passAll_29 (by decide) ?_
    refine g_aaldL C Kf 24 (by decide) (by unfold vp_in; decide) (qRC_22 hK0) dX4_passAll_30 ?_
    refine g_aload_n C 0 dX4_passAll_31 rfl ?_
    refine g_getR C Kf cl_X4 (qF_X4_0 hK0) (by decide) dX4_passAll_32 kf_X4_11 ?_
    refine g_iconst (v := 0) C dX4_passAll_35 (by decide) ?_
    refine g_aaldL C Kf 24 (by decide) (by unfold vp_in; decide) (qRC_22 hK0) dX4_passAll_36 ?_
    refine g_aload_n C 2 dX4_passAll_37 rfl ?_
    refine g_iload_n C 3 dX4_passAll_38 rfl ?_
    refine g_iload C 5 dX4_passAll_39 rfl ?_
    obtain ⟨r_10, h_9, hf⟩ := b1_some hf
    refine g_cVN_i C Kf [.int x3, .int x5_5] (mX3_get hK0 X.1.2.1 σ_6 1 x3 x5_5 (sh_1) r_10 h_9) mi_X3_get (qO_X3 hK0 sh_1) rfl km_X4_69 ⟨rfl, rfl, by decide, by decide⟩ rfl rfl (Nat.le_of_ble_eq_true rfl) dX4_passAll_41 ?_
    refine g_iload C 4 dX4_passAll_44 rfl ?_
    refine g_iconst (v := 0) C dX4_passAll_46 (by decide) ?_
    obtain ⟨σ_12, h_11, hf⟩ := b1_some hf
    refine g_cVN_v C Kf [.ref (K.2.1 24), .ref (K.2.1 24), .int r_10, .int x4_4, .int 0] (mX1_sift hK0 X.1.2.1 σ_6 24 24 r_10 x4_4 0 (by decide) (by decide) σ_12 h_11) mi_X1_sift (qO_X1 hK0) rfl km_X4_55 ⟨rfl, rfl, by decide, by decide⟩ rfl rfl (Nat.le_of_ble_eq_true rfl) dX4_passAll_47 ?_
    refine g_iload C 4 dX4_passAll_50 rfl ?_
    obtain ⟨r_14, h_13, hf⟩ := b1_some hf
    refine g_cSN_i C Kf [.int x4_4] (mX5_onePassMore hK0 X.1.2.1 σ_12 x4_4 r_14 h_13) mi_X5_onePassMore km_X4_73 ⟨rfl, rfl, by decide, by decide⟩ rfl rfl (Nat.le_of_ble_eq_true rfl) dX4_passAll_52 ?_
    refine g_istore C [(4, .int r_14), (0, .ref (K.2.1 21)), (1, .ref (K.2.1 13)), (2, .ref (K.2.1 1)), (3, .int x3), (5, .int x5_5)] dX4_passAll_55 (by decide) rfl ?_
    refine g_iinc (d := 1) C 5 (fun x5_15 => [(5, .int x5_15), (4, .int r_14), (0, .ref (K.2.1 21)), (1, .ref (K.2.1 13)), (2, .ref (K.2.1 1)), (3, .int x3)]) dX4_passAll_57 rfl (by decide) (by decide) (fun _ => rfl) hf (fun x5_15 hf => ?_)
    refine g_goto C 14 dX4_passAll_60 (by decide) ?_
    refine g_cut [2, 3, 4, 5, 1, 0] rfl ?_
    exact ih _ _ _ hf
set_option maxHeartbeats 4000000 in
set_option maxRecDepth 100000 in
theorem mX4_passAll {K : Kx} (hK0 : isKC K) (l : Launch) (σ : St) (x3 : Int32)  (r : Nat) (σ' : St) (hf : f4_passAll σ x3 = some (r, σ')) : mC K l yX4_passAll cX4_passAll 6 (some (.array .int)) rmX4_passAll [.ref (K.2.1 21), .ref (K.2.1 13), .ref (K.2.1 1), .int x3] σ (some (.ref (K.2.1 r))) σ' := by
  refine g_entry (own := RX4) rfl (by decide +kernel) (Nat.le_of_ble_eq_true rfl) (fun X hX C Kf hR => ?_)
  subst hX
  unfold f4_passAll at hf
  show gG X σ 0 [(0, .ref (K.2.1 21)), (1, .ref (K.2.1 13)), (2, .ref (K.2.1 1)), (3, .int x3)] []
  refine g_aload_n C 0 dX4_passAll_0 rfl ?_
  refine g_aload_n C 1 dX4_passAll_1 rfl ?_
  obtain ⟨σ_2, h_1, hf⟩ := b1_some hf
  refine g_cV_v C Kf [.ref (K.2.1 13)] (mX4_start hK0 X.1.2.1 σ σ_2 h_1) mi_X4_start (qO_X4 hK0) rfl km_X4_59 ⟨rfl, rfl, by decide, by decide⟩ rfl rfl (Nat.le_of_ble_eq_true rfl) dX4_passAll_2 ?_
  refine g_aload_n C 1 dX4_passAll_5 rfl ?_
  refine g_getIN C Kf cl_X1 (qF_X1_8 hK0) (by decide) dX4_passAll_6 kf_X4_52 ?_
  refine g_istoreB C (fun x4_3 => [(4, .int x4_3), (0, .ref (K.2.1 21)), (1, .ref (K.2.1 13)), (2, .ref (K.2.1 1)), (3, .int x3)]) dX4_passAll_9 (by decide) (fun _ => rfl) hf (fun x4_3 hf => ?_)
  refine g_iconst (v := 0) C dX4_passAll_11 (by decide) ?_
  refine g_istore C [(5, .int 0), (4, .int x4_3), (0, .ref (K.2.1 21)), (1, .ref (K.2.1 13)), (2, .ref (K.2.1 1)), (3, .int x3)] dX4_passAll_12 (by decide) rfl ?_
  refine g_cut [2, 3, 4, 5, 1, 0] rfl ?_
  refine wL4_passAll_14 hK0 σ_2 x3 _ _ C Kf hR _ (fun σ_17 hf => ?_) _ _ _ _ hf
  refine g_aload_n C 0 dX4_passAll_63 rfl ?_
  refine g_getR C Kf cl_X4 (qF_X4_0 hK0) (by decide) dX4_passAll_64 kf_X4_11 ?_
  refine g_iconst (v := 0) C dX4_passAll_67 (by decide) ?_
  refine g_aaldL C Kf 24 (by decide) (by unfold vp_in; decide) (qRC_22 hK0) dX4_passAll_68 ?_
  exact g_aretP C Kf hR dX4_passAll_69 hf
abbrev rmX4_passOnce : Room := { frames := 4, cells := 0, slots := 0, locals := 99 }
set_option maxHeartbeats 4000000 in
set_option maxRecDepth 100000 in
theorem mX4_passOnce {K : Kx} (hK0 : isKC K) (l : Launch) (σ : St) (x2 : Int32) (x3 : Int32)  (r : Nat) (σ' : St) (hf : f4_passOnce σ x2 x3 = some (r, σ')) : mC K l yX4_passOnce cX4_passOnce 4 (some (.array .int)) rmX4_passOnce [.ref (K.2.1 21), .ref (K.2.1 13), .int x2, .int x3] σ (some (.ref (K.2.1 r))) σ' := by
  refine g_entry (own := RX4) rfl (by decide +kernel) (Nat.le_of_ble_eq_true rfl) (fun X hX C Kf hR => ?_)
  subst hX
  unfold f4_passOnce at hf
  show gG X σ 0 [(0, .ref (K.2.1 21)), (1, .ref (K.2.1 13)), (2, .int x2), (3, .int x3)] []
  refine g_aload_n C 1 dX4_passOnce_0 rfl ?_
  refine g_aload_n C 1 dX4_passOnce_1 rfl ?_
  refine g_getRN C Kf cl_X1 (qF_X1_3 hK0) (by decide) dX4_passOnce_2 kf_X4_40 ?_
  refine g_aload_n C 0 dX4_passOnce_5 rfl ?_
  refine g_getR C Kf cl_X4 (qF_X4_0 hK0) (by decide) dX4_passOnce_6 kf_X4_11 ?_
  refine g_iconst (v := 0) C dX4_passOnce_9 (by decide) ?_
  refine g_aaldL C Kf 24 (by decide) (by unfold vp_in; decide) (qRC_22 hK0) dX4_passOnce_10 ?_
  refine g_iload_n C 2 dX4_passOnce_11 rfl ?_
  refine g_aload_n C 1 dX4_passOnce_12 rfl ?_
  refine g_getIN C Kf cl_X1 (qF_X1_8 hK0) (by decide) dX4_passOnce_13 kf_X4_52 ?_
  refine g_iload_n C 3 dX4_passOnce_16 rfl ?_
  obtain ⟨σ_2, h_1, hf⟩ := b1_some hf
  refine g_cVN_v C Kf [.ref (K.2.1 17), .ref (K.2.1 24), .int x2, .int (σ.1 13 8), .int x3] (mX1_sift hK0 X.1.2.1 σ 17 24 x2 (σ.1 13 8) x3 (by decide) (by decide) σ_2 h_1) mi_X1_sift (qO_X1 hK0) rfl km_X4_55 ⟨rfl, rfl, by decide, by decide⟩ rfl rfl (Nat.le_of_ble_eq_true rfl) dX4_passOnce_17 ?_
  refine g_aload_n C 0 dX4_passOnce_20 rfl ?_
  refine g_getR C Kf cl_X4 (qF_X4_0 hK0) (by decide) dX4_passOnce_21 kf_X4_11 ?_
  refine g_iconst (v := 0) C dX4_passOnce_24 (by decide) ?_
  refine g_aaldL C Kf 24 (by decide) (by unfold vp_in; decide) (qRC_22 hK0) dX4_passOnce_25 ?_
  exact g_aretP C Kf hR dX4_passOnce_26 hf
