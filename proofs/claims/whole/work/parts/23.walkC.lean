abbrev rmX5_count : Room := { frames := 4, cells := 0, slots := 0, locals := 89 }
set_option maxHeartbeats 4000000 in
set_option maxRecDepth 100000 in
theorem mX5_count {K : Kx} (hK0 : isKC K) (l : Launch) (σ : St) (x1 : Int32)  (r : Int32) (hf : f5_count σ x1 = some r) : mC K l yX5_count cX5_count 2 (some .int) rmX5_count [.ref (K.2.1 0), .int x1] σ (some (.int r)) σ := by
  refine g_entry (own := RX5) rfl (by decide +kernel) (Nat.le_of_ble_eq_true rfl) (fun X hX C Kf hR => ?_)
  subst hX
  unfold f5_count at hf
  show gG X σ 0 [(0, .ref (K.2.1 0)), (1, .int x1)] []
  refine g_iload_n C 1 dX5_count_0 rfl ?_
  refine g_if_lt C 10 dX5_count_1 (by decide) hf (fun hf => ?_) (fun hf => ?_)
  · refine g_iconst (v := (-1)) C dX5_count_10 (by decide) ?_
    exact g_iretR C Kf hR dX5_count_11 hf
  · refine g_iload_n C 1 dX5_count_4 rfl ?_
    refine g_bipush (v := 10) C dX5_count_5 (by decide) ?_
    refine g_icmp_lt C 12 dX5_count_7 (by decide) hf (fun hf => ?_) (fun hf => ?_)
    · refine g_aload_n C 0 dX5_count_12 rfl ?_
      refine g_iload_n C 1 dX5_count_13 rfl ?_
      obtain ⟨r_2, h_1, hf⟩ := b1_some hf
      refine g_cV_i C Kf [.int x1] (mX5_counted hK0 X.1.2.1 σ x1 r_2 h_1) mi_X5_counted (qO_X5 hK0) rfl km_X5_266 ⟨rfl, rfl, by decide, by decide⟩ rfl rfl (Nat.le_of_ble_eq_true rfl) dX5_count_14 ?_
      exact g_iretR C Kf hR dX5_count_17 hf
    · refine g_iconst (v := (-1)) C dX5_count_10 (by decide) ?_
      exact g_iretR C Kf hR dX5_count_11 hf
abbrev rmX5_isText : Room := { frames := 0, cells := 0, slots := 0, locals := 0 }
set_option maxHeartbeats 4000000 in
set_option maxRecDepth 100000 in
theorem mX5_isText {K : Kx} (hK0 : isKC K) (l : Launch) (σ : St) (x0 : Int32)  (r : Int32) (hf : f5_isText x0 = some r) : mC K l yX5_isText cX5_isText 1 (some .boolean) rmX5_isText [.int x0] σ (some (.int r)) σ := by
  refine g_entry (own := RX5) rfl (by decide +kernel) (Nat.le_of_ble_eq_true rfl) (fun X hX C Kf hR => ?_)
  subst hX
  unfold f5_isText at hf
  show gG X σ 0 [(0, .int x0)] []
  refine g_iload_n C 0 dX5_isText_0 rfl ?_
  refine g_if_lt C 13 dX5_isText_1 (by decide) hf (fun hf => ?_) (fun hf => ?_)
  · refine g_iconst (v := 0) C dX5_isText_13 (by decide) ?_
    exact g_zretR C Kf hR (Or.inl rfl) dX5_isText_14 hf
  · refine g_iload_n C 0 dX5_isText_4 rfl ?_
    refine g_iconst (v := 4) C dX5_isText_5 (by decide) ?_
    refine g_icmp_ge C 13 dX5_isText_6 (by decide) hf (fun hf => ?_) (fun hf => ?_)
    · refine g_iconst (v := 0) C dX5_isText_13 (by decide) ?_
      exact g_zretR C Kf hR (Or.inl rfl) dX5_isText_14 hf
    · refine g_iconst (v := 1) C dX5_isText_9 (by decide) ?_
      refine g_goto C 14 dX5_isText_10 (by decide) ?_
      exact g_zretR C Kf hR (Or.inr rfl) dX5_isText_14 hf
abbrev rmX5_refusedText : Room := { frames := 2, cells := 0, slots := 0, locals := 42 }
set_option maxHeartbeats 4000000 in
set_option maxRecDepth 100000 in
theorem mX5_refusedText {K : Kx} (hK0 : isKC K) (l : Launch) (σ : St) (x1 : Int32)  (r : Int32) (σ' : St) (hf : f5_refusedText σ x1 = some (r, σ')) : mC K l yX5_refusedText cX5_refusedText 2 (some .int) rmX5_refusedText [.ref (K.2.1 0), .int x1] σ (some (.int r)) σ' := by
  refine g_entry (own := RX5) rfl (by decide +kernel) (Nat.le_of_ble_eq_true rfl) (fun X hX C Kf hR => ?_)
  subst hX
  unfold f5_refusedText at hf
  show gG X σ 0 [(0, .ref (K.2.1 0)), (1, .int x1)] []
  refine g_iload_n C 1 dX5_refusedText_0 rfl ?_
  obtain ⟨r_2, h_1, hf⟩ := b1_some hf
  refine g_cS_i C Kf [.int x1] (mX5_isText hK0 X.1.2.1 σ x1 r_2 h_1) mi_X5_isText km_X5_109 ⟨rfl, rfl, by decide, by decide⟩ rfl rfl (Nat.le_of_ble_eq_true rfl) dX5_refusedText_1 ?_
  refine g_if_ne C 9 dX5_refusedText_4 (by decide) hf (fun hf => ?_) (fun hf => ?_)
  · refine g_aload_n C 0 dX5_refusedText_9 rfl ?_
    refine g_getR C Kf cl_X5 (qF_X5_1 hK0) (by decide) dX5_refusedText_10 kf_X5_18 ?_
    refine g_iload_n C 1 dX5_refusedText_13 rfl ?_
    obtain ⟨r_4, h_3, hf⟩ := b1_some hf
    refine g_cVN_i C Kf [.int x1] (mX3_holds hK0 X.1.2.1 σ 4 x1 (sh_4) r_4 h_3) mi_X3_holds (qO_X3 hK0 sh_4) rfl km_X5_99 ⟨rfl, rfl, by decide, by decide⟩ rfl rfl (Nat.le_of_ble_eq_true rfl) dX5_refusedText_14 ?_
    refine g_if_eq C 24 dX5_refusedText_17 (by decide) hf (fun hf => ?_) (fun hf => ?_)
    · refine g_aload_n C 0 dX5_refusedText_24 rfl ?_
      refine g_iconst (v := 1) C dX5_refusedText_25 (by decide) ?_
      obtain ⟨r_6, σ_7, h_5, hf⟩ := b2_some hf
      refine g_cV_i C Kf [.int 1] (mX5_found hK0 X.1.2.1 σ 1 r_6 σ_7 h_5) mi_X5_found (qO_X5 hK0) rfl km_X5_74 ⟨rfl, rfl, by decide, by decide⟩ rfl rfl (Nat.le_of_ble_eq_true rfl) dX5_refusedText_26 ?_
      exact g_iretP C Kf hR dX5_refusedText_29 hf
    · refine g_iconst (v := 0) C dX5_refusedText_20 (by decide) ?_
      refine g_goto C 29 dX5_refusedText_21 (by decide) ?_
      exact g_iretP C Kf hR dX5_refusedText_29 hf
  · refine g_iconst (v := (-1)) C dX5_refusedText_7 (by decide) ?_
    exact g_iretP C Kf hR dX5_refusedText_8 hf
abbrev rmX5_deck : Room := { frames := 7, cells := 0, slots := 0, locals := 165 }
set_option maxHeartbeats 4000000 in
set_option maxRecDepth 100000 in
theorem wL5_deck_45 {X : Gx St} {K : Kx} (hK0 : isKC K) (σ : St) (r : Int32) (σ' : St) (C : gF X cX5_deck RX5 (some .int) 4 rmX5_deck) (Kf : kF X K) (hR : gR X K (some (.int r)) σ') (k : St → Option (Int32 × St)) (Hk : ∀ (σ_14 : St), k σ_14 = some (r, σ') → gG X σ_14 64 [(0, .ref (K.2.1 0))] []) : ∀ (n : Nat) (x3_9 : Int32) (σ_10 : St), L5_deck_45 k n x3_9 σ_10 = some (r, σ') → gG X σ_10 45 [(0, .ref (K.2.1 0)), (3, .int x3_9)] [] := by
  intro n
  induction n with
  | zero => intro _ _ hf; unfold L5_deck_45 at hf; cases hf
  | succ n ih =>
  intro x3_9 σ_10 hf
  unfold L5_deck_45 at hf
  refine g_iload_n C 1 dX5_deck_45 rfl ?_
  refine g_iconst (v := 3) C dX5_deck_46 (by decide) ?_
  refine g_icmp_ge C 64 dX5_deck_47 (by decide) hf (fun hf => ?_) (fun hf => ?_)
  · refine g_cut [0] rfl ?_
    exact Hk _ hf
  · refine g_aload_n C 0 dX5_deck_50 rfl ?_
    refine g_getR C Kf cl_X5 (qF_X5_2 hK0) (by decide) dX5_deck_51 kf_X5_21 ?_
    refine g_iload_n C 1 dX5_deck_54 rfl ?_
    obtain ⟨σ_12, h_11, hf⟩ := b1_some hf
    refine g_cVN_v C Kf [.int x3_9] (mX3_remove hK0 X.1.2.1 σ_10 7 x3_9 (sh_7) σ_12 h_11) mi_X3_remove (qO_X3 hK0 sh_7) rfl km_X5_95 ⟨rfl, rfl, by decide, by decide⟩ rfl rfl (Nat.le_of_ble_eq_true rfl) dX5_deck_55 ?_
    refine g_iinc (d := 1) C 1 (fun x3_13 => [(3, .int x3_13), (0, .ref (K.2.1 0))]) dX5_deck_58 rfl (by decide) (by decide) (fun _ => rfl) hf (fun x3_13 hf => ?_)
    refine g_goto C 45 dX5_deck_61 (by decide) ?_
    refine g_cut [1, 0] rfl ?_
    exact ih _ _ hf
set_option maxHeartbeats 4000000 in
set_option maxRecDepth 100000 in
theorem mX5_deck {K : Kx} (hK0 : isKC K) (l : Launch) (σ : St) (x1 : Int32)  (r : Int32) (σ' : St) (hf : f5_deck σ x1 = some (r, σ')) : mC K l yX5_deck cX5_deck 4 (some .int) rmX5_deck [.ref (K.2.1 0), .int x1] σ (some (.int r)) σ' := by
  refine g_entry (own := RX5) rfl (by decide +kernel) (Nat.le_of_ble_eq_true rfl) (fun X hX C Kf hR => ?_)
  subst hX
  unfold f5_deck at hf
  show gG X σ 0 [(0, .ref (K.2.1 0)), (1, .int x1)] []
  refine g_aload_n C 0 dX5_deck_0 rfl ?_
  refine g_iload_n C 1 dX5_deck_1 rfl ?_
  obtain ⟨r_2, σ_3, h_1, hf⟩ := b2_some hf
  refine g_cV_i C Kf [.int x1] (mX5_refusedText hK0 X.1.2.1 σ x1 r_2 σ_3 h_1) mi_X5_refusedText (qO_X5 hK0) rfl km_X5_112 ⟨rfl, rfl, by decide, by decide⟩ rfl rfl (Nat.le_of_ble_eq_true rfl) dX5_deck_2 ?_
  refine g_istore_n C [(2, .int r_2), (0, .ref (K.2.1 0)), (1, .int x1)] dX5_deck_5 rfl (by decide) rfl ?_
  refine g_iload_n C 0 dX5_deck_6 rfl ?_
  refine g_if_eq C 12 dX5_deck_7 (by decide) hf (fun hf => ?_) (fun hf => ?_)
  · refine g_aload_n C 1 dX5_deck_12 rfl ?_
    refine g_getR C Kf cl_X5 (qF_X5_3 hK0) (by decide) dX5_deck_13 kf_X5_27 ?_
    refine g_aload_n C 1 dX5_deck_16 rfl ?_
    refine g_getR C Kf cl_X5 (qF_X5_1 hK0) (by decide) dX5_deck_17 kf_X5_18 ?_
    refine g_iload_n C 2 dX5_deck_20 rfl ?_
    obtain ⟨r_5, σ_6, h_4, hf⟩ := b2_some hf
    refine g_cVN_i C Kf [.ref (K.2.1 4), .int x1] (mX2_faultOf hK0 X.1.2.1 σ_3 x1 r_5 σ_6 h_4) mi_X2_faultOf (qO_X2 hK0) rfl km_X5_115 ⟨rfl, rfl, by decide, by decide⟩ rfl rfl (Nat.le_of_ble_eq_true rfl) dX5_deck_21 ?_
    refine g_bipush (v := (-9)) C dX5_deck_24 (by decide) ?_
    refine g_icmp_eq C 32 dX5_deck_26 (by decide) hf (fun hf => ?_) (fun hf => ?_)
    · refine g_aload_n C 1 dX5_deck_32 rfl ?_
      refine g_getR C Kf cl_X5 (qF_X5_4 hK0) (by decide) dX5_deck_33 kf_X5_34 ?_
      refine g_aload_n C 1 dX5_deck_36 rfl ?_
      refine g_getR C Kf cl_X5 (qF_X5_3 hK0) (by decide) dX5_deck_37 kf_X5_27 ?_
      obtain ⟨σ_8, h_7, hf⟩ := b1_some hf
      refine g_cVN_v C Kf [.ref (K.2.1 10)] (mX1_begin hK0 X.1.2.1 σ_6 σ_8 h_7) mi_X1_begin (qO_X1 hK0) rfl km_X5_119 ⟨rfl, rfl, by decide, by decide⟩ rfl rfl (Nat.le_of_ble_eq_true rfl) dX5_deck_40 ?_
      refine g_iconst (v := 0) C dX5_deck_43 (by decide) ?_
      refine g_istore_n C [(3, .int 0), (2, .int r_2), (0, .ref (K.2.1 0)), (1, .int x1)] dX5_deck_44 rfl (by decide) rfl ?_
      refine g_cut [2, 0] rfl ?_
      refine wL5_deck_45 hK0 σ_8 _ _ C Kf hR _ (fun σ_15 hf => ?_) _ _ _ hf
      refine g_aload_n C 0 dX5_deck_64 rfl ?_
      refine g_getR C Kf cl_X5 (qF_X5_4 hK0) (by decide) dX5_deck_65 kf_X5_34 ?_
      refine g_getIN C Kf cl_X1 (qF_X1_7 hK0) (by decide) dX5_deck_68 kf_X5_123 ?_
      exact g_iretP C Kf hR dX5_deck_71 hf
    · refine g_bipush (v := (-4)) C dX5_deck_29 (by decide) ?_
      exact g_iretP C Kf hR dX5_deck_31 hf
  · refine g_iload_n C 0 dX5_deck_10 rfl ?_
    exact g_iretP C Kf hR dX5_deck_11 hf
abbrev rmX5_deedOf : Room := { frames := 0, cells := 0, slots := 0, locals := 0 }
set_option maxHeartbeats 4000000 in
set_option maxRecDepth 100000 in
theorem mX5_deedOf {K : Kx} (hK0 : isKC K) (l : Launch) (σ : St) (x0 : Int32) (x1 : Int32) (x2 : Int32) (x3 : Int32)  (r : Int32) (hf : f5_deedOf x0 x1 x2 x3 = some r) : mC K l yX5_deedOf cX5_deedOf 4 (some .int) rmX5_deedOf [.int x0, .int x1, .int x2, .int x3] σ (some (.int r)) σ := by
  refine g_entry (own := RX5) rfl (by decide +kernel) (Nat.le_of_ble_eq_true rfl) (fun X hX C Kf hR => ?_)
  subst hX
  unfold f5_deedOf at hf
  show gG X σ 0 [(0, .int x0), (1, .int x1), (2, .int x2), (3, .int x3)] []
  refine g_iload_n C 0 dX5_deedOf_0 rfl ?_
  refine g_bipush (v := 10) C dX5_deedOf_1 (by decide) ?_
  refine g_imul C dX5_deedOf_3 ?_
  refine g_iload_n C 1 dX5_deedOf_4 rfl ?_
  refine g_iadd C dX5_deedOf_5 ?_
  refine g_bipush (v := 10) C dX5_deedOf_6 (by decide) ?_
  refine g_imul C dX5_deedOf_8 ?_
  refine g_iload_n C 2 dX5_deedOf_9 rfl ?_
  refine g_iadd C dX5_deedOf_10 ?_
  refine g_bipush (v := 10) C dX5_deedOf_11 (by decide) ?_
  refine g_imul C dX5_deedOf_13 ?_
  refine g_iload_n C 3 dX5_deedOf_14 rfl ?_
  refine g_iadd C dX5_deedOf_15 ?_
  exact g_iretR C Kf hR dX5_deedOf_16 hf
abbrev rmX5_deedByLot : Room := { frames := 1, cells := 0, slots := 0, locals := 23 }
set_option maxHeartbeats 4000000 in
set_option maxRecDepth 100000 in
theorem mX5_deedByLot {K : Kx} (hK0 : isKC K) (l : Launch) (σ : St) (x0 : Int32) (x1 : Int32)  (r : Int32) (hf : f5_deedByLot x0 x1 = some r) : mC K l yX5_deedByLot cX5_deedByLot 3 (some .int) rmX5_deedByLot [.int x0, .int x1] σ (some (.int r)) σ := by
  refine g_entry (own := RX5) rfl (by decide +kernel) (Nat.le_of_ble_eq_true rfl) (fun X hX C Kf hR => ?_)
  subst hX
  unfold f5_deedByLot at hf
  show gG X σ 0 [(0, .int x0), (1, .int x1)] []
  refine g_iload_n C 0 dX5_deedByLot_0 rfl ?_
  refine g_bipush (v := 8) C dX5_deedByLot_1 (by decide) ?_
  refine g_idiv0 C dX5_deedByLot_3 (by decide) ?_
  refine g_bipush (v := 8) C dX5_deedByLot_4 (by decide) ?_
  refine g_irem0 C dX5_deedByLot_6 (by decide) ?_
  refine g_istore_nB C (fun x2_1 => [(2, .int x2_1), (0, .int x0), (1, .int x1)]) dX5_deedByLot_7 rfl (by decide) (fun _ => rfl) hf (fun x2_1 hf => ?_)
  refine g_iload_n C 0 dX5_deedByLot_8 rfl ?_
  refine g_iconst (v := 5) C dX5_deedByLot_9 (by decide) ?_
  refine g_jn hf (fun j_2 ej_4 hf => ?_)
  have HJ_3 : j_2 = some r → gG X σ 18 [(0, .int x0)] [] := by
    intro hf
    rw [ej_4] at hf
    refine g_iconst (v := 0) C dX5_deedByLot_18 (by decide) ?_
    refine g_iload_n C 0 dX5_deedByLot_19 rfl ?_
    refine g_iconst (v := 3) C dX5_deedByLot_20 (by decide) ?_
    refine g_irem0 C dX5_deedByLot_21 (by decide) ?_
    refine g_iconst (v := 0) C dX5_deedByLot_22 (by decide) ?_
    refine g_iconst (v := 0) C dX5_deedByLot_23 (by decide) ?_
    obtain ⟨r_6, h_5, hf⟩ := b1_some hf
    refine g_cS_i C Kf [.int 0, .int (x0 - x0 / 3 * 3), .int 0, .int 0] (mX5_deedOf hK0 X.1.2.1 σ 0 (x0 - x0 / 3 * 3) 0 0 r_6 h_5) mi_X5_deedOf km_X5_159 ⟨rfl, rfl, by decide, by decide⟩ rfl rfl (Nat.le_of_ble_eq_true rfl) dX5_deedByLot_24 ?_
    exact g_iretR C Kf hR dX5_deedByLot_27 hf
  refine g_icmp_lt C 18 dX5_deedByLot_10 (by decide) hf (fun hf => ?_) (fun hf => ?_)
  · refine g_cut [1] rfl ?_
    exact HJ_3 hf
  · refine g_iload_n C 2 dX5_deedByLot_13 rfl ?_
    refine g_iconst (v := 2) C dX5_deedByLot_14 (by decide) ?_
    refine g_icmp_ge C 28 dX5_deedByLot_15 (by decide) hf (fun hf => ?_) (fun hf => ?_)
    · refine g_iload_n C 0 dX5_deedByLot_28 rfl ?_
      refine g_iconst (v := 5) C dX5_deedByLot_29 (by decide) ?_
      refine g_icmp_ne C 41 dX5_deedByLot_30 (by decide) hf (fun hf => ?_) (fun hf => ?_)
      · refine g_iload_n C 0 dX5_deedByLot_41 rfl ?_
        refine g_bipush (v := 6) C dX5_deedByLot_42 (by decide) ?_
        refine g_icmp_ne C 64 dX5_deedByLot_44 (by decide) hf (fun hf => ?_) (fun hf => ?_)
        · refine g_iconst (v := 3) C dX5_deedByLot_64 (by decide) ?_
          refine g_iload_n C 1 dX5_deedByLot_65 rfl ?_
          refine g_bipush (v := 64) C dX5_deedByLot_66 (by decide) ?_
          refine g_idiv0 C dX5_deedByLot_68 (by decide) ?_
          refine g_iload_n C 2 dX5_deedByLot_69 rfl ?_
          refine g_irem C dX5_deedByLot_70 hf (fun hf => ?_)
          refine g_iload_n C 1 dX5_deedByLot_71 rfl ?_
          refine g_iconst (v := 3) C dX5_deedByLot_72 (by decide) ?_
          refine g_irem0 C dX5_deedByLot_73 (by decide) ?_
          refine g_iload_n C 1 dX5_deedByLot_74 rfl ?_
          refine g_sipush (v := 512) C dX5_deedByLot_75 (by decide) ?_
          refine g_idiv0 C dX5_deedByLot_78 (by decide) ?_
          refine g_bipush (v := 10) C dX5_deedByLot_79 (by decide) ?_
          refine g_irem0 C dX5_deedByLot_81 (by decide) ?_
          obtain ⟨r_8, h_7, hf⟩ := b1_some hf
          refine g_cS_i C Kf [.int 3, .int ((x0 / 64) - (x0 / 64) / x1 * x1), .int (x0 - x0 / 3 * 3), .int ((x0 / 512) - (x0 / 512) / 10 * 10)] (mX5_deedOf hK0 X.1.2.1 σ 3 ((x0 / 64) - (x0 / 64) / x1 * x1) (x0 - x0 / 3 * 3) ((x0 / 512) - (x0 / 512) / 10 * 10) r_8 h_7) mi_X5_deedOf km_X5_159 ⟨rfl, rfl, by decide, by decide⟩ rfl rfl (Nat.le_of_ble_eq_true rfl) dX5_deedByLot_82 ?_
          exact g_iretR C Kf hR dX5_deedByLot_85 hf
        · refine g_iconst (v := 2) C dX5_deedByLot_47 (by decide) ?_
          refine g_iconst (v := 1) C dX5_deedByLot_48 (by decide) ?_
          refine g_iload_n C 1 dX5_deedByLot_49 rfl ?_
          refine g_bipush (v := 64) C dX5_deedByLot_50 (by decide) ?_
          refine g_idiv0 C dX5_deedByLot_52 (by decide) ?_
          refine g_iload_n C 2 dX5_deedByLot_53 rfl ?_
          refine g_iconst (v := 1) C dX5_deedByLot_54 (by decide) ?_
          refine g_isub C dX5_deedByLot_55 ?_
          refine g_irem C dX5_deedByLot_56 hf (fun hf => ?_)
          refine g_iadd C dX5_deedByLot_57 ?_
          refine g_iconst (v := 0) C dX5_deedByLot_58 (by decide) ?_
          refine g_iconst (v := 0) C dX5_deedByLot_59 (by decide) ?_
          obtain ⟨r_10, h_9, hf⟩ := b1_some hf
          refine g_cS_i C Kf [.int 2, .int (1 + ((x0 / 64) - (x0 / 64) / (x1 - 1) * (x1 - 1))), .int 0, .int 0] (mX5_deedOf hK0 X.1.2.1 σ 2 (1 + ((x0 / 64) - (x0 / 64) / (x1 - 1) * (x1 - 1))) 0 0 r_10 h_9) mi_X5_deedOf km_X5_159 ⟨rfl, rfl, by decide, by decide⟩ rfl rfl (Nat.le_of_ble_eq_true rfl) dX5_deedByLot_60 ?_
          exact g_iretR C Kf hR dX5_deedByLot_63 hf
      · refine g_iconst (v := 1) C dX5_deedByLot_33 (by decide) ?_
        refine g_iconst (v := 0) C dX5_deedByLot_34 (by decide) ?_
        refine g_iconst (v := 0) C dX5_deedByLot_35 (by decide) ?_
        refine g_iconst (v := 0) C dX5_deedByLot_36 (by decide) ?_
        obtain ⟨r_12, h_11, hf⟩ := b1_some hf
        refine g_cS_i C Kf [.int 1, .int 0, .int 0, .int 0] (mX5_deedOf hK0 X.1.2.1 σ 1 0 0 0 r_12 h_11) mi_X5_deedOf km_X5_159 ⟨rfl, rfl, by decide, by decide⟩ rfl rfl (Nat.le_of_ble_eq_true rfl) dX5_deedByLot_37 ?_
        exact g_iretR C Kf hR dX5_deedByLot_40 hf
    · refine g_cut [1] rfl ?_
      exact HJ_3 hf
abbrev rmX5_digest : Room := { frames := 5, cells := 0, slots := 0, locals := 113 }
set_option maxHeartbeats 4000000 in
set_option maxRecDepth 100000 in
theorem wL5_digest_6 {X : Gx St} {K : Kx} (hK0 : isKC K) (σ : St) (r : Int64) (C : gF X cX5_digest RX5 (some .long) 5 rmX5_digest) (Kf : kF X K) (hR : gR X K (some (.long r)) σ) (k : Int64 → Option (Int64)) (Hk : ∀ (x1_3 : Int64), k x1_3 = some r → gG X σ 31 [(0, .ref (K.2.1 0)), (1, .long x1_3)] []) : ∀ (n : Nat) (x1_1 : Int64) (x3_2 : Int32), L5_digest_6 σ k n x1_1 x3_2 = some r → gG X σ 6 [(0, .ref (K.2.1 0)), (1, .long x1_1), (3, .int x3_2)] [] := by
  intro n
  induction n with
  | zero => intro _ _ hf; unfold L5_digest_6 at hf; cases hf
  | succ n ih =>
  intro x1_1 x3_2 hf
  unfold L5_digest_6 at hf
  refine g_iload_n C 2 dX5_digest_6 rfl ?_
  refine g_bipush (v := 10) C dX5_digest_7 (by decide) ?_
  refine g_icmp_ge C 31 dX5_digest_9 (by decide) hf (fun hf => ?_) (fun hf => ?_)
  · refine g_cut [0, 1] rfl ?_
    exact Hk _ hf
  · refine g_ldc2 (v := 31) C dX5_digest_12 kl_X5_271 ?_
    refine g_lload_n C 1 dX5_digest_15 rfl ?_
    refine g_lmul C dX5_digest_16 ?_
    refine g_aload_n C 0 dX5_digest_17 rfl ?_
    refine g_iload_n C 2 dX5_digest_18 rfl ?_
    obtain ⟨r_5, h_4, hf⟩ := b1_some hf
    refine g_cV_i C Kf [.int x3_2] (mX5_counted hK0 X.1.2.1 σ x3_2 r_5 h_4) mi_X5_counted (qO_X5 hK0) rfl km_X5_266 ⟨rfl, rfl, by decide, by decide⟩ rfl rfl (Nat.le_of_ble_eq_true rfl) dX5_digest_19 ?_
    refine g_i2l C dX5_digest_22 ?_
    refine g_ladd C dX5_digest_23 ?_
    refine g_lstore_nB C (fun x1_6 => [(1, .long x1_6), (0, .ref (K.2.1 0)), (3, .int x3_2)]) dX5_digest_24 rfl (by decide) (fun _ => rfl) hf (fun x1_6 hf => ?_)
    refine g_iinc (d := 1) C 2 (fun x3_7 => [(3, .int x3_7), (1, .long x1_6), (0, .ref (K.2.1 0))]) dX5_digest_25 rfl (by decide) (by decide) (fun _ => rfl) hf (fun x3_7 hf => ?_)
    refine g_goto C 6 dX5_digest_28 (by decide) ?_
    refine g_cut [2, 1, 0] rfl ?_
    exact ih _ _ hf
set_option maxHeartbeats 4000000 in
set_option maxRecDepth 100000 in
theorem wL5_digest_47 {X : Gx St} {K : Kx} (hK0 : isKC K) (σ : St) (x3 : Int32) (r : Int64) (C : gF X cX5_digest RX5 (some .long) 5 rmX5_digest) (Kf : kF X K) (hR : gR X K (some (.long r)) σ) (k : Int64 → Option (Int64)) (Hk : ∀ (x1_14 : Int64), k x1_14 = some r → gG X σ 75 [(0, .ref (K.2.1 0)), (1, .long x1_14), (3, .int x3)] []) : ∀ (n : Nat) (x1_12 : Int64) (x4_13 : Int32), L5_digest_47 σ x3 k n x1_12 x4_13 = some r → gG X σ 47 [(0, .ref (K.2.1 0)), (1, .long x1_12), (3, .int x3), (4, .int x4_13)] [] := by
  intro n
  induction n with
  | zero => intro _ _ hf; unfold L5_digest_47 at hf; cases hf
  | succ n ih =>
  intro x1_12 x4_13 hf
  unfold L5_digest_47 at hf
  refine g_iload C 3 dX5_digest_47 rfl ?_
  refine g_bipush (v := 8) C dX5_digest_49 (by decide) ?_
  refine g_icmp_ge C 75 dX5_digest_51 (by decide) hf (fun hf => ?_) (fun hf => ?_)
  · refine g_cut [0, 1, 2] rfl ?_
    exact Hk _ hf
  · refine g_ldc2 (v := 31) C dX5_digest_54 kl_X5_271 ?_
    refine g_lload_n C 1 dX5_digest_57 rfl ?_
    refine g_lmul C dX5_digest_58 ?_
    refine g_aload_n C 0 dX5_digest_59 rfl ?_
    refine g_iload_n C 2 dX5_digest_60 rfl ?_
    refine g_iload C 3 dX5_digest_61 rfl ?_
    obtain ⟨r_16, h_15, hf⟩ := b1_some hf
    refine g_cV_i C Kf [.int x3, .int x4_13] (mX5_cardFact hK0 X.1.2.1 σ x3 x4_13 r_16 h_15) mi_X5_cardFact (qO_X5 hK0) rfl km_X5_129 ⟨rfl, rfl, by decide, by decide⟩ rfl rfl (Nat.le_of_ble_eq_true rfl) dX5_digest_63 ?_
    refine g_i2l C dX5_digest_66 ?_
    refine g_ladd C dX5_digest_67 ?_
    refine g_lstore_nB C (fun x1_17 => [(1, .long x1_17), (0, .ref (K.2.1 0)), (3, .int x3), (4, .int x4_13)]) dX5_digest_68 rfl (by decide) (fun _ => rfl) hf (fun x1_17 hf => ?_)
    refine g_iinc (d := 1) C 3 (fun x4_18 => [(4, .int x4_18), (1, .long x1_17), (0, .ref (K.2.1 0)), (3, .int x3)]) dX5_digest_69 rfl (by decide) (by decide) (fun _ => rfl) hf (fun x4_18 hf => ?_)
    refine g_goto C 47 dX5_digest_72 (by decide) ?_
    refine g_cut [2, 1, 3, 0] rfl ?_
    exact ih _ _ hf
set_option maxHeartbeats 4000000 in
set_option maxRecDepth 100000 in
theorem wL5_digest_33 {X : Gx St} {K : Kx} (hK0 : isKC K) (σ : St) (r : Int64) (C : gF X cX5_digest RX5 (some .long) 5 rmX5_digest) (Kf : kF X K) (hR : gR X K (some (.long r)) σ) (k : Int64 → Option (Int64)) (Hk : ∀ (x1_11 : Int64), k x1_11 = some r → gG X σ 81 [(0, .ref (K.2.1 0)), (1, .long x1_11)] []) : ∀ (n : Nat) (x1_9 : Int64) (x3_10 : Int32), L5_digest_33 σ k n x1_9 x3_10 = some r → gG X σ 33 [(0, .ref (K.2.1 0)), (1, .long x1_9), (3, .int x3_10)] [] := by
  intro n
  induction n with
  | zero => intro _ _ hf; unfold L5_digest_33 at hf; cases hf
  | succ n ih =>
  intro x1_9 x3_10 hf
  unfold L5_digest_33 at hf
  refine g_iload_n C 2 dX5_digest_33 rfl ?_
  refine g_aload_n C 0 dX5_digest_34 rfl ?_
  refine g_getR C Kf cl_X5 (qF_X5_4 hK0) (by decide) dX5_digest_35 kf_X5_34 ?_
  refine g_getIN C Kf cl_X1 (qF_X1_7 hK0) (by decide) dX5_digest_38 kf_X5_123 ?_
  refine g_icmp_ge C 81 dX5_digest_41 (by decide) hf (fun hf => ?_) (fun hf => ?_)
  · refine g_cut [0, 1] rfl ?_
    exact Hk _ hf
  · refine g_iconst (v := 0) C dX5_digest_44 (by decide) ?_
    refine g_istore C [(4, .int 0), (0, .ref (K.2.1 0)), (1, .long x1_9), (3, .int x3_10)] dX5_digest_45 (by decide) rfl ?_
    refine g_cut [1, 2, 3, 0] rfl ?_
    refine wL5_digest_47 hK0 σ x3_10 _ C Kf hR _ (fun x1_19 hf => ?_) _ _ _ hf
    refine g_iinc (d := 1) C 2 (fun x3_20 => [(3, .int x3_20), (0, .ref (K.2.1 0)), (1, .long x1_19)]) dX5_digest_75 rfl (by decide) (by decide) (fun _ => rfl) hf (fun x3_20 hf => ?_)
    refine g_goto C 33 dX5_digest_78 (by decide) ?_
    refine g_cut [1, 2, 0] rfl ?_
    exact ih _ _ hf
set_option maxHeartbeats 4000000 in
set_option maxRecDepth 100000 in
theorem wL5_digest_83 {X : Gx St} {K : Kx} (hK0 : isKC K) (σ : St) (r : Int64) (C : gF X cX5_digest RX5 (some .long) 5 rmX5_digest) (Kf : kF X K) (hR : gR X K (some (.long r)) σ) (k : Int64 → Option (Int64)) (Hk : ∀ (x1_24 : Int64), k x1_24 = some r → gG X σ 110 [(0, .ref (K.2.1 0)), (1, .long x1_24)] []) : ∀ (n : Nat) (x1_22 : Int64) (x3_23 : Int32), L5_digest_83 σ k n x1_22 x3_23 = some r → gG X σ 83 [(0, .ref (K.2.1 0)), (1, .long x1_22), (3, .int x3_23)] [] := by
  intro n
  induction n with
  | zero => intro _ _ hf; unfold L5_digest_83 at hf; cases hf
  | succ n ih =>
  intro x1_22 x3_23 hf
  unfold L5_digest_83 at hf
  refine g_iload_n C 2 dX5_digest_83 rfl ?_
  refine g_iconst (v := 3) C dX5_digest_84 (by decide) ?_
  refine g_icmp_ge C 110 dX5_digest_85 (by decide) hf (fun hf => ?_) (fun hf => ?_)
  · refine g_cut [0, 1] rfl ?_
    exact Hk _ hf
  · refine g_ldc2 (v := 31) C dX5_digest_88 kl_X5_271 ?_
    refine g_lload_n C 1 dX5_digest_91 rfl ?_
    refine g_lmul C dX5_digest_92 ?_
    refine g_aload_n C 0 dX5_digest_93 rfl ?_
    refine g_getR C Kf cl_X5 (qF_X5_2 hK0) (by decide) dX5_digest_94 kf_X5_21 ?_
    refine g_iload_n C 2 dX5_digest_97 rfl ?_
    obtain ⟨r_26, h_25, hf⟩ := b1_some hf
    refine g_cVN_i C Kf [.int x3_23] (mX3_sizeOf hK0 X.1.2.1 σ 7 x3_23 (sh_7) r_26 h_25) mi_X3_sizeOf (qO_X3 hK0 sh_7) rfl km_X5_106 ⟨rfl, rfl, by decide, by decide⟩ rfl rfl (Nat.le_of_ble_eq_true rfl) dX5_digest_98 ?_
    refine g_i2l C dX5_digest_101 ?_
    refine g_ladd C dX5_digest_102 ?_
    refine g_lstore_nB C (fun x1_27 => [(1, .long x1_27), (0, .ref (K.2.1 0)), (3, .int x3_23)]) dX5_digest_103 rfl (by decide) (fun _ => rfl) hf (fun x1_27 hf => ?_)
    refine g_iinc (d := 1) C 2 (fun x3_28 => [(3, .int x3_28), (1, .long x1_27), (0, .ref (K.2.1 0))]) dX5_digest_104 rfl (by decide) (by decide) (fun _ => rfl) hf (fun x3_28 hf => ?_)
    refine g_goto C 83 dX5_digest_107 (by decide) ?_
    refine g_cut [2, 1, 0] rfl ?_
    exact ih _ _ hf
set_option maxHeartbeats 4000000 in
set_option maxRecDepth 100000 in
theorem mX5_digest {K : Kx} (hK0 : isKC K) (l : Launch) (σ : St)   (r : Int64) (hf : f5_digest σ = some r) : mC K l yX5_digest cX5_digest 5 (some .long) rmX5_digest [.ref (K.2.1 0)] σ (some (.long r)) σ := by
  refine g_entry (own := RX5) rfl (by decide +kernel) (Nat.le_of_ble_eq_true rfl) (fun X hX C Kf hR => ?_)
  subst hX
  unfold f5_digest at hf
  show gG X σ 0 [(0, .ref (K.2.1 0))] []
  refine g_ldc2 (v := 17) C dX5_digest_0 kl_X5_269 ?_
  refine g_lstore_n C [(1, .long 17), (0, .ref (K.2.1 0))] dX5_digest_3 rfl (by decide) rfl ?_
  refine g_iconst (v := 0) C dX5_digest_4 (by decide) ?_
  refine g_istore_n C [(3, .int 0), (1, .long 17), (0, .ref (K.2.1 0))] dX5_digest_5 rfl (by decide) rfl ?_
  refine g_cut [2, 1, 0] rfl ?_
  refine wL5_digest_6 hK0 σ _ C Kf hR _ (fun x1_8 hf => ?_) _ _ _ hf
  refine g_iconst (v := 0) C dX5_digest_31 (by decide) ?_
  refine g_istore_n C [(3, .int 0), (0, .ref (K.2.1 0)), (1, .long x1_8)] dX5_digest_32 rfl (by decide) rfl ?_
  refine g_cut [1, 2, 0] rfl ?_
  refine wL5_digest_33 hK0 σ _ C Kf hR _ (fun x1_21 hf => ?_) _ _ _ hf
  refine g_iconst (v := 0) C dX5_digest_81 (by decide) ?_
  refine g_istore_n C [(3, .int 0), (0, .ref (K.2.1 0)), (1, .long x1_21)] dX5_digest_82 rfl (by decide) rfl ?_
  refine g_cut [1, 2, 0] rfl ?_
  refine wL5_digest_83 hK0 σ _ C Kf hR _ (fun x1_29 hf => ?_) _ _ _ hf
  refine g_aload_n C 0 dX5_digest_110 rfl ?_
  refine g_getR C Kf cl_X5 (qF_X5_1 hK0) (by decide) dX5_digest_111 kf_X5_18 ?_
  refine g_aload_n C 0 dX5_digest_114 rfl ?_
  refine g_getR C Kf cl_X5 (qF_X5_0 hK0) (by decide) dX5_digest_115 kf_X5_14 ?_
  refine g_lload_n C 1 dX5_digest_118 rfl ?_
  obtain ⟨r_31, h_30, hf⟩ := b1_some hf
  refine g_cVN_l C Kf [.long x1_29] (mX3_digestOn hK0 X.1.2.1 σ 1 x1_29 (sh_1) r_31 h_30) mi_X3_digestOn (qO_X3 hK0 sh_1) rfl km_X5_273 ⟨rfl, rfl, by decide, by decide⟩ rfl rfl (Nat.le_of_ble_eq_true rfl) dX5_digest_119 ?_
  obtain ⟨r_33, h_32, hf⟩ := b1_some hf
  refine g_cVN_l C Kf [.long r_31] (mX3_digestOn hK0 X.1.2.1 σ 4 r_31 (sh_4) r_33 h_32) mi_X3_digestOn (qO_X3 hK0 sh_4) rfl km_X5_273 ⟨rfl, rfl, by decide, by decide⟩ rfl rfl (Nat.le_of_ble_eq_true rfl) dX5_digest_122 ?_
  exact g_lretR C Kf hR dX5_digest_125 hf
abbrev rmX5_duel : Room := { frames := 14, cells := 0, slots := 0, locals := 379 }
set_option maxHeartbeats 4000000 in
set_option maxRecDepth 100000 in
theorem mX5_duel {K : Kx} (hK0 : isKC K) (l : Launch) (σ : St) (x1 : Int32) (x2 : Int32) (x3 : Int32)  (r : Int32) (σ' : St) (hf : f5_duel σ x1 x2 x3 = some (r, σ')) : mC K l yX5_duel cX5_duel 4 (some .int) rmX5_duel [.ref (K.2.1 0), .int x1, .int x2, .int x3] σ (some (.int r)) σ' := by
  refine g_entry (own := RX5) rfl (by decide +kernel) (Nat.le_of_ble_eq_true rfl) (fun X hX C Kf hR => ?_)
  subst hX
  unfold f5_duel at hf
  show gG X σ 0 [(0, .ref (K.2.1 0)), (1, .int x1), (2, .int x2), (3, .int x3)] []
  refine g_aload_n C 0 dX5_duel_0 rfl ?_
  refine g_iload_n C 1 dX5_duel_1 rfl ?_
  obtain ⟨r_2, h_1, hf⟩ := b1_some hf
  refine g_cV_i C Kf [.int x1] (mX5_isCard hK0 X.1.2.1 σ x1 r_2 h_1) mi_X5_isCard (qO_X5 hK0) rfl km_X5_126 ⟨rfl, rfl, by decide, by decide⟩ rfl rfl (Nat.le_of_ble_eq_true rfl) dX5_duel_2 ?_
  refine g_if_eq C 30 dX5_duel_5 (by decide) hf (fun hf => ?_) (fun hf => ?_)
  · refine g_iconst (v := (-1)) C dX5_duel_30 (by decide) ?_
    exact g_iretP C Kf hR dX5_duel_31 hf
  · refine g_aload_n C 0 dX5_duel_8 rfl ?_
    refine g_iload_n C 2 dX5_duel_9 rfl ?_
    obtain ⟨r_4, h_3, hf⟩ := b1_some hf
    refine g_cV_i C Kf [.int x2] (mX5_isCard hK0 X.1.2.1 σ x2 r_4 h_3) mi_X5_isCard (qO_X5 hK0) rfl km_X5_126 ⟨rfl, rfl, by decide, by decide⟩ rfl rfl (Nat.le_of_ble_eq_true rfl) dX5_duel_10 ?_
    refine g_if_eq C 30 dX5_duel_13 (by decide) hf (fun hf => ?_) (fun hf => ?_)
    · refine g_iconst (v := (-1)) C dX5_duel_30 (by decide) ?_
      exact g_iretP C Kf hR dX5_duel_31 hf
    · refine g_iload_n C 1 dX5_duel_16 rfl ?_
      refine g_iload_n C 2 dX5_duel_17 rfl ?_
      refine g_icmp_eq C 30 dX5_duel_18 (by decide) hf (fun hf => ?_) (fun hf => ?_)
      · refine g_iconst (v := (-1)) C dX5_duel_30 (by decide) ?_
        exact g_iretP C Kf hR dX5_duel_31 hf
      · refine g_iload_n C 3 dX5_duel_21 rfl ?_
        refine g_if_lt C 30 dX5_duel_22 (by decide) hf (fun hf => ?_) (fun hf => ?_)
        · refine g_iconst (v := (-1)) C dX5_duel_30 (by decide) ?_
          exact g_iretP C Kf hR dX5_duel_31 hf
        · refine g_iload_n C 3 dX5_duel_25 rfl ?_
          refine g_iconst (v := 3) C dX5_duel_26 (by decide) ?_
          refine g_icmp_le C 32 dX5_duel_27 (by decide) hf (fun hf => ?_) (fun hf => ?_)
          · refine g_aload_n C 0 dX5_duel_32 rfl ?_
            refine g_aload_n C 0 dX5_duel_33 rfl ?_
            refine g_getR C Kf cl_X5 (qF_X5_5 hK0) (by decide) dX5_duel_34 kf_X5_41 ?_
            refine g_aload_n C 0 dX5_duel_37 rfl ?_
            refine g_getR C Kf cl_X5 (qF_X5_4 hK0) (by decide) dX5_duel_38 kf_X5_34 ?_
            refine g_iload_n C 1 dX5_duel_41 rfl ?_
            refine g_iload_n C 2 dX5_duel_42 rfl ?_
            refine g_iload_n C 3 dX5_duel_43 rfl ?_
            obtain ⟨r_6, σ_7, h_5, hf⟩ := b2_some hf
            refine g_cVN_i C Kf [.ref (K.2.1 13), .int x1, .int x2, .int x3] (mX4_duelOf hK0 X.1.2.1 σ x1 x2 x3 r_6 σ_7 h_5) mi_X4_duelOf (qO_X4 hK0) rfl km_X5_238 ⟨rfl, rfl, by decide, by decide⟩ rfl rfl (Nat.le_of_ble_eq_true rfl) dX5_duel_44 ?_
            refine g_putI C Kf cl_X5 (qF_X5_9 hK0) (by decide) rfl rfl rfl dX5_duel_47 kf_X5_60 hf (fun σ_8 hf => ?_)
            refine g_iconst (v := 1) C dX5_duel_50 (by decide) ?_
            exact g_iretP C Kf hR dX5_duel_51 hf
          · refine g_iconst (v := (-1)) C dX5_duel_30 (by decide) ?_
            exact g_iretP C Kf hR dX5_duel_31 hf
abbrev rmX5_fault : Room := { frames := 4, cells := 0, slots := 0, locals := 93 }
set_option maxHeartbeats 4000000 in
set_option maxRecDepth 100000 in
theorem mX5_fault {K : Kx} (hK0 : isKC K) (l : Launch) (σ : St) (x1 : Int32)  (r : Int32) (σ' : St) (hf : f5_fault σ x1 = some (r, σ')) : mC K l yX5_fault cX5_fault 3 (some .int) rmX5_fault [.ref (K.2.1 0), .int x1] σ (some (.int r)) σ' := by
  refine g_entry (own := RX5) rfl (by decide +kernel) (Nat.le_of_ble_eq_true rfl) (fun X hX C Kf hR => ?_)
  subst hX
  unfold f5_fault at hf
  show gG X σ 0 [(0, .ref (K.2.1 0)), (1, .int x1)] []
  refine g_aload_n C 0 dX5_fault_0 rfl ?_
  refine g_iload_n C 1 dX5_fault_1 rfl ?_
  obtain ⟨r_2, σ_3, h_1, hf⟩ := b2_some hf
  refine g_cV_i C Kf [.int x1] (mX5_refusedText hK0 X.1.2.1 σ x1 r_2 σ_3 h_1) mi_X5_refusedText (qO_X5 hK0) rfl km_X5_112 ⟨rfl, rfl, by decide, by decide⟩ rfl rfl (Nat.le_of_ble_eq_true rfl) dX5_fault_2 ?_
  refine g_istore_n C [(2, .int r_2), (0, .ref (K.2.1 0)), (1, .int x1)] dX5_fault_5 rfl (by decide) rfl ?_
  refine g_iload_n C 0 dX5_fault_6 rfl ?_
  refine g_if_eq C 12 dX5_fault_7 (by decide) hf (fun hf => ?_) (fun hf => ?_)
  · refine g_aload_n C 1 dX5_fault_12 rfl ?_
    refine g_getR C Kf cl_X5 (qF_X5_3 hK0) (by decide) dX5_fault_13 kf_X5_27 ?_
    refine g_aload_n C 1 dX5_fault_16 rfl ?_
    refine g_getR C Kf cl_X5 (qF_X5_1 hK0) (by decide) dX5_fault_17 kf_X5_18 ?_
    refine g_iload_n C 2 dX5_fault_20 rfl ?_
    obtain ⟨r_5, σ_6, h_4, hf⟩ := b2_some hf
    refine g_cVN_i C Kf [.ref (K.2.1 4), .int x1] (mX2_faultOf hK0 X.1.2.1 σ_3 x1 r_5 σ_6 h_4) mi_X2_faultOf (qO_X2 hK0) rfl km_X5_115 ⟨rfl, rfl, by decide, by decide⟩ rfl rfl (Nat.le_of_ble_eq_true rfl) dX5_fault_21 ?_
    exact g_iretP C Kf hR dX5_fault_24 hf
  · refine g_iload_n C 0 dX5_fault_10 rfl ?_
    exact g_iretP C Kf hR dX5_fault_11 hf
abbrev rmX5_soughtInto : Room := { frames := 13, cells := 0, slots := 0, locals := 314 }
set_option maxHeartbeats 4000000 in
set_option maxRecDepth 100000 in
theorem mX5_soughtInto {K : Kx} (hK0 : isKC K) (l : Launch) (σ : St) (x1 : Int32)  (r : Int32) (σ' : St) (hf : f5_soughtInto σ x1 = some (r, σ')) : mC K l yX5_soughtInto cX5_soughtInto 3 (some .int) rmX5_soughtInto [.ref (K.2.1 0), .int x1] σ (some (.int r)) σ' := by
  refine g_entry (own := RX5) rfl (by decide +kernel) (Nat.le_of_ble_eq_true rfl) (fun X hX C Kf hR => ?_)
  subst hX
  unfold f5_soughtInto at hf
  show gG X σ 0 [(0, .ref (K.2.1 0)), (1, .int x1)] []
  refine g_aload_n C 0 dX5_soughtInto_0 rfl ?_
  refine g_getR C Kf cl_X5 (qF_X5_5 hK0) (by decide) dX5_soughtInto_1 kf_X5_41 ?_
  refine g_aload_n C 0 dX5_soughtInto_4 rfl ?_
  refine g_getR C Kf cl_X5 (qF_X5_4 hK0) (by decide) dX5_soughtInto_5 kf_X5_34 ?_
  obtain ⟨r_2, σ_3, h_1, hf⟩ := b2_some hf
  refine g_cVN_i C Kf [.ref (K.2.1 13)] (mX4_seek hK0 X.1.2.1 σ r_2 σ_3 h_1) mi_X4_seek (qO_X4 hK0) rfl km_X5_287 ⟨rfl, rfl, by decide, by decide⟩ rfl rfl (Nat.le_of_ble_eq_true rfl) dX5_soughtInto_8 ?_
  refine g_istore_n C [(2, .int r_2), (0, .ref (K.2.1 0)), (1, .int x1)] dX5_soughtInto_11 rfl (by decide) rfl ?_
  refine g_iload_n C 0 dX5_soughtInto_12 rfl ?_
  refine g_bipush (v := (-9)) C dX5_soughtInto_13 (by decide) ?_
  refine g_icmp_eq C 34 dX5_soughtInto_15 (by decide) hf (fun hf => ?_) (fun hf => ?_)
  · refine g_iload_n C 0 dX5_soughtInto_34 rfl ?_
    exact g_iretP C Kf hR dX5_soughtInto_35 hf
  · refine g_aload_n C 1 dX5_soughtInto_18 rfl ?_
    refine g_getR C Kf cl_X5 (qF_X5_0 hK0) (by decide) dX5_soughtInto_19 kf_X5_14 ?_
    refine g_iload_n C 2 dX5_soughtInto_22 rfl ?_
    refine g_aload_n C 1 dX5_soughtInto_23 rfl ?_
    refine g_getR C Kf cl_X5 (qF_X5_5 hK0) (by decide) dX5_soughtInto_24 kf_X5_41 ?_
    refine g_getRN C Kf cl_X4 (qF_X4_1 hK0) (by decide) dX5_soughtInto_27 kf_X5_291 ?_
    refine g_iload_n C 0 dX5_soughtInto_30 rfl ?_
    obtain ⟨σ_5, h_4, hf⟩ := b1_some hf
    refine g_cVN_v C Kf [.int x1, .ref (K.2.1 23), .int r_2] (mX3_fill hK0 X.1.2.1 σ_3 1 x1 23 r_2 (sh_1) (by decide) σ_5 h_4) mi_X3_fill (qO_X3 hK0 sh_1) rfl km_X5_189 ⟨rfl, rfl, by decide, by decide⟩ rfl rfl (Nat.le_of_ble_eq_true rfl) dX5_soughtInto_31 ?_
    refine g_iload_n C 0 dX5_soughtInto_34 rfl ?_
    exact g_iretP C Kf hR dX5_soughtInto_35 hf
abbrev rmX5_fewest : Room := { frames := 14, cells := 0, slots := 0, locals := 336 }
set_option maxHeartbeats 4000000 in
set_option maxRecDepth 100000 in
theorem mX5_fewest {K : Kx} (hK0 : isKC K) (l : Launch) (σ : St) (x1 : Int32) (x2 : Int32) (x3 : Int32)  (r : Int32) (σ' : St) (hf : f5_fewest σ x1 x2 x3 = some (r, σ')) : mC K l yX5_fewest cX5_fewest 4 (some .int) rmX5_fewest [.ref (K.2.1 0), .int x1, .int x2, .int x3] σ (some (.int r)) σ' := by
  refine g_entry (own := RX5) rfl (by decide +kernel) (Nat.le_of_ble_eq_true rfl) (fun X hX C Kf hR => ?_)
  subst hX
  unfold f5_fewest at hf
  show gG X σ 0 [(0, .ref (K.2.1 0)), (1, .int x1), (2, .int x2), (3, .int x3)] []
  refine g_aload_n C 0 dX5_fewest_0 rfl ?_
  refine g_iload_n C 1 dX5_fewest_1 rfl ?_
  obtain ⟨r_2, h_1, hf⟩ := b1_some hf
  refine g_cV_i C Kf [.int x1] (mX5_isCard hK0 X.1.2.1 σ x1 r_2 h_1) mi_X5_isCard (qO_X5 hK0) rfl km_X5_126 ⟨rfl, rfl, by decide, by decide⟩ rfl rfl (Nat.le_of_ble_eq_true rfl) dX5_fewest_2 ?_
  refine g_if_eq C 23 dX5_fewest_5 (by decide) hf (fun hf => ?_) (fun hf => ?_)
  · refine g_iconst (v := (-1)) C dX5_fewest_23 (by decide) ?_
    exact g_iretP C Kf hR dX5_fewest_24 hf
  · refine g_aload_n C 0 dX5_fewest_8 rfl ?_
    refine g_iload_n C 2 dX5_fewest_9 rfl ?_
    obtain ⟨r_4, h_3, hf⟩ := b1_some hf
    refine g_cV_i C Kf [.int x2] (mX5_isCard hK0 X.1.2.1 σ x2 r_4 h_3) mi_X5_isCard (qO_X5 hK0) rfl km_X5_126 ⟨rfl, rfl, by decide, by decide⟩ rfl rfl (Nat.le_of_ble_eq_true rfl) dX5_fewest_10 ?_
    refine g_if_eq C 23 dX5_fewest_13 (by decide) hf (fun hf => ?_) (fun hf => ?_)
    · refine g_iconst (v := (-1)) C dX5_fewest_23 (by decide) ?_
      exact g_iretP C Kf hR dX5_fewest_24 hf
    · refine g_iload_n C 3 dX5_fewest_16 rfl ?_
      obtain ⟨r_6, h_5, hf⟩ := b1_some hf
      refine g_cS_i C Kf [.int x3] (mX5_isRow hK0 X.1.2.1 σ x3 r_6 h_5) mi_X5_isRow km_X5_70 ⟨rfl, rfl, by decide, by decide⟩ rfl rfl (Nat.le_of_ble_eq_true rfl) dX5_fewest_17 ?_
      refine g_if_ne C 25 dX5_fewest_20 (by decide) hf (fun hf => ?_) (fun hf => ?_)
      · refine g_aload_n C 0 dX5_fewest_25 rfl ?_
        refine g_getR C Kf cl_X5 (qF_X5_5 hK0) (by decide) dX5_fewest_26 kf_X5_41 ?_
        refine g_iload_n C 1 dX5_fewest_29 rfl ?_
        refine g_iload_n C 2 dX5_fewest_30 rfl ?_
        obtain ⟨σ_8, h_7, hf⟩ := b1_some hf
        refine g_cVN_v C Kf [.int x1, .int x2] (mX4_wantPlace hK0 X.1.2.1 σ x1 x2 σ_8 h_7) mi_X4_wantPlace (qO_X4 hK0) rfl km_X5_193 ⟨rfl, rfl, by decide, by decide⟩ rfl rfl (Nat.le_of_ble_eq_true rfl) dX5_fewest_31 ?_
        refine g_aload_n C 0 dX5_fewest_34 rfl ?_
        refine g_iload_n C 3 dX5_fewest_35 rfl ?_
        obtain ⟨r_10, σ_11, h_9, hf⟩ := b2_some hf
        refine g_cV_i C Kf [.int x3] (mX5_soughtInto hK0 X.1.2.1 σ_8 x3 r_10 σ_11 h_9) mi_X5_soughtInto (qO_X5 hK0) rfl km_X5_196 ⟨rfl, rfl, by decide, by decide⟩ rfl rfl (Nat.le_of_ble_eq_true rfl) dX5_fewest_36 ?_
        exact g_iretP C Kf hR dX5_fewest_39 hf
      · refine g_iconst (v := (-1)) C dX5_fewest_23 (by decide) ?_
        exact g_iretP C Kf hR dX5_fewest_24 hf
abbrev rmX5_refusedClues : Room := { frames := 3, cells := 0, slots := 0, locals := 66 }
set_option maxHeartbeats 4000000 in
set_option maxRecDepth 100000 in
theorem wL5_refusedClues_74 {X : Gx St} {K : Kx} (hK0 : isKC K) (σ : St) (x3 : Int32) (x4 : Int32) (r : Int32) (σ' : St) (C : gF X cX5_refusedClues RX5 (some .int) 7 rmX5_refusedClues) (Kf : kF X K) (hR : gR X K (some (.int r)) σ') (k : St → Option (Int32 × St)) (Hk : ∀ (σ_32 : St), k σ_32 = some (r, σ') → gG X σ_32 137 [] []) : ∀ (n : Nat) (x5_17 : Int32) (σ_18 : St), L5_refusedClues_74 x3 x4 k n x5_17 σ_18 = some (r, σ') → gG X σ_18 74 [(0, .ref (K.2.1 0)), (3, .int x3), (4, .int x4), (5, .int x5_17)] [] := by
  intro n
  induction n with
  | zero => intro _ _ hf; unfold L5_refusedClues_74 at hf; cases hf
  | succ n ih =>
  intro x5_17 σ_18 hf
  unfold L5_refusedClues_74 at hf
  refine g_iload C 3 dX5_refusedClues_74 rfl ?_
  refine g_iconst (v := 1) C dX5_refusedClues_76 (by decide) ?_
  refine g_iadd C dX5_refusedClues_77 ?_
  refine g_iload C 2 dX5_refusedClues_78 rfl ?_
  refine g_icmp_ge C 137 dX5_refusedClues_80 (by decide) hf (fun hf => ?_) (fun hf => ?_)
  · refine g_cut [] rfl ?_
    exact Hk _ hf
  · refine g_aload_n C 0 dX5_refusedClues_83 rfl ?_
    refine g_getR C Kf cl_X5 (qF_X5_0 hK0) (by decide) dX5_refusedClues_84 kf_X5_14 ?_
    refine g_iload_n C 1 dX5_refusedClues_87 rfl ?_
    refine g_iload C 3 dX5_refusedClues_88 rfl ?_
    refine g_iconst (v := 1) C dX5_refusedClues_90 (by decide) ?_
    refine g_iadd C dX5_refusedClues_91 ?_
    obtain ⟨r_20, h_19, hf⟩ := b1_some hf
    refine g_cVN_i C Kf [.int x3, .int (x5_17 + 1)] (mX3_get hK0 X.1.2.1 σ_18 1 x3 (x5_17 + 1) (sh_1) r_20 h_19) mi_X3_get (qO_X3 hK0 sh_1) rfl km_X5_86 ⟨rfl, rfl, by decide, by decide⟩ rfl rfl (Nat.le_of_ble_eq_true rfl) dX5_refusedClues_92 ?_
    refine g_istore C [(6, .int r_20), (0, .ref (K.2.1 0)), (3, .int x3), (4, .int x4), (5, .int x5_17)] dX5_refusedClues_95 (by decide) rfl ?_
    refine g_aload_n C 1 dX5_refusedClues_97 rfl ?_
    refine g_getR C Kf cl_X5 (qF_X5_0 hK0) (by decide) dX5_refusedClues_98 kf_X5_14 ?_
    refine g_iload_n C 2 dX5_refusedClues_101 rfl ?_
    refine g_iload C 4 dX5_refusedClues_102 rfl ?_
    obtain ⟨r_22, h_21, hf⟩ := b1_some hf
    refine g_cVN_i C Kf [.int x3, .int x5_17] (mX3_get hK0 X.1.2.1 σ_18 1 x3 x5_17 (sh_1) r_22 h_21) mi_X3_get (qO_X3 hK0 sh_1) rfl km_X5_86 ⟨rfl, rfl, by decide, by decide⟩ rfl rfl (Nat.le_of_ble_eq_true rfl) dX5_refusedClues_104 ?_
    obtain ⟨r_24, h_23, hf⟩ := b1_some hf
    refine g_cS_i C Kf [.int r_22] (mX5_isColumn hK0 X.1.2.1 σ_18 r_22 r_24 h_23) mi_X5_isColumn km_X5_153 ⟨rfl, rfl, by decide, by decide⟩ rfl rfl (Nat.le_of_ble_eq_true rfl) dX5_refusedClues_107 ?_
    refine g_jn hf (fun j_25 ej_27 hf => ?_)
    have HJ_26 : j_25 = some (r, σ') → gG X σ_18 125 [(0, .ref (K.2.1 0))] [] := by
      intro hf
      rw [ej_27] at hf
      refine g_aload_n C 0 dX5_refusedClues_125 rfl ?_
      refine g_iconst (v := 3) C dX5_refusedClues_126 (by decide) ?_
      obtain ⟨r_29, σ_30, h_28, hf⟩ := b2_some hf
      refine g_cV_i C Kf [.int 3] (mX5_found hK0 X.1.2.1 σ_18 3 r_29 σ_30 h_28) mi_X5_found (qO_X5 hK0) rfl km_X5_74 ⟨rfl, rfl, by decide, by decide⟩ rfl rfl (Nat.le_of_ble_eq_true rfl) dX5_refusedClues_127 ?_
      exact g_iretP C Kf hR dX5_refusedClues_130 hf
    refine g_if_eq C 125 dX5_refusedClues_110 (by decide) hf (fun hf => ?_) (fun hf => ?_)
    · refine g_cut [1] rfl ?_
      exact HJ_26 hf
    · refine g_iload C 0 dX5_refusedClues_113 rfl ?_
      refine g_if_lt C 125 dX5_refusedClues_115 (by decide) hf (fun hf => ?_) (fun hf => ?_)
      · refine g_cut [1] rfl ?_
        exact HJ_26 hf
      · refine g_iload C 0 dX5_refusedClues_118 rfl ?_
        refine g_bipush (v := 11) C dX5_refusedClues_120 (by decide) ?_
        refine g_icmp_lt C 131 dX5_refusedClues_122 (by decide) hf (fun hf => ?_) (fun hf => ?_)
        · refine g_iinc (d := 2) C 4 (fun x5_31 => [(5, .int x5_31), (6, .int r_20), (0, .ref (K.2.1 0)), (3, .int x3), (4, .int x4)]) dX5_refusedClues_131 rfl (by decide) (by decide) (fun _ => rfl) hf (fun x5_31 hf => ?_)
          refine g_goto C 74 dX5_refusedClues_134 (by decide) ?_
          refine g_cut [2, 3, 4, 0] rfl ?_
          exact ih _ _ hf
        · refine g_cut [1] rfl ?_
          exact HJ_26 hf
set_option maxHeartbeats 4000000 in
set_option maxRecDepth 100000 in
theorem mX5_refusedClues {K : Kx} (hK0 : isKC K) (l : Launch) (σ : St) (x1 : Int32) (x2 : Int32) (x3 : Int32)  (r : Int32) (σ' : St) (hf : f5_refusedClues σ x1 x2 x3 = some (r, σ')) : mC K l yX5_refusedClues cX5_refusedClues 7 (some .int) rmX5_refusedClues [.ref (K.2.1 0), .int x1, .int x2, .int x3] σ (some (.int r)) σ' := by
  refine g_entry (own := RX5) rfl (by decide +kernel) (Nat.le_of_ble_eq_true rfl) (fun X hX C Kf hR => ?_)
  subst hX
  unfold f5_refusedClues at hf
  show gG X σ 0 [(0, .ref (K.2.1 0)), (1, .int x1), (2, .int x2), (3, .int x3)] []
  refine g_aload_n C 0 dX5_refusedClues_0 rfl ?_
  refine g_iload_n C 1 dX5_refusedClues_1 rfl ?_
  obtain ⟨r_2, h_1, hf⟩ := b1_some hf
  refine g_cV_i C Kf [.int x1] (mX5_isCard hK0 X.1.2.1 σ x1 r_2 h_1) mi_X5_isCard (qO_X5 hK0) rfl km_X5_126 ⟨rfl, rfl, by decide, by decide⟩ rfl rfl (Nat.le_of_ble_eq_true rfl) dX5_refusedClues_2 ?_
  refine g_if_eq C 22 dX5_refusedClues_5 (by decide) hf (fun hf => ?_) (fun hf => ?_)
  · refine g_iconst (v := (-1)) C dX5_refusedClues_22 (by decide) ?_
    exact g_iretP C Kf hR dX5_refusedClues_23 hf
  · refine g_iload_n C 2 dX5_refusedClues_8 rfl ?_
    obtain ⟨r_4, h_3, hf⟩ := b1_some hf
    refine g_cS_i C Kf [.int x2] (mX5_isColumn hK0 X.1.2.1 σ x2 r_4 h_3) mi_X5_isColumn km_X5_153 ⟨rfl, rfl, by decide, by decide⟩ rfl rfl (Nat.le_of_ble_eq_true rfl) dX5_refusedClues_9 ?_
    refine g_if_eq C 22 dX5_refusedClues_12 (by decide) hf (fun hf => ?_) (fun hf => ?_)
    · refine g_iconst (v := (-1)) C dX5_refusedClues_22 (by decide) ?_
      exact g_iretP C Kf hR dX5_refusedClues_23 hf
    · refine g_iload_n C 3 dX5_refusedClues_15 rfl ?_
      obtain ⟨r_6, h_5, hf⟩ := b1_some hf
      refine g_cS_i C Kf [.int x3] (mX5_isRow hK0 X.1.2.1 σ x3 r_6 h_5) mi_X5_isRow km_X5_70 ⟨rfl, rfl, by decide, by decide⟩ rfl rfl (Nat.le_of_ble_eq_true rfl) dX5_refusedClues_16 ?_
      refine g_if_ne C 24 dX5_refusedClues_19 (by decide) hf (fun hf => ?_) (fun hf => ?_)
      · refine g_aload_n C 0 dX5_refusedClues_24 rfl ?_
        refine g_getR C Kf cl_X5 (qF_X5_0 hK0) (by decide) dX5_refusedClues_25 kf_X5_14 ?_
        refine g_iload_n C 3 dX5_refusedClues_28 rfl ?_
        obtain ⟨r_8, h_7, hf⟩ := b1_some hf
        refine g_cVN_i C Kf [.int x3] (mX3_holds hK0 X.1.2.1 σ 1 x3 (sh_1) r_8 h_7) mi_X3_holds (qO_X3 hK0 sh_1) rfl km_X5_99 ⟨rfl, rfl, by decide, by decide⟩ rfl rfl (Nat.le_of_ble_eq_true rfl) dX5_refusedClues_29 ?_
        refine g_if_ne C 41 dX5_refusedClues_32 (by decide) hf (fun hf => ?_) (fun hf => ?_)
        · refine g_aload_n C 0 dX5_refusedClues_41 rfl ?_
          refine g_getR C Kf cl_X5 (qF_X5_0 hK0) (by decide) dX5_refusedClues_42 kf_X5_14 ?_
          refine g_iload_n C 3 dX5_refusedClues_45 rfl ?_
          obtain ⟨r_10, h_9, hf⟩ := b1_some hf
          refine g_cVN_i C Kf [.int x3] (mX3_sizeOf hK0 X.1.2.1 σ 1 x3 (sh_1) r_10 h_9) mi_X3_sizeOf (qO_X3 hK0 sh_1) rfl km_X5_106 ⟨rfl, rfl, by decide, by decide⟩ rfl rfl (Nat.le_of_ble_eq_true rfl) dX5_refusedClues_46 ?_
          refine g_istore C [(4, .int r_10), (0, .ref (K.2.1 0)), (1, .int x1), (2, .int x2), (3, .int x3)] dX5_refusedClues_49 (by decide) rfl ?_
          refine g_iload C 0 dX5_refusedClues_51 rfl ?_
          refine g_iconst (v := 2) C dX5_refusedClues_53 (by decide) ?_
          refine g_irem0 C dX5_refusedClues_54 (by decide) ?_
          refine g_jn hf (fun j_11 ej_13 hf => ?_)
          have HJ_12 : j_11 = some (r, σ') → gG X σ 65 [(0, .ref (K.2.1 0))] [] := by
            intro hf
            rw [ej_13] at hf
            refine g_aload_n C 0 dX5_refusedClues_65 rfl ?_
            refine g_iconst (v := 5) C dX5_refusedClues_66 (by decide) ?_
            obtain ⟨r_15, σ_16, h_14, hf⟩ := b2_some hf
            refine g_cV_i C Kf [.int 5] (mX5_found hK0 X.1.2.1 σ 5 r_15 σ_16 h_14) mi_X5_found (qO_X5 hK0) rfl km_X5_74 ⟨rfl, rfl, by decide, by decide⟩ rfl rfl (Nat.le_of_ble_eq_true rfl) dX5_refusedClues_67 ?_
            exact g_iretP C Kf hR dX5_refusedClues_70 hf
          refine g_if_ne C 65 dX5_refusedClues_55 (by decide) hf (fun hf => ?_) (fun hf => ?_)
          · refine g_cut [1] rfl ?_
            exact HJ_12 hf
          · refine g_iload C 0 dX5_refusedClues_58 rfl ?_
            refine g_bipush (v := 16) C dX5_refusedClues_60 (by decide) ?_
            refine g_icmp_le C 71 dX5_refusedClues_62 (by decide) hf (fun hf => ?_) (fun hf => ?_)
            · refine g_iconst (v := 0) C dX5_refusedClues_71 (by decide) ?_
              refine g_istore C [(5, .int 0), (4, .int r_10), (0, .ref (K.2.1 0)), (1, .int x1), (2, .int x2), (3, .int x3)] dX5_refusedClues_72 (by decide) rfl ?_
              refine g_cut [2, 5, 1, 0] rfl ?_
              refine wL5_refusedClues_74 hK0 σ x3 r_10 _ _ C Kf hR _ (fun σ_33 hf => ?_) _ _ _ hf
              refine g_iconst (v := 0) C dX5_refusedClues_137 (by decide) ?_
              exact g_iretP C Kf hR dX5_refusedClues_138 hf
            · refine g_cut [1] rfl ?_
              exact HJ_12 hf
        · refine g_aload_n C 0 dX5_refusedClues_35 rfl ?_
          refine g_iconst (v := 1) C dX5_refusedClues_36 (by decide) ?_
          obtain ⟨r_35, σ_36, h_34, hf⟩ := b2_some hf
          refine g_cV_i C Kf [.int 1] (mX5_found hK0 X.1.2.1 σ 1 r_35 σ_36 h_34) mi_X5_found (qO_X5 hK0) rfl km_X5_74 ⟨rfl, rfl, by decide, by decide⟩ rfl rfl (Nat.le_of_ble_eq_true rfl) dX5_refusedClues_37 ?_
          exact g_iretP C Kf hR dX5_refusedClues_40 hf
      · refine g_iconst (v := (-1)) C dX5_refusedClues_22 (by decide) ?_
        exact g_iretP C Kf hR dX5_refusedClues_23 hf
abbrev rmX5_figures : Room := { frames := 5, cells := 0, slots := 0, locals := 120 }
set_option maxHeartbeats 4000000 in
set_option maxRecDepth 100000 in
theorem mX5_figures {K : Kx} (hK0 : isKC K) (l : Launch) (σ : St) (x1 : Int32) (x2 : Int32) (x3 : Int32)  (r : Int32) (σ' : St) (hf : f5_figures σ x1 x2 x3 = some (r, σ')) : mC K l yX5_figures cX5_figures 5 (some .int) rmX5_figures [.ref (K.2.1 0), .int x1, .int x2, .int x3] σ (some (.int r)) σ' := by
  refine g_entry (own := RX5) rfl (by decide +kernel) (Nat.le_of_ble_eq_true rfl) (fun X hX C Kf hR => ?_)
  subst hX
  unfold f5_figures at hf
  show gG X σ 0 [(0, .ref (K.2.1 0)), (1, .int x1), (2, .int x2), (3, .int x3)] []
  refine g_aload_n C 0 dX5_figures_0 rfl ?_
  refine g_iload_n C 1 dX5_figures_1 rfl ?_
  refine g_iload_n C 2 dX5_figures_2 rfl ?_
  refine g_iload_n C 3 dX5_figures_3 rfl ?_
  obtain ⟨r_2, σ_3, h_1, hf⟩ := b2_some hf
  refine g_cV_i C Kf [.int x1, .int x2, .int x3] (mX5_refusedClues hK0 X.1.2.1 σ x1 x2 x3 r_2 σ_3 h_1) mi_X5_refusedClues (qO_X5 hK0) rfl km_X5_213 ⟨rfl, rfl, by decide, by decide⟩ rfl rfl (Nat.le_of_ble_eq_true rfl) dX5_figures_4 ?_
  refine g_istore C [(4, .int r_2), (0, .ref (K.2.1 0)), (1, .int x1), (2, .int x2), (3, .int x3)] dX5_figures_7 (by decide) rfl ?_
  refine g_iload C 0 dX5_figures_9 rfl ?_
  refine g_if_eq C 17 dX5_figures_11 (by decide) hf (fun hf => ?_) (fun hf => ?_)
  · refine g_aload_n C 1 dX5_figures_17 rfl ?_
    refine g_getR C Kf cl_X5 (qF_X5_6 hK0) (by decide) dX5_figures_18 kf_X5_48 ?_
    refine g_aload_n C 1 dX5_figures_21 rfl ?_
    refine g_getR C Kf cl_X5 (qF_X5_4 hK0) (by decide) dX5_figures_22 kf_X5_34 ?_
    refine g_iload_n C 2 dX5_figures_25 rfl ?_
    refine g_iload_n C 3 dX5_figures_26 rfl ?_
    refine g_aload_n C 1 dX5_figures_27 rfl ?_
    refine g_getR C Kf cl_X5 (qF_X5_0 hK0) (by decide) dX5_figures_28 kf_X5_14 ?_
    refine g_iload_n C 4 dX5_figures_31 rfl ?_
    obtain ⟨r_5, σ_6, h_4, hf⟩ := b2_some hf
    refine g_cVN_i C Kf [.ref (K.2.1 13), .int x1, .int x2, .ref (K.2.1 1), .int x3] (mX0_figuresOf hK0 X.1.2.1 σ_3 x1 x2 x3 r_5 σ_6 h_4) mi_X0_figuresOf (qO_X0 hK0) rfl km_X5_220 ⟨rfl, rfl, by decide, by decide⟩ rfl rfl (Nat.le_of_ble_eq_true rfl) dX5_figures_32 ?_
    exact g_iretP C Kf hR dX5_figures_35 hf
  · refine g_iload C 0 dX5_figures_14 rfl ?_
    exact g_iretP C Kf hR dX5_figures_16 hf
abbrev rmX5_finding : Room := { frames := 0, cells := 0, slots := 0, locals := 0 }
set_option maxHeartbeats 4000000 in
set_option maxRecDepth 100000 in
theorem mX5_finding {K : Kx} (hK0 : isKC K) (l : Launch) (σ : St)   (r : Int32) (hf : f5_finding σ = some r) : mC K l yX5_finding cX5_finding 1 (some .int) rmX5_finding [.ref (K.2.1 0)] σ (some (.int r)) σ := by
  refine g_entry (own := RX5) rfl (by decide +kernel) (Nat.le_of_ble_eq_true rfl) (fun X hX C Kf hR => ?_)
  subst hX
  unfold f5_finding at hf
  show gG X σ 0 [(0, .ref (K.2.1 0))] []
  refine g_aload_n C 0 dX5_finding_0 rfl ?_
  refine g_getI C Kf cl_X5 (qF_X5_8 hK0) (by decide) dX5_finding_1 kf_X5_56 ?_
  exact g_iretR C Kf hR dX5_finding_4 hf
abbrev rmX5_findings : Room := { frames := 0, cells := 0, slots := 0, locals := 0 }
set_option maxHeartbeats 4000000 in
set_option maxRecDepth 100000 in
theorem mX5_findings {K : Kx} (hK0 : isKC K) (l : Launch) (σ : St) (x1 : Int32)  (r : Int32) (hf : f5_findings σ x1 = some r) : mC K l yX5_findings cX5_findings 2 (some .int) rmX5_findings [.ref (K.2.1 0), .int x1] σ (some (.int r)) σ := by
  refine g_entry (own := RX5) rfl (by decide +kernel) (Nat.le_of_ble_eq_true rfl) (fun X hX C Kf hR => ?_)
  subst hX
  unfold f5_findings at hf
  show gG X σ 0 [(0, .ref (K.2.1 0)), (1, .int x1)] []
  refine g_iload_n C 1 dX5_findings_0 rfl ?_
  refine g_iconst (v := 1) C dX5_findings_1 (by decide) ?_
  refine g_icmp_lt C 10 dX5_findings_2 (by decide) hf (fun hf => ?_) (fun hf => ?_)
  · refine g_iconst (v := (-1)) C dX5_findings_10 (by decide) ?_
    exact g_iretR C Kf hR dX5_findings_11 hf
  · refine g_iload_n C 1 dX5_findings_5 rfl ?_
    refine g_iconst (v := 5) C dX5_findings_6 (by decide) ?_
    refine g_icmp_le C 12 dX5_findings_7 (by decide) hf (fun hf => ?_) (fun hf => ?_)
    · refine g_aload_n C 0 dX5_findings_12 rfl ?_
      refine g_getR C Kf cl_X5 (qF_X5_7 hK0) (by decide) dX5_findings_13 kf_X5_52 ?_
      refine g_iload_n C 1 dX5_findings_16 rfl ?_
      refine g_iald C Kf (qAC_34 hK0) dX5_findings_17 hf (fun hf => ?_)
      exact g_iretR C Kf hR dX5_findings_18 hf
    · refine g_iconst (v := (-1)) C dX5_findings_10 (by decide) ?_
      exact g_iretR C Kf hR dX5_findings_11 hf
abbrev rmX5_isChance : Room := { frames := 1, cells := 0, slots := 0, locals := 21 }
set_option maxHeartbeats 4000000 in
set_option maxRecDepth 100000 in
theorem mX5_isChance {K : Kx} (hK0 : isKC K) (l : Launch) (σ : St) (x1 : Int32) (x2 : Int32) (x3 : Int32)  (r : Int32) (hf : f5_isChance σ x1 x2 x3 = some r) : mC K l yX5_isChance cX5_isChance 4 (some .boolean) rmX5_isChance [.ref (K.2.1 0), .int x1, .int x2, .int x3] σ (some (.int r)) σ := by
  refine g_entry (own := RX5) rfl (by decide +kernel) (Nat.le_of_ble_eq_true rfl) (fun X hX C Kf hR => ?_)
  subst hX
  unfold f5_isChance at hf
  show gG X σ 0 [(0, .ref (K.2.1 0)), (1, .int x1), (2, .int x2), (3, .int x3)] []
  refine g_aload_n C 0 dX5_isChance_0 rfl ?_
  refine g_iload_n C 1 dX5_isChance_1 rfl ?_
  obtain ⟨r_2, h_1, hf⟩ := b1_some hf
  refine g_cV_i C Kf [.int x1] (mX5_isCard hK0 X.1.2.1 σ x1 r_2 h_1) mi_X5_isCard (qO_X5 hK0) rfl km_X5_126 ⟨rfl, rfl, by decide, by decide⟩ rfl rfl (Nat.le_of_ble_eq_true rfl) dX5_isChance_2 ?_
  refine g_if_eq C 29 dX5_isChance_5 (by decide) hf (fun hf => ?_) (fun hf => ?_)
  · refine g_iconst (v := 0) C dX5_isChance_29 (by decide) ?_
    exact g_zretR C Kf hR (Or.inl rfl) dX5_isChance_30 hf
  · refine g_iload_n C 2 dX5_isChance_8 rfl ?_
    obtain ⟨r_4, h_3, hf⟩ := b1_some hf
    refine g_cS_i C Kf [.int x2] (mX5_isColumn hK0 X.1.2.1 σ x2 r_4 h_3) mi_X5_isColumn km_X5_153 ⟨rfl, rfl, by decide, by decide⟩ rfl rfl (Nat.le_of_ble_eq_true rfl) dX5_isChance_9 ?_
    refine g_if_eq C 29 dX5_isChance_12 (by decide) hf (fun hf => ?_) (fun hf => ?_)
    · refine g_iconst (v := 0) C dX5_isChance_29 (by decide) ?_
      exact g_zretR C Kf hR (Or.inl rfl) dX5_isChance_30 hf
    · refine g_iload_n C 3 dX5_isChance_15 rfl ?_
      refine g_if_lt C 29 dX5_isChance_16 (by decide) hf (fun hf => ?_) (fun hf => ?_)
      · refine g_iconst (v := 0) C dX5_isChance_29 (by decide) ?_
        exact g_zretR C Kf hR (Or.inl rfl) dX5_isChance_30 hf
      · refine g_iload_n C 3 dX5_isChance_19 rfl ?_
        refine g_bipush (v := 12) C dX5_isChance_20 (by decide) ?_
        refine g_icmp_gt C 29 dX5_isChance_22 (by decide) hf (fun hf => ?_) (fun hf => ?_)
        · refine g_iconst (v := 0) C dX5_isChance_29 (by decide) ?_
          exact g_zretR C Kf hR (Or.inl rfl) dX5_isChance_30 hf
        · refine g_iconst (v := 1) C dX5_isChance_25 (by decide) ?_
          refine g_goto C 30 dX5_isChance_26 (by decide) ?_
          exact g_zretR C Kf hR (Or.inr rfl) dX5_isChance_30 hf
abbrev rmX5_keep : Room := { frames := 3, cells := 0, slots := 0, locals := 67 }
set_option maxHeartbeats 4000000 in
set_option maxRecDepth 100000 in
theorem wL5_keep_42 {X : Gx St} {K : Kx} (hK0 : isKC K) (σ : St) (x1 : Int32) (r : Int32) (σ' : St) (C : gF X cX5_keep RX5 (some .int) 3 rmX5_keep) (Kf : kF X K) (hR : gR X K (some (.int r)) σ') (k : St → Option (Int32 × St)) (Hk : ∀ (σ_8 : St), k σ_8 = some (r, σ') → gG X σ_8 77 [(0, .ref (K.2.1 0))] []) : ∀ (n : Nat) (x2_3 : Int32) (σ_4 : St), L5_keep_42 x1 k n x2_3 σ_4 = some (r, σ') → gG X σ_4 42 [(0, .ref (K.2.1 0)), (1, .int x1), (2, .int x2_3)] [] := by
  intro n
  induction n with
  | zero => intro _ _ hf; unfold L5_keep_42 at hf; cases hf
  | succ n ih =>
  intro x2_3 σ_4 hf
  unfold L5_keep_42 at hf
  refine g_iload_n C 2 dX5_keep_42 rfl ?_
  refine g_aload_n C 0 dX5_keep_43 rfl ?_
  refine g_getR C Kf cl_X5 (qF_X5_4 hK0) (by decide) dX5_keep_44 kf_X5_34 ?_
  refine g_getIN C Kf cl_X1 (qF_X1_9 hK0) (by decide) dX5_keep_47 kf_X5_169 ?_
  refine g_icmp_ge C 77 dX5_keep_50 (by decide) hf (fun hf => ?_) (fun hf => ?_)
  · refine g_cut [0] rfl ?_
    exact Hk _ hf
  · refine g_aload_n C 0 dX5_keep_53 rfl ?_
    refine g_getR C Kf cl_X5 (qF_X5_2 hK0) (by decide) dX5_keep_54 kf_X5_21 ?_
    refine g_iload_n C 1 dX5_keep_57 rfl ?_
    refine g_iload_n C 2 dX5_keep_58 rfl ?_
    refine g_aload_n C 0 dX5_keep_59 rfl ?_
    refine g_getR C Kf cl_X5 (qF_X5_4 hK0) (by decide) dX5_keep_60 kf_X5_34 ?_
    refine g_getRN C Kf cl_X1 (qF_X1_6 hK0) (by decide) dX5_keep_63 kf_X5_175 ?_
    refine g_iload_n C 2 dX5_keep_66 rfl ?_
    refine g_iald C Kf (qAC_20 hK0) dX5_keep_67 hf (fun hf => ?_)
    obtain ⟨σ_6, h_5, hf⟩ := b1_some hf
    refine g_cVN_v C Kf [.int x1, .int x2_3, .int (σ_4.1 20 x2_3.toNatClampNeg)] (mX3_set hK0 X.1.2.1 σ_4 7 x1 x2_3 (σ_4.1 20 x2_3.toNatClampNeg) (sh_7) σ_6 h_5) mi_X3_set (qO_X3 hK0 sh_7) rfl km_X5_89 ⟨rfl, rfl, by decide, by decide⟩ rfl rfl (Nat.le_of_ble_eq_true rfl) dX5_keep_68 ?_
    refine g_iinc (d := 1) C 2 (fun x2_7 => [(2, .int x2_7), (0, .ref (K.2.1 0)), (1, .int x1)]) dX5_keep_71 rfl (by decide) (by decide) (fun _ => rfl) hf (fun x2_7 hf => ?_)
    refine g_goto C 42 dX5_keep_74 (by decide) ?_
    refine g_cut [1, 2, 0] rfl ?_
    exact ih _ _ hf
set_option maxHeartbeats 4000000 in
set_option maxRecDepth 100000 in
theorem mX5_keep {K : Kx} (hK0 : isKC K) (l : Launch) (σ : St) (x1 : Int32)  (r : Int32) (σ' : St) (hf : f5_keep σ x1 = some (r, σ')) : mC K l yX5_keep cX5_keep 3 (some .int) rmX5_keep [.ref (K.2.1 0), .int x1] σ (some (.int r)) σ' := by
  refine g_entry (own := RX5) rfl (by decide +kernel) (Nat.le_of_ble_eq_true rfl) (fun X hX C Kf hR => ?_)
  subst hX
  unfold f5_keep at hf
  show gG X σ 0 [(0, .ref (K.2.1 0)), (1, .int x1)] []
  refine g_iload_n C 1 dX5_keep_0 rfl ?_
  refine g_if_lt C 9 dX5_keep_1 (by decide) hf (fun hf => ?_) (fun hf => ?_)
  · refine g_iconst (v := (-1)) C dX5_keep_9 (by decide) ?_
    exact g_iretP C Kf hR dX5_keep_10 hf
  · refine g_iload_n C 1 dX5_keep_4 rfl ?_
    refine g_iconst (v := 3) C dX5_keep_5 (by decide) ?_
    refine g_icmp_lt C 11 dX5_keep_6 (by decide) hf (fun hf => ?_) (fun hf => ?_)
    · refine g_aload_n C 0 dX5_keep_11 rfl ?_
      refine g_getR C Kf cl_X5 (qF_X5_4 hK0) (by decide) dX5_keep_12 kf_X5_34 ?_
      refine g_getIN C Kf cl_X1 (qF_X1_7 hK0) (by decide) dX5_keep_15 kf_X5_123 ?_
      refine g_if_ne C 24 dX5_keep_18 (by decide) hf (fun hf => ?_) (fun hf => ?_)
      · refine g_aload_n C 0 dX5_keep_24 rfl ?_
        refine g_getR C Kf cl_X5 (qF_X5_2 hK0) (by decide) dX5_keep_25 kf_X5_21 ?_
        refine g_iload_n C 1 dX5_keep_28 rfl ?_
        refine g_aload_n C 0 dX5_keep_29 rfl ?_
        refine g_getR C Kf cl_X5 (qF_X5_4 hK0) (by decide) dX5_keep_30 kf_X5_34 ?_
        refine g_getIN C Kf cl_X1 (qF_X1_9 hK0) (by decide) dX5_keep_33 kf_X5_169 ?_
        refine g_iconst (v := 0) C dX5_keep_36 (by decide) ?_
        obtain ⟨σ_2, h_1, hf⟩ := b1_some hf
        refine g_cVN_v C Kf [.int x1, .int (σ.1 13 9), .int 0] (mX3_make hK0 X.1.2.1 σ 7 x1 (σ.1 13 9) 0 (sh_7) σ_2 h_1) mi_X3_make (qO_X3 hK0 sh_7) rfl km_X5_78 ⟨rfl, rfl, by decide, by decide⟩ rfl rfl (Nat.le_of_ble_eq_true rfl) dX5_keep_37 ?_
        refine g_iconst (v := 0) C dX5_keep_40 (by decide) ?_
        refine g_istore_n C [(2, .int 0), (0, .ref (K.2.1 0)), (1, .int x1)] dX5_keep_41 rfl (by decide) rfl ?_
        refine g_cut [1, 2, 0] rfl ?_
        refine wL5_keep_42 hK0 σ_2 x1 _ _ C Kf hR _ (fun σ_9 hf => ?_) _ _ _ hf
        refine g_aload_n C 0 dX5_keep_77 rfl ?_
        refine g_getR C Kf cl_X5 (qF_X5_4 hK0) (by decide) dX5_keep_78 kf_X5_34 ?_
        refine g_getIN C Kf cl_X1 (qF_X1_9 hK0) (by decide) dX5_keep_81 kf_X5_169 ?_
        exact g_iretP C Kf hR dX5_keep_84 hf
      · refine g_bipush (v := (-4)) C dX5_keep_21 (by decide) ?_
        exact g_iretP C Kf hR dX5_keep_23 hf
    · refine g_iconst (v := (-1)) C dX5_keep_9 (by decide) ?_
      exact g_iretP C Kf hR dX5_keep_10 hf
abbrev rmX5_kinds : Room := { frames := 5, cells := 0, slots := 0, locals := 119 }
set_option maxHeartbeats 4000000 in
set_option maxRecDepth 100000 in
theorem mX5_kinds {K : Kx} (hK0 : isKC K) (l : Launch) (σ : St) (x1 : Int32) (x2 : Int32)  (r : Int32) (σ' : St) (hf : f5_kinds σ x1 x2 = some (r, σ')) : mC K l yX5_kinds cX5_kinds 4 (some .int) rmX5_kinds [.ref (K.2.1 0), .int x1, .int x2] σ (some (.int r)) σ' := by
  refine g_entry (own := RX5) rfl (by decide +kernel) (Nat.le_of_ble_eq_true rfl) (fun X hX C Kf hR => ?_)
  subst hX
  unfold f5_kinds at hf
  show gG X σ 0 [(0, .ref (K.2.1 0)), (1, .int x1), (2, .int x2)] []
  refine g_aload_n C 0 dX5_kinds_0 rfl ?_
  refine g_iload_n C 1 dX5_kinds_1 rfl ?_
  refine g_iconst (v := 0) C dX5_kinds_2 (by decide) ?_
  refine g_iload_n C 2 dX5_kinds_3 rfl ?_
  obtain ⟨r_2, σ_3, h_1, hf⟩ := b2_some hf
  refine g_cV_i C Kf [.int x1, .int 0, .int x2] (mX5_refusedClues hK0 X.1.2.1 σ x1 0 x2 r_2 σ_3 h_1) mi_X5_refusedClues (qO_X5 hK0) rfl km_X5_213 ⟨rfl, rfl, by decide, by decide⟩ rfl rfl (Nat.le_of_ble_eq_true rfl) dX5_kinds_4 ?_
  refine g_istore_n C [(3, .int r_2), (0, .ref (K.2.1 0)), (1, .int x1), (2, .int x2)] dX5_kinds_7 rfl (by decide) rfl ?_
  refine g_iload_n C 0 dX5_kinds_8 rfl ?_
  refine g_if_eq C 14 dX5_kinds_9 (by decide) hf (fun hf => ?_) (fun hf => ?_)
  · refine g_aload_n C 1 dX5_kinds_14 rfl ?_
    refine g_getR C Kf cl_X5 (qF_X5_6 hK0) (by decide) dX5_kinds_15 kf_X5_48 ?_
    refine g_aload_n C 1 dX5_kinds_18 rfl ?_
    refine g_getR C Kf cl_X5 (qF_X5_4 hK0) (by decide) dX5_kinds_19 kf_X5_34 ?_
    refine g_iload_n C 2 dX5_kinds_22 rfl ?_
    refine g_aload_n C 1 dX5_kinds_23 rfl ?_
    refine g_getR C Kf cl_X5 (qF_X5_0 hK0) (by decide) dX5_kinds_24 kf_X5_14 ?_
    refine g_iload_n C 3 dX5_kinds_27 rfl ?_
    obtain ⟨r_5, σ_6, h_4, hf⟩ := b2_some hf
    refine g_cVN_i C Kf [.ref (K.2.1 13), .int x1, .ref (K.2.1 1), .int x2] (mX0_kindsOf hK0 X.1.2.1 σ_3 x1 x2 r_5 σ_6 h_4) mi_X0_kindsOf (qO_X0 hK0) rfl km_X5_216 ⟨rfl, rfl, by decide, by decide⟩ rfl rfl (Nat.le_of_ble_eq_true rfl) dX5_kinds_28 ?_
    exact g_iretP C Kf hR dX5_kinds_31 hf
  · refine g_iload_n C 0 dX5_kinds_12 rfl ?_
    exact g_iretP C Kf hR dX5_kinds_13 hf
abbrev rmX5_lay : Room := { frames := 4, cells := 0, slots := 0, locals := 86 }
set_option maxHeartbeats 4000000 in
set_option maxRecDepth 100000 in
theorem mX5_lay {K : Kx} (hK0 : isKC K) (l : Launch) (σ : St) (x1 : Int32) (x2 : Int32) (x3 : Int32)  (r : Int32) (σ' : St) (hf : f5_lay σ x1 x2 x3 = some (r, σ')) : mC K l yX5_lay cX5_lay 5 (some .int) rmX5_lay [.ref (K.2.1 0), .int x1, .int x2, .int x3] σ (some (.int r)) σ' := by
  refine g_entry (own := RX5) rfl (by decide +kernel) (Nat.le_of_ble_eq_true rfl) (fun X hX C Kf hR => ?_)
  subst hX
  unfold f5_lay at hf
  show gG X σ 0 [(0, .ref (K.2.1 0)), (1, .int x1), (2, .int x2), (3, .int x3)] []
  refine g_aload_n C 0 dX5_lay_0 rfl ?_
  refine g_iload_n C 1 dX5_lay_1 rfl ?_
  refine g_iload_n C 2 dX5_lay_2 rfl ?_
  obtain ⟨r_2, σ_3, h_1, hf⟩ := b2_some hf
  refine g_cV_i C Kf [.int x1, .int x2] (mX5_refusedPlace hK0 X.1.2.1 σ x1 x2 r_2 σ_3 h_1) mi_X5_refusedPlace (qO_X5 hK0) rfl km_X5_82 ⟨rfl, rfl, by decide, by decide⟩ rfl rfl (Nat.le_of_ble_eq_true rfl) dX5_lay_3 ?_
  refine g_istore C [(4, .int r_2), (0, .ref (K.2.1 0)), (1, .int x1), (2, .int x2), (3, .int x3)] dX5_lay_6 (by decide) rfl ?_
  refine g_iload C 0 dX5_lay_8 rfl ?_
  refine g_if_eq C 16 dX5_lay_10 (by decide) hf (fun hf => ?_) (fun hf => ?_)
  · refine g_aload_n C 1 dX5_lay_16 rfl ?_
    refine g_aload_n C 1 dX5_lay_17 rfl ?_
    refine g_getR C Kf cl_X5 (qF_X5_0 hK0) (by decide) dX5_lay_18 kf_X5_14 ?_
    refine g_iload_n C 2 dX5_lay_21 rfl ?_
    refine g_iload_n C 3 dX5_lay_22 rfl ?_
    obtain ⟨r_5, h_4, hf⟩ := b1_some hf
    refine g_cVN_i C Kf [.int x1, .int x2] (mX3_get hK0 X.1.2.1 σ_3 1 x1 x2 (sh_1) r_5 h_4) mi_X3_get (qO_X3 hK0 sh_1) rfl km_X5_86 ⟨rfl, rfl, by decide, by decide⟩ rfl rfl (Nat.le_of_ble_eq_true rfl) dX5_lay_23 ?_
    refine g_putI C Kf cl_X5 (qF_X5_9 hK0) (by decide) rfl rfl rfl dX5_lay_26 kf_X5_60 hf (fun σ_6 hf => ?_)
    refine g_aload_n C 1 dX5_lay_29 rfl ?_
    refine g_getR C Kf cl_X5 (qF_X5_0 hK0) (by decide) dX5_lay_30 kf_X5_14 ?_
    refine g_iload_n C 2 dX5_lay_33 rfl ?_
    refine g_iload_n C 3 dX5_lay_34 rfl ?_
    refine g_iload_n C 4 dX5_lay_35 rfl ?_
    obtain ⟨σ_8, h_7, hf⟩ := b1_some hf
    refine g_cVN_v C Kf [.int x1, .int x2, .int x3] (mX3_set hK0 X.1.2.1 σ_6 1 x1 x2 x3 (sh_1) σ_8 h_7) mi_X3_set (qO_X3 hK0 sh_1) rfl km_X5_89 ⟨rfl, rfl, by decide, by decide⟩ rfl rfl (Nat.le_of_ble_eq_true rfl) dX5_lay_36 ?_
    refine g_iconst (v := 1) C dX5_lay_39 (by decide) ?_
    exact g_iretP C Kf hR dX5_lay_40 hf
  · refine g_iload C 0 dX5_lay_13 rfl ?_
    exact g_iretP C Kf hR dX5_lay_15 hf
abbrev rmX5_refusedDeeds : Room := { frames := 0, cells := 0, slots := 0, locals := 0 }
set_option maxHeartbeats 4000000 in
set_option maxRecDepth 100000 in
theorem mX5_refusedDeeds {K : Kx} (hK0 : isKC K) (l : Launch) (σ : St) (x1 : Int32)  (r : Int32) (hf : f5_refusedDeeds σ x1 = some r) : mC K l yX5_refusedDeeds cX5_refusedDeeds 2 (some .int) rmX5_refusedDeeds [.ref (K.2.1 0), .int x1] σ (some (.int r)) σ := by
  refine g_entry (own := RX5) rfl (by decide +kernel) (Nat.le_of_ble_eq_true rfl) (fun X hX C Kf hR => ?_)
  subst hX
  unfold f5_refusedDeeds at hf
  show gG X σ 0 [(0, .ref (K.2.1 0)), (1, .int x1)] []
  refine g_aload_n C 0 dX5_refusedDeeds_0 rfl ?_
  refine g_getR C Kf cl_X5 (qF_X5_4 hK0) (by decide) dX5_refusedDeeds_1 kf_X5_34 ?_
  refine g_getIN C Kf cl_X1 (qF_X1_7 hK0) (by decide) dX5_refusedDeeds_4 kf_X5_123 ?_
  refine g_if_ne C 13 dX5_refusedDeeds_7 (by decide) hf (fun hf => ?_) (fun hf => ?_)
  · refine g_aload_n C 0 dX5_refusedDeeds_13 rfl ?_
    refine g_getR C Kf cl_X5 (qF_X5_4 hK0) (by decide) dX5_refusedDeeds_14 kf_X5_34 ?_
    refine g_getIN C Kf cl_X1 (qF_X1_9 hK0) (by decide) dX5_refusedDeeds_17 kf_X5_169 ?_
    refine g_iload_n C 1 dX5_refusedDeeds_20 rfl ?_
    refine g_iadd C dX5_refusedDeeds_21 ?_
    refine g_bipush (v := 40) C dX5_refusedDeeds_22 (by decide) ?_
    refine g_icmp_le C 32 dX5_refusedDeeds_24 (by decide) hf (fun hf => ?_) (fun hf => ?_)
    · refine g_iconst (v := 0) C dX5_refusedDeeds_32 (by decide) ?_
      exact g_iretR C Kf hR dX5_refusedDeeds_33 hf
    · refine g_bipush (v := (-2)) C dX5_refusedDeeds_27 (by decide) ?_
      refine g_goto C 33 dX5_refusedDeeds_29 (by decide) ?_
      exact g_iretR C Kf hR dX5_refusedDeeds_33 hf
  · refine g_bipush (v := (-4)) C dX5_refusedDeeds_10 (by decide) ?_
    exact g_iretR C Kf hR dX5_refusedDeeds_12 hf
abbrev rmX5_lift : Room := { frames := 6, cells := 0, slots := 0, locals := 142 }
set_option maxHeartbeats 4000000 in
set_option maxRecDepth 100000 in
theorem mX5_lift {K : Kx} (hK0 : isKC K) (l : Launch) (σ : St) (x1 : Int32)  (r : Int32) (σ' : St) (hf : f5_lift σ x1 = some (r, σ')) : mC K l yX5_lift cX5_lift 3 (some .int) rmX5_lift [.ref (K.2.1 0), .int x1] σ (some (.int r)) σ' := by
  refine g_entry (own := RX5) rfl (by decide +kernel) (Nat.le_of_ble_eq_true rfl) (fun X hX C Kf hR => ?_)
  subst hX
  unfold f5_lift at hf
  show gG X σ 0 [(0, .ref (K.2.1 0)), (1, .int x1)] []
  refine g_aload_n C 0 dX5_lift_0 rfl ?_
  refine g_getR C Kf cl_X5 (qF_X5_4 hK0) (by decide) dX5_lift_1 kf_X5_34 ?_
  refine g_getIN C Kf cl_X1 (qF_X1_7 hK0) (by decide) dX5_lift_4 kf_X5_123 ?_
  refine g_if_ne C 13 dX5_lift_7 (by decide) hf (fun hf => ?_) (fun hf => ?_)
  · refine g_iload_n C 1 dX5_lift_13 rfl ?_
    refine g_iconst (v := 1) C dX5_lift_14 (by decide) ?_
    refine g_icmp_lt C 29 dX5_lift_15 (by decide) hf (fun hf => ?_) (fun hf => ?_)
    · refine g_iconst (v := (-1)) C dX5_lift_29 (by decide) ?_
      exact g_iretP C Kf hR dX5_lift_30 hf
    · refine g_iload_n C 1 dX5_lift_18 rfl ?_
      refine g_aload_n C 0 dX5_lift_19 rfl ?_
      refine g_getR C Kf cl_X5 (qF_X5_4 hK0) (by decide) dX5_lift_20 kf_X5_34 ?_
      refine g_getIN C Kf cl_X1 (qF_X1_7 hK0) (by decide) dX5_lift_23 kf_X5_123 ?_
      refine g_icmp_lt C 31 dX5_lift_26 (by decide) hf (fun hf => ?_) (fun hf => ?_)
      · refine g_aload_n C 0 dX5_lift_31 rfl ?_
        refine g_iconst (v := 1) C dX5_lift_32 (by decide) ?_
        obtain ⟨r_2, h_1, hf⟩ := b1_some hf
        refine g_cV_i C Kf [.int 1] (mX5_refusedDeeds hK0 X.1.2.1 σ 1 r_2 h_1) mi_X5_refusedDeeds (qO_X5 hK0) rfl km_X5_156 ⟨rfl, rfl, by decide, by decide⟩ rfl rfl (Nat.le_of_ble_eq_true rfl) dX5_lift_33 ?_
        refine g_istore_n C [(2, .int r_2), (0, .ref (K.2.1 0)), (1, .int x1)] dX5_lift_36 rfl (by decide) rfl ?_
        refine g_iload_n C 0 dX5_lift_37 rfl ?_
        refine g_if_eq C 43 dX5_lift_38 (by decide) hf (fun hf => ?_) (fun hf => ?_)
        · refine g_aload_n C 1 dX5_lift_43 rfl ?_
          refine g_getR C Kf cl_X5 (qF_X5_4 hK0) (by decide) dX5_lift_44 kf_X5_34 ?_
          refine g_iconst (v := 2) C dX5_lift_47 (by decide) ?_
          refine g_iload_n C 2 dX5_lift_48 rfl ?_
          refine g_iconst (v := 0) C dX5_lift_49 (by decide) ?_
          refine g_iconst (v := 0) C dX5_lift_50 (by decide) ?_
          obtain ⟨r_4, h_3, hf⟩ := b1_some hf
          refine g_cS_i C Kf [.int 2, .int x1, .int 0, .int 0] (mX5_deedOf hK0 X.1.2.1 σ 2 x1 0 0 r_4 h_3) mi_X5_deedOf km_X5_159 ⟨rfl, rfl, by decide, by decide⟩ rfl rfl (Nat.le_of_ble_eq_true rfl) dX5_lift_51 ?_
          obtain ⟨r_6, σ_7, h_5, hf⟩ := b2_some hf
          refine g_cVN_i C Kf [.int r_4] (mX1_add hK0 X.1.2.1 σ r_4 r_6 σ_7 h_5) mi_X1_add (qO_X1 hK0) rfl km_X5_163 ⟨rfl, rfl, by decide, by decide⟩ rfl rfl (Nat.le_of_ble_eq_true rfl) dX5_lift_54 ?_
          exact g_iretP C Kf hR dX5_lift_57 hf
        · refine g_iload_n C 0 dX5_lift_41 rfl ?_
          exact g_iretP C Kf hR dX5_lift_42 hf
      · refine g_iconst (v := (-1)) C dX5_lift_29 (by decide) ?_
        exact g_iretP C Kf hR dX5_lift_30 hf
  · refine g_bipush (v := (-4)) C dX5_lift_10 (by decide) ?_
    exact g_iretP C Kf hR dX5_lift_12 hf
abbrev rmX5_lots : Room := { frames := 6, cells := 0, slots := 0, locals := 142 }
set_option maxHeartbeats 4000000 in
set_option maxRecDepth 100000 in
theorem wL5_lots_46 {X : Gx St} {K : Kx} (hK0 : isKC K) (σ : St) (x1 : Int32) (r : Int32) (σ' : St) (C : gF X cX5_lots RX5 (some .int) 7 rmX5_lots) (Kf : kF X K) (hR : gR X K (some (.int r)) σ') (k : St → Option (Int32 × St)) (Hk : ∀ (σ_14 : St), k σ_14 = some (r, σ') → gG X σ_14 91 [(0, .ref (K.2.1 0))] []) : ∀ (n : Nat) (x4_4 : Int64) (x6_5 : Int32) (σ_6 : St), L5_lots_46 x1 k n x4_4 x6_5 σ_6 = some (r, σ') → gG X σ_6 46 [(0, .ref (K.2.1 0)), (1, .int x1), (4, .long x4_4), (6, .int x6_5)] [] := by
  intro n
  induction n with
  | zero => intro _ _ _ hf; unfold L5_lots_46 at hf; cases hf
  | succ n ih =>
  intro x4_4 x6_5 σ_6 hf
  unfold L5_lots_46 at hf
  refine g_iload C 3 dX5_lots_46 rfl ?_
  refine g_iload_n C 1 dX5_lots_48 rfl ?_
  refine g_icmp_ge C 91 dX5_lots_49 (by decide) hf (fun hf => ?_) (fun hf => ?_)
  · refine g_cut [0] rfl ?_
    exact Hk _ hf
  · refine g_lload C 2 dX5_lots_52 rfl ?_
    refine g_ldc2 (v := 48271) C dX5_lots_54 kl_X5_258 ?_
    refine g_lmul C dX5_lots_57 ?_
    refine g_ldc2 (v := 2147483647) C dX5_lots_58 kl_X5_256 ?_
    refine g_lrem0 C dX5_lots_61 (by decide) ?_
    refine g_lstoreB C (fun x4_7 => [(4, .long x4_7), (0, .ref (K.2.1 0)), (1, .int x1), (6, .int x6_5)]) dX5_lots_62 (by decide) (fun _ => rfl) hf (fun x4_7 hf => ?_)
    refine g_aload_n C 1 dX5_lots_64 rfl ?_
    refine g_getR C Kf cl_X5 (qF_X5_4 hK0) (by decide) dX5_lots_65 kf_X5_34 ?_
    refine g_lload C 0 dX5_lots_68 rfl ?_
    refine g_l2i C dX5_lots_70 ?_
    refine g_aload_n C 1 dX5_lots_71 rfl ?_
    refine g_getR C Kf cl_X5 (qF_X5_4 hK0) (by decide) dX5_lots_72 kf_X5_34 ?_
    refine g_getIN C Kf cl_X1 (qF_X1_7 hK0) (by decide) dX5_lots_75 kf_X5_123 ?_
    obtain ⟨r_9, h_8, hf⟩ := b1_some hf
    refine g_cS_i C Kf [.int (x4_7.toInt32), .int (σ_6.1 13 7)] (mX5_deedByLot hK0 X.1.2.1 σ_6 (x4_7.toInt32) (σ_6.1 13 7) r_9 h_8) mi_X5_deedByLot km_X5_260 ⟨rfl, rfl, by decide, by decide⟩ rfl rfl (Nat.le_of_ble_eq_true rfl) dX5_lots_78 ?_
    obtain ⟨r_11, σ_12, h_10, hf⟩ := b2_some hf
    refine g_cVN_i C Kf [.int r_9] (mX1_add hK0 X.1.2.1 σ_6 r_9 r_11 σ_12 h_10) mi_X1_add (qO_X1 hK0) rfl km_X5_163 ⟨rfl, rfl, by decide, by decide⟩ rfl rfl (Nat.le_of_ble_eq_true rfl) dX5_lots_81 ?_
    refine g_pop C dX5_lots_84 rfl ?_
    refine g_iinc (d := 1) C 3 (fun x6_13 => [(6, .int x6_13), (4, .long x4_7), (0, .ref (K.2.1 0)), (1, .int x1)]) dX5_lots_85 rfl (by decide) (by decide) (fun _ => rfl) hf (fun x6_13 hf => ?_)
    refine g_goto C 46 dX5_lots_88 (by decide) ?_
    refine g_cut [2, 3, 1, 0] rfl ?_
    exact ih _ _ _ hf
set_option maxHeartbeats 4000000 in
set_option maxRecDepth 100000 in
theorem mX5_lots {K : Kx} (hK0 : isKC K) (l : Launch) (σ : St) (x1 : Int32) (x2 : Int32)  (r : Int32) (σ' : St) (hf : f5_lots σ x1 x2 = some (r, σ')) : mC K l yX5_lots cX5_lots 7 (some .int) rmX5_lots [.ref (K.2.1 0), .int x1, .int x2] σ (some (.int r)) σ' := by
  refine g_entry (own := RX5) rfl (by decide +kernel) (Nat.le_of_ble_eq_true rfl) (fun X hX C Kf hR => ?_)
  subst hX
  unfold f5_lots at hf
  show gG X σ 0 [(0, .ref (K.2.1 0)), (1, .int x1), (2, .int x2)] []
  refine g_iload_n C 1 dX5_lots_0 rfl ?_
  refine g_iconst (v := 1) C dX5_lots_1 (by decide) ?_
  refine g_icmp_lt C 25 dX5_lots_2 (by decide) hf (fun hf => ?_) (fun hf => ?_)
  · refine g_iconst (v := (-1)) C dX5_lots_25 (by decide) ?_
    exact g_iretP C Kf hR dX5_lots_26 hf
  · refine g_iload_n C 1 dX5_lots_5 rfl ?_
    refine g_bipush (v := 20) C dX5_lots_6 (by decide) ?_
    refine g_icmp_gt C 25 dX5_lots_8 (by decide) hf (fun hf => ?_) (fun hf => ?_)
    · refine g_iconst (v := (-1)) C dX5_lots_25 (by decide) ?_
      exact g_iretP C Kf hR dX5_lots_26 hf
    · refine g_iload_n C 2 dX5_lots_11 rfl ?_
      refine g_iconst (v := 1) C dX5_lots_12 (by decide) ?_
      refine g_icmp_lt C 25 dX5_lots_13 (by decide) hf (fun hf => ?_) (fun hf => ?_)
      · refine g_iconst (v := (-1)) C dX5_lots_25 (by decide) ?_
        exact g_iretP C Kf hR dX5_lots_26 hf
      · refine g_iload_n C 2 dX5_lots_16 rfl ?_
        refine g_i2l C dX5_lots_17 ?_
        refine g_ldc2 (v := 2147483647) C dX5_lots_18 kl_X5_256 ?_
        refine g_lcmp_lt C 27 dX5_lots_21 dX5_lots_22 (by decide) hf (fun hf => ?_) (fun hf => ?_)
        · refine g_aload_n C 0 dX5_lots_27 rfl ?_
          refine g_iload_n C 1 dX5_lots_28 rfl ?_
          obtain ⟨r_2, h_1, hf⟩ := b1_some hf
          refine g_cV_i C Kf [.int x1] (mX5_refusedDeeds hK0 X.1.2.1 σ x1 r_2 h_1) mi_X5_refusedDeeds (qO_X5 hK0) rfl km_X5_156 ⟨rfl, rfl, by decide, by decide⟩ rfl rfl (Nat.le_of_ble_eq_true rfl) dX5_lots_29 ?_
          refine g_istore_n C [(3, .int r_2), (0, .ref (K.2.1 0)), (1, .int x1), (2, .int x2)] dX5_lots_32 rfl (by decide) rfl ?_
          refine g_iload_n C 0 dX5_lots_33 rfl ?_
          refine g_if_eq C 39 dX5_lots_34 (by decide) hf (fun hf => ?_) (fun hf => ?_)
          · refine g_iload_n C 3 dX5_lots_39 rfl ?_
            refine g_i2l C dX5_lots_40 ?_
            refine g_lstoreB C (fun x4_3 => [(4, .long x4_3), (3, .int r_2), (0, .ref (K.2.1 0)), (1, .int x1), (2, .int x2)]) dX5_lots_41 (by decide) (fun _ => rfl) hf (fun x4_3 hf => ?_)
            refine g_iconst (v := 0) C dX5_lots_43 (by decide) ?_
            refine g_istore C [(6, .int 0), (4, .long x4_3), (3, .int r_2), (0, .ref (K.2.1 0)), (1, .int x1), (2, .int x2)] dX5_lots_44 (by decide) rfl ?_
            refine g_cut [3, 4, 1, 0] rfl ?_
            refine wL5_lots_46 hK0 σ x1 _ _ C Kf hR _ (fun σ_15 hf => ?_) _ _ _ _ hf
            refine g_aload_n C 0 dX5_lots_91 rfl ?_
            refine g_getR C Kf cl_X5 (qF_X5_4 hK0) (by decide) dX5_lots_92 kf_X5_34 ?_
            refine g_getRN C Kf cl_X1 (qF_X1_3 hK0) (by decide) dX5_lots_95 kf_X5_263 ?_
            refine g_iconst (v := 0) C dX5_lots_98 (by decide) ?_
            refine g_ialdL C Kf 0 (by decide) (by unfold vp_in; decide) (qAC_17 hK0) dX5_lots_99 ?_
            exact g_iretP C Kf hR dX5_lots_100 hf
          · refine g_iload_n C 0 dX5_lots_37 rfl ?_
            exact g_iretP C Kf hR dX5_lots_38 hf
        · refine g_iconst (v := (-1)) C dX5_lots_25 (by decide) ?_
          exact g_iretP C Kf hR dX5_lots_26 hf
