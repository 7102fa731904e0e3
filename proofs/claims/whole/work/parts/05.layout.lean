def lnC (c : Nat) : Nat := match c with
  | 2 => 240
  | 3 => 6
  | 5 => 240
  | 6 => 4
  | 8 => 120
  | 9 => 3
  | 11 => 6
  | 12 => 18
  | 14 => 6
  | 15 => 18
  | 16 => 18
  | 17 => 6
  | 18 => 6
  | 19 => 6
  | 20 => 40
  | 23 => 5
  | 24 => 6
  | 25 => 6
  | 26 => 6
  | 27 => 6
  | 28 => 6
  | 29 => 6
  | 30 => 6
  | 32 => 3
  | 33 => 11
  | 34 => 6
  | _ => 0
def lnM (c : Nat) : Nat := match c with
  | 1 => 6
  | 2 => 240
  | 3 => 4
  | 4 => 240
  | 5 => 6
  | 6 => 25
  | 7 => 25
  | 8 => 1000
  | 9 => 3078
  | 11 => 6
  | 12 => 6
  | 13 => 18
  | 14 => 6
  | 15 => 4096
  | _ => 0
def eC (ad : Nat → Nat) (cI cA : ClassId) : Ly := fun c f g => if 0 < lnC c then .inl (cI, lnC c, .inl f) else match c with
  | 0 => .inr (5, [.ref (ad 1), .ref (ad 4), .ref (ad 7), .ref (ad 10), .ref (ad 13), .ref (ad 21), .ref (ad 31), .ref (ad 34), .int (f 8), .int (f 9), .long (g 10), .long (g 11)])
  | 1 => .inr (3, [.ref (ad 2), .ref (ad 3), .int (f 2)])
  | 4 => .inr (3, [.ref (ad 5), .ref (ad 6), .int (f 2)])
  | 7 => .inr (3, [.ref (ad 8), .ref (ad 9), .int (f 2)])
  | 10 => .inr (2, [.ref (ad 11), .ref (ad 12), .int (f 2)])
  | 13 => .inr (1, [.ref (ad 14), .ref (ad 15), .ref (ad 16), .ref (ad 17), .ref (ad 18), .ref (ad 19), .ref (ad 20), .int (f 7), .int (f 8), .int (f 9)])
  | 21 => .inr (4, [.ref (ad 22), .ref (ad 23), .int (f 2), .int (f 3), .int (f 4), .int (f 5), .int (f 6), .int (f 7)])
  | 31 => .inr (0, [.ref (ad 32), .ref (ad 33)])
  | _ => .inl (cA, 7, .inr (.inr (.inr (.inr (fun i => if i < 7 then some (ad (24 + i)) else none)))))
def eM (ad : Nat → Nat) (cI cZ : ClassId) : Ly := fun c f g => if 0 < lnM c then .inl (cI, lnM c, .inl f) else match c with
  | 0 => .inr (6, [.ref (ad 1), .ref (ad 2), .ref (ad 3), .ref (ad 4), .int (f 4), .ref (ad 5), .ref (ad 6), .ref (ad 7), .ref (ad 8), .int (f 9), .ref (ad 9), .ref (ad 10), .int (f 12), .long (g 13), .long (g 14), .int (f 15), .ref (ad 11), .int (f 17), .ref (ad 12), .ref (ad 13), .ref (ad 14), .ref (ad 15)])
  | _ => .inl (cZ, 3, .inl f)
def isKC (K : Kx) : Prop := ∃ cI cZ cA : ClassId, K.2.2.1 = eC K.2.1 cI cA ∧ K.2.2.2.1 = 35 ∧ K.2.2.2.2.1 = [(cI, .int), (cZ, .boolean), (cA, .array .int)]
def isKM (K : Kx) : Prop := ∃ cI cZ cA : ClassId, K.2.2.1 = eM K.2.1 cI cZ ∧ K.2.2.2.1 = 16 ∧ K.2.2.2.2.1 = [(cI, .int), (cZ, .boolean), (cA, .array .int)]
theorem lnC_lt {c : Nat} (h : 0 < lnC c) : c < 35 := by
  unfold lnC at h
  split at h <;> first | omega | (exact absurd h (Nat.lt_irrefl 0))
theorem lnM_lt {c : Nat} (h : 0 < lnM c) : c < 16 := by
  unfold lnM at h
  split at h <;> first | omega | (exact absurd h (Nat.lt_irrefl 0))
theorem lnC_lies {j : Nat} (h : j < 7) : lnC (24 + j) = 6 := by
  rcases (show j = 0 ∨ j = 1 ∨ j = 2 ∨ j = 3 ∨ j = 4 ∨ j = 5 ∨ j = 6 by omega) with rfl | rfl | rfl | rfl | rfl | rfl | rfl <;> rfl
def shC (c : Nat) : Prop := c = 1 ∨ c = 4 ∨ c = 7
theorem lnC_sh1 {c : Nat} (h : shC c) : 0 < lnC (c + 1) := by
  rcases h with rfl | rfl | rfl <;> decide
theorem lnC_sh2 {c : Nat} (h : shC c) : 0 < lnC (c + 2) := by
  rcases h with rfl | rfl | rfl <;> decide
section LY
variable {K : Kx}
theorem qAC (h : isKC K) {c : Nat} (hc : 0 < lnC c) : kI K c (lnC c) := by
  obtain ⟨cI, cZ, cA, h1, h2, h3⟩ := h
  refine ⟨by rw [h2]; exact lnC_lt hc, cI, 0, by rw [h3]; rfl, fun f g => ?_⟩
  rw [h1]
  exact if_pos hc
theorem qAM (h : isKM K) {c : Nat} (hc : 0 < lnM c) : kI K c (lnM c) := by
  obtain ⟨cI, cZ, cA, h1, h2, h3⟩ := h
  refine ⟨by rw [h2]; exact lnM_lt hc, cI, 0, by rw [h3]; rfl, fun f g => ?_⟩
  rw [h1]
  exact if_pos hc
theorem qA_lies (h : isKC K) {j : Nat} (hj : j < 7) : kI K (24 + j) 6 := by
  have h1 := qAC h (c := 24 + j) (by rw [lnC_lies hj]; decide)
  rw [lnC_lies hj] at h1
  exact h1
theorem qZM_10 (h : isKM K) : kZ K 10 3 := by
  obtain ⟨cI, cZ, cA, h1, h2, h3⟩ := h
  refine ⟨by rw [h2]; decide, cZ, 1, by rw [h3]; rfl, fun f g => ?_⟩
  rw [h1]
  rfl
theorem qRC_22 (h : isKC K) : kR K 22 7 24 := by
  obtain ⟨cI, cZ, cA, h1, h2, h3⟩ := h
  refine ⟨by rw [h2]; decide, cA, 2, by rw [h3]; rfl, fun f g => ?_⟩
  rw [h1]
  rfl
theorem qAC_2 (h : isKC K) : kI K 2 240 := qAC h (c := 2) (by decide)
theorem qAC_3 (h : isKC K) : kI K 3 6 := qAC h (c := 3) (by decide)
theorem qAC_5 (h : isKC K) : kI K 5 240 := qAC h (c := 5) (by decide)
theorem qAC_6 (h : isKC K) : kI K 6 4 := qAC h (c := 6) (by decide)
theorem qAC_8 (h : isKC K) : kI K 8 120 := qAC h (c := 8) (by decide)
theorem qAC_9 (h : isKC K) : kI K 9 3 := qAC h (c := 9) (by decide)
theorem qAC_11 (h : isKC K) : kI K 11 6 := qAC h (c := 11) (by decide)
theorem qAC_12 (h : isKC K) : kI K 12 18 := qAC h (c := 12) (by decide)
theorem qAC_14 (h : isKC K) : kI K 14 6 := qAC h (c := 14) (by decide)
theorem qAC_15 (h : isKC K) : kI K 15 18 := qAC h (c := 15) (by decide)
theorem qAC_16 (h : isKC K) : kI K 16 18 := qAC h (c := 16) (by decide)
theorem qAC_17 (h : isKC K) : kI K 17 6 := qAC h (c := 17) (by decide)
theorem qAC_18 (h : isKC K) : kI K 18 6 := qAC h (c := 18) (by decide)
theorem qAC_19 (h : isKC K) : kI K 19 6 := qAC h (c := 19) (by decide)
theorem qAC_20 (h : isKC K) : kI K 20 40 := qAC h (c := 20) (by decide)
theorem qAC_23 (h : isKC K) : kI K 23 5 := qAC h (c := 23) (by decide)
theorem qAC_24 (h : isKC K) : kI K 24 6 := qAC h (c := 24) (by decide)
theorem qAC_25 (h : isKC K) : kI K 25 6 := qAC h (c := 25) (by decide)
theorem qAC_26 (h : isKC K) : kI K 26 6 := qAC h (c := 26) (by decide)
theorem qAC_27 (h : isKC K) : kI K 27 6 := qAC h (c := 27) (by decide)
theorem qAC_28 (h : isKC K) : kI K 28 6 := qAC h (c := 28) (by decide)
theorem qAC_29 (h : isKC K) : kI K 29 6 := qAC h (c := 29) (by decide)
theorem qAC_30 (h : isKC K) : kI K 30 6 := qAC h (c := 30) (by decide)
theorem qAC_32 (h : isKC K) : kI K 32 3 := qAC h (c := 32) (by decide)
theorem qAC_33 (h : isKC K) : kI K 33 11 := qAC h (c := 33) (by decide)
theorem qAC_34 (h : isKC K) : kI K 34 6 := qAC h (c := 34) (by decide)
theorem qAM_1 (h : isKM K) : kI K 1 6 := qAM h (c := 1) (by decide)
theorem qAM_2 (h : isKM K) : kI K 2 240 := qAM h (c := 2) (by decide)
theorem qAM_3 (h : isKM K) : kI K 3 4 := qAM h (c := 3) (by decide)
theorem qAM_4 (h : isKM K) : kI K 4 240 := qAM h (c := 4) (by decide)
theorem qAM_5 (h : isKM K) : kI K 5 6 := qAM h (c := 5) (by decide)
theorem qAM_6 (h : isKM K) : kI K 6 25 := qAM h (c := 6) (by decide)
theorem qAM_7 (h : isKM K) : kI K 7 25 := qAM h (c := 7) (by decide)
theorem qAM_8 (h : isKM K) : kI K 8 1000 := qAM h (c := 8) (by decide)
theorem qAM_9 (h : isKM K) : kI K 9 3078 := qAM h (c := 9) (by decide)
theorem qAM_11 (h : isKM K) : kI K 11 6 := qAM h (c := 11) (by decide)
theorem qAM_12 (h : isKM K) : kI K 12 6 := qAM h (c := 12) (by decide)
theorem qAM_13 (h : isKM K) : kI K 13 18 := qAM h (c := 13) (by decide)
theorem qAM_14 (h : isKM K) : kI K 14 6 := qAM h (c := 14) (by decide)
theorem qAM_15 (h : isKM K) : kI K 15 4096 := qAM h (c := 15) (by decide)
theorem qO_X0 (h : isKC K) : kO K 31 0 := by
  obtain ⟨cI, cZ, cA, h1, h2, h3⟩ := h
  (refine ⟨by rw [h2]; decide, fun f g => ?_⟩; rw [h1]; exact ⟨_, rfl⟩)
theorem qF_X0_0 (h : isKC K) : kfR K 31 0 0 32 := by
  obtain ⟨cI, cZ, cA, h1, h2, h3⟩ := h
  (refine ⟨by rw [h2]; decide, fun f g => ?_⟩; rw [h1]; exact ⟨_, rfl, rfl⟩)
theorem qF_X0_1 (h : isKC K) : kfR K 31 0 1 33 := by
  obtain ⟨cI, cZ, cA, h1, h2, h3⟩ := h
  (refine ⟨by rw [h2]; decide, fun f g => ?_⟩; rw [h1]; exact ⟨_, rfl, rfl⟩)
theorem qO_X1 (h : isKC K) : kO K 13 1 := by
  obtain ⟨cI, cZ, cA, h1, h2, h3⟩ := h
  (refine ⟨by rw [h2]; decide, fun f g => ?_⟩; rw [h1]; exact ⟨_, rfl⟩)
theorem qF_X1_0 (h : isKC K) : kfR K 13 1 0 14 := by
  obtain ⟨cI, cZ, cA, h1, h2, h3⟩ := h
  (refine ⟨by rw [h2]; decide, fun f g => ?_⟩; rw [h1]; exact ⟨_, rfl, rfl⟩)
theorem qF_X1_1 (h : isKC K) : kfR K 13 1 1 15 := by
  obtain ⟨cI, cZ, cA, h1, h2, h3⟩ := h
  (refine ⟨by rw [h2]; decide, fun f g => ?_⟩; rw [h1]; exact ⟨_, rfl, rfl⟩)
theorem qF_X1_2 (h : isKC K) : kfR K 13 1 2 16 := by
  obtain ⟨cI, cZ, cA, h1, h2, h3⟩ := h
  (refine ⟨by rw [h2]; decide, fun f g => ?_⟩; rw [h1]; exact ⟨_, rfl, rfl⟩)
theorem qF_X1_3 (h : isKC K) : kfR K 13 1 3 17 := by
  obtain ⟨cI, cZ, cA, h1, h2, h3⟩ := h
  (refine ⟨by rw [h2]; decide, fun f g => ?_⟩; rw [h1]; exact ⟨_, rfl, rfl⟩)
theorem qF_X1_4 (h : isKC K) : kfR K 13 1 4 18 := by
  obtain ⟨cI, cZ, cA, h1, h2, h3⟩ := h
  (refine ⟨by rw [h2]; decide, fun f g => ?_⟩; rw [h1]; exact ⟨_, rfl, rfl⟩)
theorem qF_X1_5 (h : isKC K) : kfR K 13 1 5 19 := by
  obtain ⟨cI, cZ, cA, h1, h2, h3⟩ := h
  (refine ⟨by rw [h2]; decide, fun f g => ?_⟩; rw [h1]; exact ⟨_, rfl, rfl⟩)
theorem qF_X1_6 (h : isKC K) : kfR K 13 1 6 20 := by
  obtain ⟨cI, cZ, cA, h1, h2, h3⟩ := h
  (refine ⟨by rw [h2]; decide, fun f g => ?_⟩; rw [h1]; exact ⟨_, rfl, rfl⟩)
theorem qF_X1_7 (h : isKC K) : kfI K 13 1 7 := by
  obtain ⟨cI, cZ, cA, h1, h2, h3⟩ := h
  (refine ⟨by rw [h2]; decide, fun f g => ?_⟩; rw [h1]; exact ⟨_, rfl, rfl, Nat.le_of_ble_eq_true rfl, fun _ => rfl⟩)
theorem qF_X1_8 (h : isKC K) : kfI K 13 1 8 := by
  obtain ⟨cI, cZ, cA, h1, h2, h3⟩ := h
  (refine ⟨by rw [h2]; decide, fun f g => ?_⟩; rw [h1]; exact ⟨_, rfl, rfl, Nat.le_of_ble_eq_true rfl, fun _ => rfl⟩)
theorem qF_X1_9 (h : isKC K) : kfI K 13 1 9 := by
  obtain ⟨cI, cZ, cA, h1, h2, h3⟩ := h
  (refine ⟨by rw [h2]; decide, fun f g => ?_⟩; rw [h1]; exact ⟨_, rfl, rfl, Nat.le_of_ble_eq_true rfl, fun _ => rfl⟩)
theorem qO_X2 (h : isKC K) : kO K 10 2 := by
  obtain ⟨cI, cZ, cA, h1, h2, h3⟩ := h
  (refine ⟨by rw [h2]; decide, fun f g => ?_⟩; rw [h1]; exact ⟨_, rfl⟩)
theorem qF_X2_0 (h : isKC K) : kfR K 10 2 0 11 := by
  obtain ⟨cI, cZ, cA, h1, h2, h3⟩ := h
  (refine ⟨by rw [h2]; decide, fun f g => ?_⟩; rw [h1]; exact ⟨_, rfl, rfl⟩)
theorem qF_X2_1 (h : isKC K) : kfR K 10 2 1 12 := by
  obtain ⟨cI, cZ, cA, h1, h2, h3⟩ := h
  (refine ⟨by rw [h2]; decide, fun f g => ?_⟩; rw [h1]; exact ⟨_, rfl, rfl⟩)
theorem qF_X2_2 (h : isKC K) : kfI K 10 2 2 := by
  obtain ⟨cI, cZ, cA, h1, h2, h3⟩ := h
  (refine ⟨by rw [h2]; decide, fun f g => ?_⟩; rw [h1]; exact ⟨_, rfl, rfl, Nat.le_of_ble_eq_true rfl, fun _ => rfl⟩)
theorem qO_X4 (h : isKC K) : kO K 21 4 := by
  obtain ⟨cI, cZ, cA, h1, h2, h3⟩ := h
  (refine ⟨by rw [h2]; decide, fun f g => ?_⟩; rw [h1]; exact ⟨_, rfl⟩)
theorem qF_X4_0 (h : isKC K) : kfR K 21 4 0 22 := by
  obtain ⟨cI, cZ, cA, h1, h2, h3⟩ := h
  (refine ⟨by rw [h2]; decide, fun f g => ?_⟩; rw [h1]; exact ⟨_, rfl, rfl⟩)
theorem qF_X4_1 (h : isKC K) : kfR K 21 4 1 23 := by
  obtain ⟨cI, cZ, cA, h1, h2, h3⟩ := h
  (refine ⟨by rw [h2]; decide, fun f g => ?_⟩; rw [h1]; exact ⟨_, rfl, rfl⟩)
theorem qF_X4_2 (h : isKC K) : kfI K 21 4 2 := by
  obtain ⟨cI, cZ, cA, h1, h2, h3⟩ := h
  (refine ⟨by rw [h2]; decide, fun f g => ?_⟩; rw [h1]; exact ⟨_, rfl, rfl, Nat.le_of_ble_eq_true rfl, fun _ => rfl⟩)
theorem qF_X4_3 (h : isKC K) : kfI K 21 4 3 := by
  obtain ⟨cI, cZ, cA, h1, h2, h3⟩ := h
  (refine ⟨by rw [h2]; decide, fun f g => ?_⟩; rw [h1]; exact ⟨_, rfl, rfl, Nat.le_of_ble_eq_true rfl, fun _ => rfl⟩)
theorem qF_X4_4 (h : isKC K) : kfI K 21 4 4 := by
  obtain ⟨cI, cZ, cA, h1, h2, h3⟩ := h
  (refine ⟨by rw [h2]; decide, fun f g => ?_⟩; rw [h1]; exact ⟨_, rfl, rfl, Nat.le_of_ble_eq_true rfl, fun _ => rfl⟩)
theorem qF_X4_5 (h : isKC K) : kfI K 21 4 5 := by
  obtain ⟨cI, cZ, cA, h1, h2, h3⟩ := h
  (refine ⟨by rw [h2]; decide, fun f g => ?_⟩; rw [h1]; exact ⟨_, rfl, rfl, Nat.le_of_ble_eq_true rfl, fun _ => rfl⟩)
theorem qF_X4_6 (h : isKC K) : kfI K 21 4 6 := by
  obtain ⟨cI, cZ, cA, h1, h2, h3⟩ := h
  (refine ⟨by rw [h2]; decide, fun f g => ?_⟩; rw [h1]; exact ⟨_, rfl, rfl, Nat.le_of_ble_eq_true rfl, fun _ => rfl⟩)
theorem qF_X4_7 (h : isKC K) : kfI K 21 4 7 := by
  obtain ⟨cI, cZ, cA, h1, h2, h3⟩ := h
  (refine ⟨by rw [h2]; decide, fun f g => ?_⟩; rw [h1]; exact ⟨_, rfl, rfl, Nat.le_of_ble_eq_true rfl, fun _ => rfl⟩)
theorem qO_X5 (h : isKC K) : kO K 0 5 := by
  obtain ⟨cI, cZ, cA, h1, h2, h3⟩ := h
  (refine ⟨by rw [h2]; decide, fun f g => ?_⟩; rw [h1]; exact ⟨_, rfl⟩)
theorem qF_X5_0 (h : isKC K) : kfR K 0 5 0 1 := by
  obtain ⟨cI, cZ, cA, h1, h2, h3⟩ := h
  (refine ⟨by rw [h2]; decide, fun f g => ?_⟩; rw [h1]; exact ⟨_, rfl, rfl⟩)
theorem qF_X5_1 (h : isKC K) : kfR K 0 5 1 4 := by
  obtain ⟨cI, cZ, cA, h1, h2, h3⟩ := h
  (refine ⟨by rw [h2]; decide, fun f g => ?_⟩; rw [h1]; exact ⟨_, rfl, rfl⟩)
theorem qF_X5_2 (h : isKC K) : kfR K 0 5 2 7 := by
  obtain ⟨cI, cZ, cA, h1, h2, h3⟩ := h
  (refine ⟨by rw [h2]; decide, fun f g => ?_⟩; rw [h1]; exact ⟨_, rfl, rfl⟩)
theorem qF_X5_3 (h : isKC K) : kfR K 0 5 3 10 := by
  obtain ⟨cI, cZ, cA, h1, h2, h3⟩ := h
  (refine ⟨by rw [h2]; decide, fun f g => ?_⟩; rw [h1]; exact ⟨_, rfl, rfl⟩)
theorem qF_X5_4 (h : isKC K) : kfR K 0 5 4 13 := by
  obtain ⟨cI, cZ, cA, h1, h2, h3⟩ := h
  (refine ⟨by rw [h2]; decide, fun f g => ?_⟩; rw [h1]; exact ⟨_, rfl, rfl⟩)
theorem qF_X5_5 (h : isKC K) : kfR K 0 5 5 21 := by
  obtain ⟨cI, cZ, cA, h1, h2, h3⟩ := h
  (refine ⟨by rw [h2]; decide, fun f g => ?_⟩; rw [h1]; exact ⟨_, rfl, rfl⟩)
theorem qF_X5_6 (h : isKC K) : kfR K 0 5 6 31 := by
  obtain ⟨cI, cZ, cA, h1, h2, h3⟩ := h
  (refine ⟨by rw [h2]; decide, fun f g => ?_⟩; rw [h1]; exact ⟨_, rfl, rfl⟩)
theorem qF_X5_7 (h : isKC K) : kfR K 0 5 7 34 := by
  obtain ⟨cI, cZ, cA, h1, h2, h3⟩ := h
  (refine ⟨by rw [h2]; decide, fun f g => ?_⟩; rw [h1]; exact ⟨_, rfl, rfl⟩)
theorem qF_X5_8 (h : isKC K) : kfI K 0 5 8 := by
  obtain ⟨cI, cZ, cA, h1, h2, h3⟩ := h
  (refine ⟨by rw [h2]; decide, fun f g => ?_⟩; rw [h1]; exact ⟨_, rfl, rfl, Nat.le_of_ble_eq_true rfl, fun _ => rfl⟩)
theorem qF_X5_9 (h : isKC K) : kfI K 0 5 9 := by
  obtain ⟨cI, cZ, cA, h1, h2, h3⟩ := h
  (refine ⟨by rw [h2]; decide, fun f g => ?_⟩; rw [h1]; exact ⟨_, rfl, rfl, Nat.le_of_ble_eq_true rfl, fun _ => rfl⟩)
theorem qF_X5_10 (h : isKC K) : kfL K 0 5 10 := by
  obtain ⟨cI, cZ, cA, h1, h2, h3⟩ := h
  (refine ⟨by rw [h2]; decide, fun f g => ?_⟩; rw [h1]; exact ⟨_, rfl, rfl, Nat.le_of_ble_eq_true rfl, fun _ => rfl⟩)
theorem qF_X5_11 (h : isKC K) : kfL K 0 5 11 := by
  obtain ⟨cI, cZ, cA, h1, h2, h3⟩ := h
  (refine ⟨by rw [h2]; decide, fun f g => ?_⟩; rw [h1]; exact ⟨_, rfl, rfl, Nat.le_of_ble_eq_true rfl, fun _ => rfl⟩)
theorem qO_X6 (h : isKM K) : kO K 0 6 := by
  obtain ⟨cI, cZ, cA, h1, h2, h3⟩ := h
  (refine ⟨by rw [h2]; decide, fun f g => ?_⟩; rw [h1]; exact ⟨_, rfl⟩)
theorem qF_X6_0 (h : isKM K) : kfR K 0 6 0 1 := by
  obtain ⟨cI, cZ, cA, h1, h2, h3⟩ := h
  (refine ⟨by rw [h2]; decide, fun f g => ?_⟩; rw [h1]; exact ⟨_, rfl, rfl⟩)
theorem qF_X6_1 (h : isKM K) : kfR K 0 6 1 2 := by
  obtain ⟨cI, cZ, cA, h1, h2, h3⟩ := h
  (refine ⟨by rw [h2]; decide, fun f g => ?_⟩; rw [h1]; exact ⟨_, rfl, rfl⟩)
theorem qF_X6_2 (h : isKM K) : kfR K 0 6 2 3 := by
  obtain ⟨cI, cZ, cA, h1, h2, h3⟩ := h
  (refine ⟨by rw [h2]; decide, fun f g => ?_⟩; rw [h1]; exact ⟨_, rfl, rfl⟩)
theorem qF_X6_3 (h : isKM K) : kfR K 0 6 3 4 := by
  obtain ⟨cI, cZ, cA, h1, h2, h3⟩ := h
  (refine ⟨by rw [h2]; decide, fun f g => ?_⟩; rw [h1]; exact ⟨_, rfl, rfl⟩)
theorem qF_X6_4 (h : isKM K) : kfI K 0 6 4 := by
  obtain ⟨cI, cZ, cA, h1, h2, h3⟩ := h
  (refine ⟨by rw [h2]; decide, fun f g => ?_⟩; rw [h1]; exact ⟨_, rfl, rfl, Nat.le_of_ble_eq_true rfl, fun _ => rfl⟩)
theorem qF_X6_5 (h : isKM K) : kfR K 0 6 5 5 := by
  obtain ⟨cI, cZ, cA, h1, h2, h3⟩ := h
  (refine ⟨by rw [h2]; decide, fun f g => ?_⟩; rw [h1]; exact ⟨_, rfl, rfl⟩)
theorem qF_X6_6 (h : isKM K) : kfR K 0 6 6 6 := by
  obtain ⟨cI, cZ, cA, h1, h2, h3⟩ := h
  (refine ⟨by rw [h2]; decide, fun f g => ?_⟩; rw [h1]; exact ⟨_, rfl, rfl⟩)
theorem qF_X6_7 (h : isKM K) : kfR K 0 6 7 7 := by
  obtain ⟨cI, cZ, cA, h1, h2, h3⟩ := h
  (refine ⟨by rw [h2]; decide, fun f g => ?_⟩; rw [h1]; exact ⟨_, rfl, rfl⟩)
theorem qF_X6_8 (h : isKM K) : kfR K 0 6 8 8 := by
  obtain ⟨cI, cZ, cA, h1, h2, h3⟩ := h
  (refine ⟨by rw [h2]; decide, fun f g => ?_⟩; rw [h1]; exact ⟨_, rfl, rfl⟩)
theorem qF_X6_9 (h : isKM K) : kfI K 0 6 9 := by
  obtain ⟨cI, cZ, cA, h1, h2, h3⟩ := h
  (refine ⟨by rw [h2]; decide, fun f g => ?_⟩; rw [h1]; exact ⟨_, rfl, rfl, Nat.le_of_ble_eq_true rfl, fun _ => rfl⟩)
theorem qF_X6_10 (h : isKM K) : kfR K 0 6 10 9 := by
  obtain ⟨cI, cZ, cA, h1, h2, h3⟩ := h
  (refine ⟨by rw [h2]; decide, fun f g => ?_⟩; rw [h1]; exact ⟨_, rfl, rfl⟩)
theorem qF_X6_11 (h : isKM K) : kfR K 0 6 11 10 := by
  obtain ⟨cI, cZ, cA, h1, h2, h3⟩ := h
  (refine ⟨by rw [h2]; decide, fun f g => ?_⟩; rw [h1]; exact ⟨_, rfl, rfl⟩)
theorem qF_X6_12 (h : isKM K) : kfI K 0 6 12 := by
  obtain ⟨cI, cZ, cA, h1, h2, h3⟩ := h
  (refine ⟨by rw [h2]; decide, fun f g => ?_⟩; rw [h1]; exact ⟨_, rfl, rfl, Nat.le_of_ble_eq_true rfl, fun _ => rfl⟩)
theorem qF_X6_13 (h : isKM K) : kfL K 0 6 13 := by
  obtain ⟨cI, cZ, cA, h1, h2, h3⟩ := h
  (refine ⟨by rw [h2]; decide, fun f g => ?_⟩; rw [h1]; exact ⟨_, rfl, rfl, Nat.le_of_ble_eq_true rfl, fun _ => rfl⟩)
theorem qF_X6_14 (h : isKM K) : kfL K 0 6 14 := by
  obtain ⟨cI, cZ, cA, h1, h2, h3⟩ := h
  (refine ⟨by rw [h2]; decide, fun f g => ?_⟩; rw [h1]; exact ⟨_, rfl, rfl, Nat.le_of_ble_eq_true rfl, fun _ => rfl⟩)
theorem qF_X6_15 (h : isKM K) : kfI K 0 6 15 := by
  obtain ⟨cI, cZ, cA, h1, h2, h3⟩ := h
  (refine ⟨by rw [h2]; decide, fun f g => ?_⟩; rw [h1]; exact ⟨_, rfl, rfl, Nat.le_of_ble_eq_true rfl, fun _ => rfl⟩)
theorem qF_X6_16 (h : isKM K) : kfR K 0 6 16 11 := by
  obtain ⟨cI, cZ, cA, h1, h2, h3⟩ := h
  (refine ⟨by rw [h2]; decide, fun f g => ?_⟩; rw [h1]; exact ⟨_, rfl, rfl⟩)
theorem qF_X6_17 (h : isKM K) : kfI K 0 6 17 := by
  obtain ⟨cI, cZ, cA, h1, h2, h3⟩ := h
  (refine ⟨by rw [h2]; decide, fun f g => ?_⟩; rw [h1]; exact ⟨_, rfl, rfl, Nat.le_of_ble_eq_true rfl, fun _ => rfl⟩)
theorem qF_X6_18 (h : isKM K) : kfR K 0 6 18 12 := by
  obtain ⟨cI, cZ, cA, h1, h2, h3⟩ := h
  (refine ⟨by rw [h2]; decide, fun f g => ?_⟩; rw [h1]; exact ⟨_, rfl, rfl⟩)
theorem qF_X6_19 (h : isKM K) : kfR K 0 6 19 13 := by
  obtain ⟨cI, cZ, cA, h1, h2, h3⟩ := h
  (refine ⟨by rw [h2]; decide, fun f g => ?_⟩; rw [h1]; exact ⟨_, rfl, rfl⟩)
theorem qF_X6_20 (h : isKM K) : kfR K 0 6 20 14 := by
  obtain ⟨cI, cZ, cA, h1, h2, h3⟩ := h
  (refine ⟨by rw [h2]; decide, fun f g => ?_⟩; rw [h1]; exact ⟨_, rfl, rfl⟩)
theorem qF_X6_21 (h : isKM K) : kfR K 0 6 21 15 := by
  obtain ⟨cI, cZ, cA, h1, h2, h3⟩ := h
  (refine ⟨by rw [h2]; decide, fun f g => ?_⟩; rw [h1]; exact ⟨_, rfl, rfl⟩)
theorem qO_X3 (h : isKC K) {c : Nat} (hc : shC c) : kO K c 3 := by
  obtain ⟨cI, cZ, cA, h1, h2, h3⟩ := h
  rcases hc with rfl | rfl | rfl <;>
    (refine ⟨by rw [h2]; decide, fun f g => ?_⟩; rw [h1]; exact ⟨_, rfl⟩)
theorem qF_X3_0 (h : isKC K) {c : Nat} (hc : shC c) : kfR K c 3 0 (c + 1) := by
  obtain ⟨cI, cZ, cA, h1, h2, h3⟩ := h
  rcases hc with rfl | rfl | rfl <;>
    (refine ⟨by rw [h2]; decide, fun f g => ?_⟩; rw [h1]; exact ⟨_, rfl, rfl⟩)
theorem qF_X3_1 (h : isKC K) {c : Nat} (hc : shC c) : kfR K c 3 1 (c + 2) := by
  obtain ⟨cI, cZ, cA, h1, h2, h3⟩ := h
  rcases hc with rfl | rfl | rfl <;>
    (refine ⟨by rw [h2]; decide, fun f g => ?_⟩; rw [h1]; exact ⟨_, rfl, rfl⟩)
theorem qF_X3_2 (h : isKC K) {c : Nat} (hc : shC c) : kfI K c 3 2 := by
  obtain ⟨cI, cZ, cA, h1, h2, h3⟩ := h
  rcases hc with rfl | rfl | rfl <;>
    (refine ⟨by rw [h2]; decide, fun f g => ?_⟩; rw [h1]; exact ⟨_, rfl, rfl, Nat.le_of_ble_eq_true rfl, fun _ => rfl⟩)
end LY
theorem cl_X0 : clOK 0 RX0 TX0 2 tyX0 := ⟨rfl, by decide +kernel, tyX0_ok, nmX0⟩
theorem cl_X1 : clOK 1 RX1 TX1 10 tyX1 := ⟨rfl, by decide +kernel, tyX1_ok, nmX1⟩
theorem cl_X2 : clOK 2 RX2 TX2 3 tyX2 := ⟨rfl, by decide +kernel, tyX2_ok, nmX2⟩
theorem cl_X3 : clOK 3 RX3 TX3 3 tyX3 := ⟨rfl, by decide +kernel, tyX3_ok, nmX3⟩
theorem cl_X4 : clOK 4 RX4 TX4 8 tyX4 := ⟨rfl, by decide +kernel, tyX4_ok, nmX4⟩
theorem cl_X5 : clOK 5 RX5 TX5 12 tyX5 := ⟨rfl, by decide +kernel, tyX5_ok, nmX5⟩
theorem cl_X6 : clOK 6 RX6 TX6 22 tyX6 := ⟨rfl, by decide +kernel, tyX6_ok, nmX6⟩
theorem FU_x : ∃ n : Nat, n = 5000 := ⟨5000, rfl⟩
noncomputable def FU : Nat := Classical.choose FU_x
theorem FU_e : FU = 5000 := Classical.choose_spec FU_x
theorem sh_1 : shC 1 := by unfold shC; omega
theorem sh_4 : shC 4 := by unfold shC; omega
theorem sh_7 : shC 7 := by unfold shC; omega
