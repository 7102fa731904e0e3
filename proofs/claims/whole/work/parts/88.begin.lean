/-! the two objects, made -/
def adC (q : Nat) (r : Nat → Nat) : Nat → Nat := fun c => if c = 0 then q else if c ≤ 23 then r (c - 1) else if c ≤ 30 then r (c + 3) else r (c - 8)
def adM (q : Nat) (r : Nat → Nat) : Nat → Nat := fun c => if c = 0 then q else r (c - 1)
abbrev KCx (D : va_G) (cI cZ cA : ClassId) (aL aW q : Nat) (r : Nat → Nat) : Kx := (D, adC q r, eC (adC q r) cI cA, 35, [(cI, .int), (cZ, .boolean), (cA, .array .int)], aL, aW)
abbrev KMx (D : va_G) (cI cZ cA : ClassId) (aL aW q : Nat) (r : Nat → Nat) : Kx := (D, adM q r, eM (adM q r) cI cZ, 16, [(cI, .int), (cZ, .boolean), (cA, .array .int)], aL, aW)
theorem isKCx (D : va_G) (cI cZ cA : ClassId) (aL aW q : Nat) (r : Nat → Nat) : isKC (KCx D cI cZ cA aL aW q r) := ⟨cI, cZ, cA, rfl, rfl, rfl⟩
theorem isKMx (D : va_G) (cI cZ cA : ClassId) (aL aW q : Nat) (r : Nat → Nat) : isKM (KMx D cI cZ cA aL aW q r) := ⟨cI, cZ, cA, rfl, rfl, rfl⟩
theorem r35 : List.range 35 = [0, 1, 2, 3, 4, 5, 6, 7, 8, 9, 10, 11, 12, 13, 14, 15, 16, 17, 18, 19, 20, 21, 22, 23, 24, 25, 26, 27, 28, 29, 30, 31, 32, 33, 34] := by decide +kernel
theorem r16 : List.range 16 = [0, 1, 2, 3, 4, 5, 6, 7, 8, 9, 10, 11, 12, 13, 14, 15] := by decide +kernel
theorem adF (q : Nat) (r : Nat → Nat) : (fun i => if i < 7 then some (r (i + 27)) else none) = (fun i => if i < 7 then some (adC q r (24 + i)) else none) := by
  funext i
  by_cases h : i < 7
  · rw [if_pos h, if_pos h]
    unfold adC
    rw [if_neg (by omega), if_neg (by omega), if_pos (by omega), show 24 + i + 3 = i + 27 by omega]
  · rw [if_neg h, if_neg h]
set_option maxHeartbeats 4000000 in
set_option maxRecDepth 100000 in
theorem wC_eqF (D : va_G) (cI cZ cA : ClassId) (aL aW q : Nat) (r : Nat → Nat) (F : Nat → Option Nat) (hF : F = (fun i => if i < 7 then some (adC q r (24 + i)) else none)) : ([(q, .inr (5, [.ref (r 0), .ref (r 3), .ref (r 6), .ref (r 9), .ref (r 12), .ref (r 20), .ref (r 23), .ref (r 26), .int 0, .int 0, .long 0, .long 1])), ((r 0), .inr (3, [.ref (r 1), .ref (r 2), .int (nI 40)])), ((r 1), .inl (cI, 6 * 40, .inl (fun _ => 0))), ((r 2), .inl (cI, 6, .inl (fun j => if j < 6 then -1 else 0))), ((r 3), .inr (3, [.ref (r 4), .ref (r 5), .int (nI 60)])), ((r 4), .inl (cI, 4 * 60, .inl (fun _ => 0))), ((r 5), .inl (cI, 4, .inl (fun j => if j < 4 then -1 else 0))), ((r 6), .inr (3, [.ref (r 7), .ref (r 8), .int (nI 40)])), ((r 7), .inl (cI, 3 * 40, .inl (fun _ => 0))), ((r 8), .inl (cI, 3, .inl (fun j => if j < 3 then -1 else 0))), ((r 9), .inr (2, [.ref (r 10), .ref (r 11), .int 0])), ((r 10), .inl (cI, 6, .inl (fun _ => 0))), ((r 11), .inl (cI, 18, .inl (fun _ => 0))), ((r 12), .inr (1, [.ref (r 13), .ref (r 14), .ref (r 15), .ref (r 16), .ref (r 17), .ref (r 18), .ref (r 19), .int 0, .int 0, .int 0])), ((r 13), .inl (cI, 6, .inl (fun _ => 0))), ((r 14), .inl (cI, 18, .inl (fun _ => 0))), ((r 15), .inl (cI, 18, .inl (fun _ => 0))), ((r 16), .inl (cI, 6, .inl (fun _ => 0))), ((r 17), .inl (cI, 6, .inl (fun _ => 0))), ((r 18), .inl (cI, 6, .inl (fun _ => 0))), ((r 19), .inl (cI, 40, .inl (fun _ => 0))), ((r 20), .inr (4, [.ref (r 21), .ref (r 22), .int 0, .int 0, .int 0, .int 0, .int 0, .int 0])), ((r 21), .inl (cA, 7, .inr (.inr (.inr (.inr F))))), ((r 22), .inl (cI, 5, .inl (fun _ => 0))), ((r (27)), .inl (cI, 6, .inl (fun _ => 0))), ((r (28)), .inl (cI, 6, .inl (fun _ => 0))), ((r (29)), .inl (cI, 6, .inl (fun _ => 0))), ((r (30)), .inl (cI, 6, .inl (fun _ => 0))), ((r (31)), .inl (cI, 6, .inl (fun _ => 0))), ((r (32)), .inl (cI, 6, .inl (fun _ => 0))), ((r (33)), .inl (cI, 6, .inl (fun _ => 0))), ((r 23), .inr (0, [.ref (r 24), .ref (r 25)])), ((r 24), .inl (cI, 3, .inl (fun _ => 0))), ((r 25), .inl (cI, 11, .inl (fun _ => 0))), ((r 26), .inl (cI, 6, .inl (fun _ => 0)))] : va_W) = kwl (KCx D cI cZ cA aL aW q r) s0C := by
  subst hF
  unfold kwl
  rw [r35]
  rfl
set_option maxHeartbeats 4000000 in
set_option maxRecDepth 100000 in
theorem wM_eq (D : va_G) (cI cZ cA : ClassId) (aL aW q : Nat) (r : Nat → Nat) : ([(q, .inr (6, [.ref (r 0), .ref (r 1), .ref (r 2), .ref (r 3), .int 0, .ref (r 4), .ref (r 5), .ref (r 6), .ref (r 7), .int 0, .ref (r 8), .ref (r 9), .int 0, .long 0, .long 1, .int 0, .ref (r 10), .int 0, .ref (r 11), .ref (r 12), .ref (r 13), .ref (r 14)])), ((r 0), .inl (cI, 6, .inl (fun j => if j < 6 then -1 else 0))), ((r 1), .inl (cI, 240, .inl (fun _ => 0))), ((r 2), .inl (cI, 4, .inl (fun j => if j < 4 then -1 else 0))), ((r 3), .inl (cI, 240, .inl (fun _ => 0))), ((r 4), .inl (cI, 6, .inl (fun _ => 0))), ((r 5), .inl (cI, 25, .inl (fun _ => 0))), ((r 6), .inl (cI, 25, .inl (fun _ => 0))), ((r 7), .inl (cI, 1000, .inl (fun _ => 0))), ((r 8), .inl (cI, 3078, .inl (fun _ => 0))), ((r 9), .inl (cZ, 3, .inl (fun _ => 0))), ((r 10), .inl (cI, 6, .inl (fun _ => 0))), ((r 11), .inl (cI, 6, .inl (fun _ => 0))), ((r 12), .inl (cI, 18, .inl (fun _ => 0))), ((r 13), .inl (cI, 6, .inl (fun _ => 0))), ((r 14), .inl (cI, 4096, .inl (fun _ => 0)))] : va_W) = kwl (KMx D cI cZ cA aL aW q r) s0M := by
  unfold kwl
  rw [r16]
  rfl
theorem kn_L5 : Cond.classLink RL 7 RX5 ∈ lw_tbl := List.mem_of_getElem? (i := 93) (by decide +kernel)
theorem kn_L6 : Cond.classLink RL 10 RX6 ∈ lw_tbl := List.mem_of_getElem? (i := 748) (by decide +kernel)
theorem kl_L5 : Cond.methodLink RL 9 yX5_init ∈ lw_tbl := List.mem_of_getElem? (i := 95) (by decide +kernel)
theorem kl_L6 : Cond.methodLink RL 12 yX6_init ∈ lw_tbl := List.mem_of_getElem? (i := 750) (by decide +kernel)
theorem ks_X5_init : Cond.instanceMethod yX5_init ∈ lw_tbl := List.mem_of_getElem? (i := 96) (by decide +kernel)
theorem ks_X6_init : Cond.instanceMethod yX6_init ∈ lw_tbl := List.mem_of_getElem? (i := 751) (by decide +kernel)
theorem kc_X5_init : Cond.code yX5_init cX5_init 1 none ∈ lw_tbl := List.mem_of_getElem? (i := 97) (by decide +kernel)
theorem kc_X6_init : Cond.code yX6_init cX6_init 2 none ∈ lw_tbl := List.mem_of_getElem? (i := 752) (by decide +kernel)
theorem mi_L5 : miI yX5_init cX5_init 1 0 := ⟨kc_X5_init, ki_X5, ks_X5_init, rfl, ⟨by decide, by decide⟩, by decide +kernel⟩
theorem mi_L6 : miI yX6_init cX6_init 2 0 := ⟨kc_X6_init, ki_X6, ks_X6_init, rfl, ⟨by decide, by decide⟩, by decide +kernel⟩
set_option maxHeartbeats 4000000 in
set_option maxRecDepth 100000 in
theorem law_start {X : Gx va_W} {D : va_G} {cI cZ cA : ClassId} {b : Nat} (C : gF X cL_law RL ret 4 room_1) (Kf : wF X D cI cZ cA) (hk0 : X.2.2.2.2.2.1 = 0) (hn0 : X.2.2.2.2.2.2.1 = 0) (aL aW : Nat) (k : ∀ (q5 q6 : Nat) (r5 r6 : Nat → Nat), gG (Xc X 51 9636) (kwl (KCx D cI cZ cA aL aW q5 r5) s0C ++ kwl (KMx D cI cZ cA aL aW q6 r6) s0M) 16 [(2, .ref q6), (1, .ref q5), (0, .ref b)] []) : gG X [] 0 [(0, .ref b)] [] := by
  refine w_new C Kf (fs := [.null, .null, .null, .null, .null, .null, .null, .null, .int 0, .int 0, .long 0, .long 0]) cl_X5 (by decide) ⟨kn_L5, kt_X5, ki_X5⟩ (by rw [hk0]; show 0 + 1 ≤ 600000; omega) (by rw [hn0]; show 0 + 12 ≤ 7302250; omega) dL_law_0 (fun q5 => ?_)
  rw [hk0, hn0]
  have C1 := C.at (k := 1) (n := 12) (show 1 ≤ 600000 by omega) (show 12 ≤ 7302250 by omega)
  have Kf1 := Kf.at 1 12
  refine g_dup C1 dL_law_3 rfl ?_
  refine w_callI C1 Kf1 (wr := []) (rest := [.ref q5]) [] (mX5_init D cI cZ cA _ q5) mi_L5 kl_L5 ⟨rfl, rfl, (show 2 + 1 ≤ 2048 by omega), (show 8 + (1 + 11) + 35 ≤ 84000 by omega)⟩ rfl rfl (Nat.le_of_ble_eq_true rfl) (show 1 + 34 ≤ 600000 by omega) (show 12 + 843 ≤ 7302250 by omega) dL_law_4 (fun r5 => ?_)
  have C2 := C.at (k := 35) (n := 855) (show 35 ≤ 600000 by omega) (show 855 ≤ 7302250 by omega)
  have Kf2 := Kf.at 35 855
  refine g_astore_n C2 [(1, .ref q5), (0, .ref b)] dL_law_7 rfl (by decide) rfl ?_
  refine w_new C2 Kf2 (fs := [.null, .null, .null, .null, .int 0, .null, .null, .null, .null, .int 0, .null, .null, .int 0, .long 0, .long 0, .int 0, .null, .int 0, .null, .null, .null, .null]) cl_X6 (by decide) ⟨kn_L6, kt_X6, ki_X6⟩ (show 35 + 1 ≤ 600000 by omega) (show 855 + 22 ≤ 7302250 by omega) dL_law_8 (fun q6 => ?_)
  have C3 := C.at (k := 36) (n := 877) (show 36 ≤ 600000 by omega) (show 877 ≤ 7302250 by omega)
  have Kf3 := Kf.at 36 877
  refine g_dup C3 dL_law_11 rfl ?_
  refine w_callI C3 Kf3 (rest := [.ref q6]) [] (mX6_init D cI cZ cA _ q6) mi_L6 kl_L6 ⟨rfl, rfl, (show 1 + 1 ≤ 2048 by omega), (show 8 + (2 + 11) + 12 ≤ 84000 by omega)⟩ rfl rfl (Nat.le_of_ble_eq_true rfl) (show 36 + 15 ≤ 600000 by omega) (show 877 + 8759 ≤ 7302250 by omega) dL_law_12 (fun r6 => ?_)
  have C4 := C.at (k := 51) (n := 9636) (show 51 ≤ 600000 by omega) (show 9636 ≤ 7302250 by omega)
  refine g_astore_n C4 [(2, .ref q6), (1, .ref q5), (0, .ref b)] dL_law_15 rfl (by decide) rfl ?_
  have k1 := k q5 q6 r5 r6
  rw [← wM_eq, ← wC_eqF D cI cZ cA aL aW q5 r5 _ (adF q5 r5)] at k1
  exact k1
