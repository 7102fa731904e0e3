/-! the switch -/
section LS
variable {X : Gx (St × St)} {σ τ : St} {KC KM : Kx} {b L : Nat} {xs : Nat → Int32} {x : Int32}
theorem lsw_0 (C : gF X cL_law RL ret 4 room_1) (F : lF X KC KM b L xs) (hKC : isKC KC) (hKM : isKM KM) (h : Rel σ τ) (h1 : vp_in (x + 1) L) (h2 : vp_in (x + 2) L) (h3 : vp_in (x + 3) L) (h4 : vp_in (x + 4) L) (h5 : vp_in (x + 5) L) (k : ∀ σ τ : St, Rel σ τ → gG X (σ, τ) 1411 (LV b (KC.2.1 0) (KM.2.1 0) x) []) : gG X (σ, τ) 33 (LV b (KC.2.1 0) (KM.2.1 0) x) [.int (nI 0)] :=
  g_tabIn C (v := nI 0) (off := 175) 208 rfl dL_law_33 (by decide +kernel) (by decide +kernel) (by decide +kernel) (by decide) (lc_0 C F hKC hKM h h1 h2 h3 h4 h5 k)
theorem lsw_1 (C : gF X cL_law RL ret 4 room_1) (F : lF X KC KM b L xs) (hKC : isKC KC) (hKM : isKM KM) (h : Rel σ τ) (h1 : vp_in (x + 1) L) (h2 : vp_in (x + 2) L) (h3 : vp_in (x + 3) L) (h4 : vp_in (x + 4) L) (h5 : vp_in (x + 5) L) (k : ∀ σ τ : St, Rel σ τ → gG X (σ, τ) 1411 (LV b (KC.2.1 0) (KM.2.1 0) x) []) : gG X (σ, τ) 33 (LV b (KC.2.1 0) (KM.2.1 0) x) [.int (nI 1)] :=
  g_tabIn C (v := nI 1) (off := 208) 241 rfl dL_law_33 (by decide +kernel) (by decide +kernel) (by decide +kernel) (by decide) (lc_1 C F hKC hKM h h1 h2 h3 h4 h5 k)
theorem lsw_2 (C : gF X cL_law RL ret 4 room_1) (F : lF X KC KM b L xs) (hKC : isKC KC) (hKM : isKM KM) (h : Rel σ τ) (h1 : vp_in (x + 1) L) (h2 : vp_in (x + 2) L) (h3 : vp_in (x + 3) L) (h4 : vp_in (x + 4) L) (h5 : vp_in (x + 5) L) (k : ∀ σ τ : St, Rel σ τ → gG X (σ, τ) 1411 (LV b (KC.2.1 0) (KM.2.1 0) x) []) : gG X (σ, τ) 33 (LV b (KC.2.1 0) (KM.2.1 0) x) [.int (nI 2)] :=
  g_tabIn C (v := nI 2) (off := 251) 284 rfl dL_law_33 (by decide +kernel) (by decide +kernel) (by decide +kernel) (by decide) (lc_2 C F hKC hKM h h1 h2 h3 h4 h5 k)
theorem lsw_3 (C : gF X cL_law RL ret 4 room_1) (F : lF X KC KM b L xs) (hKC : isKC KC) (hKM : isKM KM) (h : Rel σ τ) (h1 : vp_in (x + 1) L) (h2 : vp_in (x + 2) L) (h3 : vp_in (x + 3) L) (h4 : vp_in (x + 4) L) (h5 : vp_in (x + 5) L) (k : ∀ σ τ : St, Rel σ τ → gG X (σ, τ) 1411 (LV b (KC.2.1 0) (KM.2.1 0) x) []) : gG X (σ, τ) 33 (LV b (KC.2.1 0) (KM.2.1 0) x) [.int (nI 3)] :=
  g_tabIn C (v := nI 3) (off := 284) 317 rfl dL_law_33 (by decide +kernel) (by decide +kernel) (by decide +kernel) (by decide) (lc_3 C F hKC hKM h h1 h2 h3 h4 h5 k)
theorem lsw_4 (C : gF X cL_law RL ret 4 room_1) (F : lF X KC KM b L xs) (hKC : isKC KC) (hKM : isKM KM) (h : Rel σ τ) (h1 : vp_in (x + 1) L) (h2 : vp_in (x + 2) L) (h3 : vp_in (x + 3) L) (h4 : vp_in (x + 4) L) (h5 : vp_in (x + 5) L) (k : ∀ σ τ : St, Rel σ τ → gG X (σ, τ) 1411 (LV b (KC.2.1 0) (KM.2.1 0) x) []) : gG X (σ, τ) 33 (LV b (KC.2.1 0) (KM.2.1 0) x) [.int (nI 4)] :=
  g_tabIn C (v := nI 4) (off := 307) 340 rfl dL_law_33 (by decide +kernel) (by decide +kernel) (by decide +kernel) (by decide) (lc_4 C F hKC hKM h h1 h2 h3 h4 h5 k)
theorem lsw_5 (C : gF X cL_law RL ret 4 room_1) (F : lF X KC KM b L xs) (hKC : isKC KC) (hKM : isKM KM) (h : Rel σ τ) (h1 : vp_in (x + 1) L) (h2 : vp_in (x + 2) L) (h3 : vp_in (x + 3) L) (h4 : vp_in (x + 4) L) (h5 : vp_in (x + 5) L) (k : ∀ σ τ : St, Rel σ τ → gG X (σ, τ) 1411 (LV b (KC.2.1 0) (KM.2.1 0) x) []) : gG X (σ, τ) 33 (LV b (KC.2.1 0) (KM.2.1 0) x) [.int (nI 5)] :=
  g_tabIn C (v := nI 5) (off := 370) 403 rfl dL_law_33 (by decide +kernel) (by decide +kernel) (by decide +kernel) (by decide) (lc_5 C F hKC hKM h h1 h2 h3 h4 h5 k)
theorem lsw_6 (C : gF X cL_law RL ret 4 room_1) (F : lF X KC KM b L xs) (hKC : isKC KC) (hKM : isKM KM) (h : Rel σ τ) (h1 : vp_in (x + 1) L) (h2 : vp_in (x + 2) L) (h3 : vp_in (x + 3) L) (h4 : vp_in (x + 4) L) (h5 : vp_in (x + 5) L) (k : ∀ σ τ : St, Rel σ τ → gG X (σ, τ) 1411 (LV b (KC.2.1 0) (KM.2.1 0) x) []) : gG X (σ, τ) 33 (LV b (KC.2.1 0) (KM.2.1 0) x) [.int (nI 6)] :=
  g_tabIn C (v := nI 6) (off := 393) 426 rfl dL_law_33 (by decide +kernel) (by decide +kernel) (by decide +kernel) (by decide) (lc_6 C F hKC hKM h h1 h2 h3 h4 h5 k)
theorem lsw_7 (C : gF X cL_law RL ret 4 room_1) (F : lF X KC KM b L xs) (hKC : isKC KC) (hKM : isKM KM) (h : Rel σ τ) (h1 : vp_in (x + 1) L) (h2 : vp_in (x + 2) L) (h3 : vp_in (x + 3) L) (h4 : vp_in (x + 4) L) (h5 : vp_in (x + 5) L) (k : ∀ σ τ : St, Rel σ τ → gG X (σ, τ) 1411 (LV b (KC.2.1 0) (KM.2.1 0) x) []) : gG X (σ, τ) 33 (LV b (KC.2.1 0) (KM.2.1 0) x) [.int (nI 7)] :=
  g_tabIn C (v := nI 7) (off := 426) 459 rfl dL_law_33 (by decide +kernel) (by decide +kernel) (by decide +kernel) (by decide) (lc_7 C F hKC hKM h h1 h2 h3 h4 h5 k)
theorem lsw_8 (C : gF X cL_law RL ret 4 room_1) (F : lF X KC KM b L xs) (hKC : isKC KC) (hKM : isKM KM) (h : Rel σ τ) (h1 : vp_in (x + 1) L) (h2 : vp_in (x + 2) L) (h3 : vp_in (x + 3) L) (h4 : vp_in (x + 4) L) (h5 : vp_in (x + 5) L) (k : ∀ σ τ : St, Rel σ τ → gG X (σ, τ) 1411 (LV b (KC.2.1 0) (KM.2.1 0) x) []) : gG X (σ, τ) 33 (LV b (KC.2.1 0) (KM.2.1 0) x) [.int (nI 8)] :=
  g_tabIn C (v := nI 8) (off := 469) 502 rfl dL_law_33 (by decide +kernel) (by decide +kernel) (by decide +kernel) (by decide) (lc_8 C F hKC hKM h h1 h2 h3 h4 h5 k)
theorem lsw_9 (C : gF X cL_law RL ret 4 room_1) (F : lF X KC KM b L xs) (hKC : isKC KC) (hKM : isKM KM) (h : Rel σ τ) (h1 : vp_in (x + 1) L) (h2 : vp_in (x + 2) L) (h3 : vp_in (x + 3) L) (h4 : vp_in (x + 4) L) (h5 : vp_in (x + 5) L) (k : ∀ σ τ : St, Rel σ τ → gG X (σ, τ) 1411 (LV b (KC.2.1 0) (KM.2.1 0) x) []) : gG X (σ, τ) 33 (LV b (KC.2.1 0) (KM.2.1 0) x) [.int (nI 9)] :=
  g_tabIn C (v := nI 9) (off := 492) 525 rfl dL_law_33 (by decide +kernel) (by decide +kernel) (by decide +kernel) (by decide) (lc_9 C F hKC hKM h h1 h2 h3 h4 h5 k)
theorem lsw_10 (C : gF X cL_law RL ret 4 room_1) (F : lF X KC KM b L xs) (hKC : isKC KC) (hKM : isKM KM) (h : Rel σ τ) (h1 : vp_in (x + 1) L) (h2 : vp_in (x + 2) L) (h3 : vp_in (x + 3) L) (h4 : vp_in (x + 4) L) (h5 : vp_in (x + 5) L) (k : ∀ σ τ : St, Rel σ τ → gG X (σ, τ) 1411 (LV b (KC.2.1 0) (KM.2.1 0) x) []) : gG X (σ, τ) 33 (LV b (KC.2.1 0) (KM.2.1 0) x) [.int (nI 10)] :=
  g_tabIn C (v := nI 10) (off := 515) 548 rfl dL_law_33 (by decide +kernel) (by decide +kernel) (by decide +kernel) (by decide) (lc_10 C F hKC hKM h h1 h2 h3 h4 h5 k)
theorem lsw_11 (C : gF X cL_law RL ret 4 room_1) (F : lF X KC KM b L xs) (hKC : isKC KC) (hKM : isKM KM) (h : Rel σ τ) (h1 : vp_in (x + 1) L) (h2 : vp_in (x + 2) L) (h3 : vp_in (x + 3) L) (h4 : vp_in (x + 4) L) (h5 : vp_in (x + 5) L) (k : ∀ σ τ : St, Rel σ τ → gG X (σ, τ) 1411 (LV b (KC.2.1 0) (KM.2.1 0) x) []) : gG X (σ, τ) 33 (LV b (KC.2.1 0) (KM.2.1 0) x) [.int (nI 11)] :=
  g_tabIn C (v := nI 11) (off := 548) 581 rfl dL_law_33 (by decide +kernel) (by decide +kernel) (by decide +kernel) (by decide) (lc_11 C F hKC hKM h h1 h2 h3 h4 h5 k)
theorem lsw_12 (C : gF X cL_law RL ret 4 room_1) (F : lF X KC KM b L xs) (hKC : isKC KC) (hKM : isKM KM) (h : Rel σ τ) (h1 : vp_in (x + 1) L) (h2 : vp_in (x + 2) L) (h3 : vp_in (x + 3) L) (h4 : vp_in (x + 4) L) (h5 : vp_in (x + 5) L) (k : ∀ σ τ : St, Rel σ τ → gG X (σ, τ) 1411 (LV b (KC.2.1 0) (KM.2.1 0) x) []) : gG X (σ, τ) 33 (LV b (KC.2.1 0) (KM.2.1 0) x) [.int (nI 12)] :=
  g_tabIn C (v := nI 12) (off := 581) 614 rfl dL_law_33 (by decide +kernel) (by decide +kernel) (by decide +kernel) (by decide) (lc_12 C F hKC hKM h h1 h2 h3 h4 h5 k)
theorem lsw_13 (C : gF X cL_law RL ret 4 room_1) (F : lF X KC KM b L xs) (hKC : isKC KC) (hKM : isKM KM) (h : Rel σ τ) (h1 : vp_in (x + 1) L) (h2 : vp_in (x + 2) L) (h3 : vp_in (x + 3) L) (h4 : vp_in (x + 4) L) (h5 : vp_in (x + 5) L) (k : ∀ σ τ : St, Rel σ τ → gG X (σ, τ) 1411 (LV b (KC.2.1 0) (KM.2.1 0) x) []) : gG X (σ, τ) 33 (LV b (KC.2.1 0) (KM.2.1 0) x) [.int (nI 13)] :=
  g_tabIn C (v := nI 13) (off := 604) 637 rfl dL_law_33 (by decide +kernel) (by decide +kernel) (by decide +kernel) (by decide) (lc_13 C F hKC hKM h h1 h2 h3 h4 h5 k)
theorem lsw_14 (C : gF X cL_law RL ret 4 room_1) (F : lF X KC KM b L xs) (hKC : isKC KC) (hKM : isKM KM) (h : Rel σ τ) (h1 : vp_in (x + 1) L) (h2 : vp_in (x + 2) L) (h3 : vp_in (x + 3) L) (h4 : vp_in (x + 4) L) (h5 : vp_in (x + 5) L) (k : ∀ σ τ : St, Rel σ τ → gG X (σ, τ) 1411 (LV b (KC.2.1 0) (KM.2.1 0) x) []) : gG X (σ, τ) 33 (LV b (KC.2.1 0) (KM.2.1 0) x) [.int (nI 14)] :=
  g_tabIn C (v := nI 14) (off := 617) 650 rfl dL_law_33 (by decide +kernel) (by decide +kernel) (by decide +kernel) (by decide) (lc_14 C F hKC hKM h h1 h2 h3 h4 h5 k)
theorem lsw_15 (C : gF X cL_law RL ret 4 room_1) (F : lF X KC KM b L xs) (hKC : isKC KC) (hKM : isKM KM) (h : Rel σ τ) (h1 : vp_in (x + 1) L) (h2 : vp_in (x + 2) L) (h3 : vp_in (x + 3) L) (h4 : vp_in (x + 4) L) (h5 : vp_in (x + 5) L) (k : ∀ σ τ : St, Rel σ τ → gG X (σ, τ) 1411 (LV b (KC.2.1 0) (KM.2.1 0) x) []) : gG X (σ, τ) 33 (LV b (KC.2.1 0) (KM.2.1 0) x) [.int (nI 15)] :=
  g_tabIn C (v := nI 15) (off := 640) 673 rfl dL_law_33 (by decide +kernel) (by decide +kernel) (by decide +kernel) (by decide) (lc_15 C F hKC hKM h h1 h2 h3 h4 h5 k)
theorem lsw_16 (C : gF X cL_law RL ret 4 room_1) (F : lF X KC KM b L xs) (hKC : isKC KC) (hKM : isKM KM) (h : Rel σ τ) (h1 : vp_in (x + 1) L) (h2 : vp_in (x + 2) L) (h3 : vp_in (x + 3) L) (h4 : vp_in (x + 4) L) (h5 : vp_in (x + 5) L) (k : ∀ σ τ : St, Rel σ τ → gG X (σ, τ) 1411 (LV b (KC.2.1 0) (KM.2.1 0) x) []) : gG X (σ, τ) 33 (LV b (KC.2.1 0) (KM.2.1 0) x) [.int (nI 16)] :=
  g_tabIn C (v := nI 16) (off := 683) 716 rfl dL_law_33 (by decide +kernel) (by decide +kernel) (by decide +kernel) (by decide) (lc_16 C F hKC hKM h h1 h2 h3 h4 h5 k)
theorem lsw_17 (C : gF X cL_law RL ret 4 room_1) (F : lF X KC KM b L xs) (hKC : isKC KC) (hKM : isKM KM) (h : Rel σ τ) (h1 : vp_in (x + 1) L) (h2 : vp_in (x + 2) L) (h3 : vp_in (x + 3) L) (h4 : vp_in (x + 4) L) (h5 : vp_in (x + 5) L) (k : ∀ σ τ : St, Rel σ τ → gG X (σ, τ) 1411 (LV b (KC.2.1 0) (KM.2.1 0) x) []) : gG X (σ, τ) 33 (LV b (KC.2.1 0) (KM.2.1 0) x) [.int (nI 17)] :=
  g_tabIn C (v := nI 17) (off := 706) 739 rfl dL_law_33 (by decide +kernel) (by decide +kernel) (by decide +kernel) (by decide) (lc_17 C F hKC hKM h h1 h2 h3 h4 h5 k)
theorem lsw_18 (C : gF X cL_law RL ret 4 room_1) (F : lF X KC KM b L xs) (hKC : isKC KC) (hKM : isKM KM) (h : Rel σ τ) (h1 : vp_in (x + 1) L) (h2 : vp_in (x + 2) L) (h3 : vp_in (x + 3) L) (h4 : vp_in (x + 4) L) (h5 : vp_in (x + 5) L) (k : ∀ σ τ : St, Rel σ τ → gG X (σ, τ) 1411 (LV b (KC.2.1 0) (KM.2.1 0) x) []) : gG X (σ, τ) 33 (LV b (KC.2.1 0) (KM.2.1 0) x) [.int (nI 18)] :=
  g_tabIn C (v := nI 18) (off := 729) 762 rfl dL_law_33 (by decide +kernel) (by decide +kernel) (by decide +kernel) (by decide) (lc_18 C F hKC hKM h h1 h2 h3 h4 h5 k)
theorem lsw_19 (C : gF X cL_law RL ret 4 room_1) (F : lF X KC KM b L xs) (hKC : isKC KC) (hKM : isKM KM) (h : Rel σ τ) (h1 : vp_in (x + 1) L) (h2 : vp_in (x + 2) L) (h3 : vp_in (x + 3) L) (h4 : vp_in (x + 4) L) (h5 : vp_in (x + 5) L) (k : ∀ σ τ : St, Rel σ τ → gG X (σ, τ) 1411 (LV b (KC.2.1 0) (KM.2.1 0) x) []) : gG X (σ, τ) 33 (LV b (KC.2.1 0) (KM.2.1 0) x) [.int (nI 19)] :=
  g_tabIn C (v := nI 19) (off := 752) 785 rfl dL_law_33 (by decide +kernel) (by decide +kernel) (by decide +kernel) (by decide) (lc_19 C F hKC hKM h h1 h2 h3 h4 h5 k)
theorem lsw_20 (C : gF X cL_law RL ret 4 room_1) (F : lF X KC KM b L xs) (hKC : isKC KC) (hKM : isKM KM) (h : Rel σ τ) (h1 : vp_in (x + 1) L) (h2 : vp_in (x + 2) L) (h3 : vp_in (x + 3) L) (h4 : vp_in (x + 4) L) (h5 : vp_in (x + 5) L) (k : ∀ σ τ : St, Rel σ τ → gG X (σ, τ) 1411 (LV b (KC.2.1 0) (KM.2.1 0) x) []) : gG X (σ, τ) 33 (LV b (KC.2.1 0) (KM.2.1 0) x) [.int (nI 20)] :=
  g_tabIn C (v := nI 20) (off := 795) 828 rfl dL_law_33 (by decide +kernel) (by decide +kernel) (by decide +kernel) (by decide) (lc_20 C F hKC hKM h h1 h2 h3 h4 h5 k)
theorem lsw_21 (C : gF X cL_law RL ret 4 room_1) (F : lF X KC KM b L xs) (hKC : isKC KC) (hKM : isKM KM) (h : Rel σ τ) (h1 : vp_in (x + 1) L) (h2 : vp_in (x + 2) L) (h3 : vp_in (x + 3) L) (h4 : vp_in (x + 4) L) (h5 : vp_in (x + 5) L) (k : ∀ σ τ : St, Rel σ τ → gG X (σ, τ) 1411 (LV b (KC.2.1 0) (KM.2.1 0) x) []) : gG X (σ, τ) 33 (LV b (KC.2.1 0) (KM.2.1 0) x) [.int (nI 21)] :=
  g_tabIn C (v := nI 21) (off := 828) 861 rfl dL_law_33 (by decide +kernel) (by decide +kernel) (by decide +kernel) (by decide) (lc_21 C F hKC hKM h h1 h2 h3 h4 h5 k)
theorem lsw_22 (C : gF X cL_law RL ret 4 room_1) (F : lF X KC KM b L xs) (hKC : isKC KC) (hKM : isKM KM) (h : Rel σ τ) (h1 : vp_in (x + 1) L) (h2 : vp_in (x + 2) L) (h3 : vp_in (x + 3) L) (h4 : vp_in (x + 4) L) (h5 : vp_in (x + 5) L) (k : ∀ σ τ : St, Rel σ τ → gG X (σ, τ) 1411 (LV b (KC.2.1 0) (KM.2.1 0) x) []) : gG X (σ, τ) 33 (LV b (KC.2.1 0) (KM.2.1 0) x) [.int (nI 22)] :=
  g_tabIn C (v := nI 22) (off := 871) 904 rfl dL_law_33 (by decide +kernel) (by decide +kernel) (by decide +kernel) (by decide) (lc_22 C F hKC hKM h h1 h2 h3 h4 h5 k)
theorem lsw_23 (C : gF X cL_law RL ret 4 room_1) (F : lF X KC KM b L xs) (hKC : isKC KC) (hKM : isKM KM) (h : Rel σ τ) (h1 : vp_in (x + 1) L) (h2 : vp_in (x + 2) L) (h3 : vp_in (x + 3) L) (h4 : vp_in (x + 4) L) (h5 : vp_in (x + 5) L) (k : ∀ σ τ : St, Rel σ τ → gG X (σ, τ) 1411 (LV b (KC.2.1 0) (KM.2.1 0) x) []) : gG X (σ, τ) 33 (LV b (KC.2.1 0) (KM.2.1 0) x) [.int (nI 23)] :=
  g_tabIn C (v := nI 23) (off := 904) 937 rfl dL_law_33 (by decide +kernel) (by decide +kernel) (by decide +kernel) (by decide) (lc_23 C F hKC hKM h h1 h2 h3 h4 h5 k)
theorem lsw_24 (C : gF X cL_law RL ret 4 room_1) (F : lF X KC KM b L xs) (hKC : isKC KC) (hKM : isKM KM) (h : Rel σ τ) (h1 : vp_in (x + 1) L) (h2 : vp_in (x + 2) L) (h3 : vp_in (x + 3) L) (h4 : vp_in (x + 4) L) (h5 : vp_in (x + 5) L) (k : ∀ σ τ : St, Rel σ τ → gG X (σ, τ) 1411 (LV b (KC.2.1 0) (KM.2.1 0) x) []) : gG X (σ, τ) 33 (LV b (KC.2.1 0) (KM.2.1 0) x) [.int (nI 24)] :=
  g_tabIn C (v := nI 24) (off := 927) 960 rfl dL_law_33 (by decide +kernel) (by decide +kernel) (by decide +kernel) (by decide) (lc_24 C F hKC hKM h h1 h2 h3 h4 h5 k)
theorem lsw_25 (C : gF X cL_law RL ret 4 room_1) (F : lF X KC KM b L xs) (hKC : isKC KC) (hKM : isKM KM) (h : Rel σ τ) (h1 : vp_in (x + 1) L) (h2 : vp_in (x + 2) L) (h3 : vp_in (x + 3) L) (h4 : vp_in (x + 4) L) (h5 : vp_in (x + 5) L) (k : ∀ σ τ : St, Rel σ τ → gG X (σ, τ) 1411 (LV b (KC.2.1 0) (KM.2.1 0) x) []) : gG X (σ, τ) 33 (LV b (KC.2.1 0) (KM.2.1 0) x) [.int (nI 25)] :=
  g_tabIn C (v := nI 25) (off := 960) 993 rfl dL_law_33 (by decide +kernel) (by decide +kernel) (by decide +kernel) (by decide) (lc_25 C F hKC hKM h h1 h2 h3 h4 h5 k)
theorem lsw_26 (C : gF X cL_law RL ret 4 room_1) (F : lF X KC KM b L xs) (hKC : isKC KC) (hKM : isKM KM) (h : Rel σ τ) (h1 : vp_in (x + 1) L) (h2 : vp_in (x + 2) L) (h3 : vp_in (x + 3) L) (h4 : vp_in (x + 4) L) (h5 : vp_in (x + 5) L) (k : ∀ σ τ : St, Rel σ τ → gG X (σ, τ) 1411 (LV b (KC.2.1 0) (KM.2.1 0) x) []) : gG X (σ, τ) 33 (LV b (KC.2.1 0) (KM.2.1 0) x) [.int (nI 26)] :=
  g_tabIn C (v := nI 26) (off := 1003) 1036 rfl dL_law_33 (by decide +kernel) (by decide +kernel) (by decide +kernel) (by decide) (lc_26 C F hKC hKM h h1 h2 h3 h4 h5 k)
theorem lsw_27 (C : gF X cL_law RL ret 4 room_1) (F : lF X KC KM b L xs) (hKC : isKC KC) (hKM : isKM KM) (h : Rel σ τ) (h1 : vp_in (x + 1) L) (h2 : vp_in (x + 2) L) (h3 : vp_in (x + 3) L) (h4 : vp_in (x + 4) L) (h5 : vp_in (x + 5) L) (k : ∀ σ τ : St, Rel σ τ → gG X (σ, τ) 1411 (LV b (KC.2.1 0) (KM.2.1 0) x) []) : gG X (σ, τ) 33 (LV b (KC.2.1 0) (KM.2.1 0) x) [.int (nI 27)] :=
  g_tabIn C (v := nI 27) (off := 1036) 1069 rfl dL_law_33 (by decide +kernel) (by decide +kernel) (by decide +kernel) (by decide) (lc_27 C F hKC hKM h h1 h2 h3 h4 h5 k)
theorem lsw_28 (C : gF X cL_law RL ret 4 room_1) (F : lF X KC KM b L xs) (hKC : isKC KC) (hKM : isKM KM) (h : Rel σ τ) (h1 : vp_in (x + 1) L) (h2 : vp_in (x + 2) L) (h3 : vp_in (x + 3) L) (h4 : vp_in (x + 4) L) (h5 : vp_in (x + 5) L) (k : ∀ σ τ : St, Rel σ τ → gG X (σ, τ) 1411 (LV b (KC.2.1 0) (KM.2.1 0) x) []) : gG X (σ, τ) 33 (LV b (KC.2.1 0) (KM.2.1 0) x) [.int (nI 28)] :=
  g_tabIn C (v := nI 28) (off := 1069) 1102 rfl dL_law_33 (by decide +kernel) (by decide +kernel) (by decide +kernel) (by decide) (lc_28 C F hKC hKM h h1 h2 h3 h4 h5 k)
theorem lsw_29 (C : gF X cL_law RL ret 4 room_1) (F : lF X KC KM b L xs) (hKC : isKC KC) (hKM : isKM KM) (h : Rel σ τ) (h1 : vp_in (x + 1) L) (h2 : vp_in (x + 2) L) (h3 : vp_in (x + 3) L) (h4 : vp_in (x + 4) L) (h5 : vp_in (x + 5) L) (k : ∀ σ τ : St, Rel σ τ → gG X (σ, τ) 1411 (LV b (KC.2.1 0) (KM.2.1 0) x) []) : gG X (σ, τ) 33 (LV b (KC.2.1 0) (KM.2.1 0) x) [.int (nI 29)] :=
  g_tabIn C (v := nI 29) (off := 1102) 1135 rfl dL_law_33 (by decide +kernel) (by decide +kernel) (by decide +kernel) (by decide) (lc_29 C F hKC hKM h h1 h2 h3 h4 h5 k)
theorem lsw_30 (C : gF X cL_law RL ret 4 room_1) (F : lF X KC KM b L xs) (hKC : isKC KC) (hKM : isKM KM) (h : Rel σ τ) (h1 : vp_in (x + 1) L) (h2 : vp_in (x + 2) L) (h3 : vp_in (x + 3) L) (h4 : vp_in (x + 4) L) (h5 : vp_in (x + 5) L) (k : ∀ σ τ : St, Rel σ τ → gG X (σ, τ) 1411 (LV b (KC.2.1 0) (KM.2.1 0) x) []) : gG X (σ, τ) 33 (LV b (KC.2.1 0) (KM.2.1 0) x) [.int (nI 30)] :=
  g_tabIn C (v := nI 30) (off := 1145) 1178 rfl dL_law_33 (by decide +kernel) (by decide +kernel) (by decide +kernel) (by decide) (lc_30 C F hKC hKM h h1 h2 h3 h4 h5 k)
theorem lsw_31 (C : gF X cL_law RL ret 4 room_1) (F : lF X KC KM b L xs) (hKC : isKC KC) (hKM : isKM KM) (h : Rel σ τ) (h1 : vp_in (x + 1) L) (h2 : vp_in (x + 2) L) (h3 : vp_in (x + 3) L) (h4 : vp_in (x + 4) L) (h5 : vp_in (x + 5) L) (k : ∀ σ τ : St, Rel σ τ → gG X (σ, τ) 1411 (LV b (KC.2.1 0) (KM.2.1 0) x) []) : gG X (σ, τ) 33 (LV b (KC.2.1 0) (KM.2.1 0) x) [.int (nI 31)] :=
  g_tabIn C (v := nI 31) (off := 1188) 1221 rfl dL_law_33 (by decide +kernel) (by decide +kernel) (by decide +kernel) (by decide) (lc_31 C F hKC hKM h h1 h2 h3 h4 h5 k)
theorem lsw_32 (C : gF X cL_law RL ret 4 room_1) (F : lF X KC KM b L xs) (hKC : isKC KC) (hKM : isKM KM) (h : Rel σ τ) (h1 : vp_in (x + 1) L) (h2 : vp_in (x + 2) L) (h3 : vp_in (x + 3) L) (h4 : vp_in (x + 4) L) (h5 : vp_in (x + 5) L) (k : ∀ σ τ : St, Rel σ τ → gG X (σ, τ) 1411 (LV b (KC.2.1 0) (KM.2.1 0) x) []) : gG X (σ, τ) 33 (LV b (KC.2.1 0) (KM.2.1 0) x) [.int (nI 32)] :=
  g_tabIn C (v := nI 32) (off := 1231) 1264 rfl dL_law_33 (by decide +kernel) (by decide +kernel) (by decide +kernel) (by decide) (lc_32 C F hKC hKM h h1 h2 h3 h4 h5 k)
theorem lsw_33 (C : gF X cL_law RL ret 4 room_1) (F : lF X KC KM b L xs) (hKC : isKC KC) (hKM : isKM KM) (h : Rel σ τ) (h1 : vp_in (x + 1) L) (h2 : vp_in (x + 2) L) (h3 : vp_in (x + 3) L) (h4 : vp_in (x + 4) L) (h5 : vp_in (x + 5) L) (k : ∀ σ τ : St, Rel σ τ → gG X (σ, τ) 1411 (LV b (KC.2.1 0) (KM.2.1 0) x) []) : gG X (σ, τ) 33 (LV b (KC.2.1 0) (KM.2.1 0) x) [.int (nI 33)] :=
  g_tabIn C (v := nI 33) (off := 1264) 1297 rfl dL_law_33 (by decide +kernel) (by decide +kernel) (by decide +kernel) (by decide) (lc_33 C F hKC hKM h h1 h2 h3 h4 h5 k)
theorem lsw_34 (C : gF X cL_law RL ret 4 room_1) (F : lF X KC KM b L xs) (hKC : isKC KC) (hKM : isKM KM) (h : Rel σ τ) (h1 : vp_in (x + 1) L) (h2 : vp_in (x + 2) L) (h3 : vp_in (x + 3) L) (h4 : vp_in (x + 4) L) (h5 : vp_in (x + 5) L) (k : ∀ σ τ : St, Rel σ τ → gG X (σ, τ) 1411 (LV b (KC.2.1 0) (KM.2.1 0) x) []) : gG X (σ, τ) 33 (LV b (KC.2.1 0) (KM.2.1 0) x) [.int (nI 34)] :=
  g_tabIn C (v := nI 34) (off := 1277) 1310 rfl dL_law_33 (by decide +kernel) (by decide +kernel) (by decide +kernel) (by decide) (lc_34 C F hKC hKM h h1 h2 h3 h4 h5 k)
theorem lsw_35 (C : gF X cL_law RL ret 4 room_1) (F : lF X KC KM b L xs) (hKC : isKC KC) (hKM : isKM KM) (h : Rel σ τ) (h1 : vp_in (x + 1) L) (h2 : vp_in (x + 2) L) (h3 : vp_in (x + 3) L) (h4 : vp_in (x + 4) L) (h5 : vp_in (x + 5) L) (k : ∀ σ τ : St, Rel σ τ → gG X (σ, τ) 1411 (LV b (KC.2.1 0) (KM.2.1 0) x) []) : gG X (σ, τ) 33 (LV b (KC.2.1 0) (KM.2.1 0) x) [.int (nI 35)] :=
  g_tabIn C (v := nI 35) (off := 1291) 1324 rfl dL_law_33 (by decide +kernel) (by decide +kernel) (by decide +kernel) (by decide) (lc_35 C F hKC hKM h h1 h2 h3 h4 h5 k)
theorem lsw_36 (C : gF X cL_law RL ret 4 room_1) (F : lF X KC KM b L xs) (hKC : isKC KC) (hKM : isKM KM) (h : Rel σ τ) (h1 : vp_in (x + 1) L) (h2 : vp_in (x + 2) L) (h3 : vp_in (x + 3) L) (h4 : vp_in (x + 4) L) (h5 : vp_in (x + 5) L) (k : ∀ σ τ : St, Rel σ τ → gG X (σ, τ) 1411 (LV b (KC.2.1 0) (KM.2.1 0) x) []) : gG X (σ, τ) 33 (LV b (KC.2.1 0) (KM.2.1 0) x) [.int (nI 36)] :=
  g_tabIn C (v := nI 36) (off := 1305) 1338 rfl dL_law_33 (by decide +kernel) (by decide +kernel) (by decide +kernel) (by decide) (lc_36 C F hKC hKM h h1 h2 h3 h4 h5 k)
theorem lsw_37 (C : gF X cL_law RL ret 4 room_1) (F : lF X KC KM b L xs) (hKC : isKC KC) (hKM : isKM KM) (h : Rel σ τ) (h1 : vp_in (x + 1) L) (h2 : vp_in (x + 2) L) (h3 : vp_in (x + 3) L) (h4 : vp_in (x + 4) L) (h5 : vp_in (x + 5) L) (k : ∀ σ τ : St, Rel σ τ → gG X (σ, τ) 1411 (LV b (KC.2.1 0) (KM.2.1 0) x) []) : gG X (σ, τ) 33 (LV b (KC.2.1 0) (KM.2.1 0) x) [.int (nI 37)] :=
  g_tabIn C (v := nI 37) (off := 1328) 1361 rfl dL_law_33 (by decide +kernel) (by decide +kernel) (by decide +kernel) (by decide) (lc_37 C F hKC hKM h h1 h2 h3 h4 h5 k)
theorem lsw_38 (C : gF X cL_law RL ret 4 room_1) (F : lF X KC KM b L xs) (hKC : isKC KC) (hKM : isKM KM) (h : Rel σ τ) (h1 : vp_in (x + 1) L) (h2 : vp_in (x + 2) L) (h3 : vp_in (x + 3) L) (h4 : vp_in (x + 4) L) (h5 : vp_in (x + 5) L) (k : ∀ σ τ : St, Rel σ τ → gG X (σ, τ) 1411 (LV b (KC.2.1 0) (KM.2.1 0) x) []) : gG X (σ, τ) 33 (LV b (KC.2.1 0) (KM.2.1 0) x) [.int (nI 38)] :=
  g_tabIn C (v := nI 38) (off := 1341) 1374 rfl dL_law_33 (by decide +kernel) (by decide +kernel) (by decide +kernel) (by decide) (lc_38 C F hKC hKM h h1 h2 h3 h4 h5 k)
theorem lsw_39 (C : gF X cL_law RL ret 4 room_1) (F : lF X KC KM b L xs) (hKC : isKC KC) (hKM : isKM KM) (h : Rel σ τ) (h1 : vp_in (x + 1) L) (h2 : vp_in (x + 2) L) (h3 : vp_in (x + 3) L) (h4 : vp_in (x + 4) L) (h5 : vp_in (x + 5) L) (k : ∀ σ τ : St, Rel σ τ → gG X (σ, τ) 1411 (LV b (KC.2.1 0) (KM.2.1 0) x) []) : gG X (σ, τ) 33 (LV b (KC.2.1 0) (KM.2.1 0) x) [.int (nI 39)] :=
  g_tabIn C (v := nI 39) (off := 1364) 1397 rfl dL_law_33 (by decide +kernel) (by decide +kernel) (by decide +kernel) (by decide) (lc_39 C F hKC hKM h h1 h2 h3 h4 h5 k)
theorem l_switch (C : gF X cL_law RL ret 4 room_1) (F : lF X KC KM b L xs) (hKC : isKC KC) (hKM : isKM KM) (h : Rel σ τ) (h1 : vp_in (x + 1) L) (h2 : vp_in (x + 2) L) (h3 : vp_in (x + 3) L) (h4 : vp_in (x + 4) L) (h5 : vp_in (x + 5) L) (k : ∀ σ τ : St, Rel σ τ → gG X (σ, τ) 1411 (LV b (KC.2.1 0) (KM.2.1 0) x) []) (v : Int32) : gG X (σ, τ) 33 (LV b (KC.2.1 0) (KM.2.1 0) x) [.int v] := by
  rcases ix v 40 (by decide) with hv | ⟨j, hj, rfl⟩
  · exact g_tabOut C 1411 dL_law_33 (hv.imp id (fun z => by omega)) (by decide) (k σ τ h)
  · match j, hj with
    | 0, _ => exact lsw_0 C F hKC hKM h h1 h2 h3 h4 h5 k
    | 1, _ => exact lsw_1 C F hKC hKM h h1 h2 h3 h4 h5 k
    | 2, _ => exact lsw_2 C F hKC hKM h h1 h2 h3 h4 h5 k
    | 3, _ => exact lsw_3 C F hKC hKM h h1 h2 h3 h4 h5 k
    | 4, _ => exact lsw_4 C F hKC hKM h h1 h2 h3 h4 h5 k
    | 5, _ => exact lsw_5 C F hKC hKM h h1 h2 h3 h4 h5 k
    | 6, _ => exact lsw_6 C F hKC hKM h h1 h2 h3 h4 h5 k
    | 7, _ => exact lsw_7 C F hKC hKM h h1 h2 h3 h4 h5 k
    | 8, _ => exact lsw_8 C F hKC hKM h h1 h2 h3 h4 h5 k
    | 9, _ => exact lsw_9 C F hKC hKM h h1 h2 h3 h4 h5 k
    | 10, _ => exact lsw_10 C F hKC hKM h h1 h2 h3 h4 h5 k
    | 11, _ => exact lsw_11 C F hKC hKM h h1 h2 h3 h4 h5 k
    | 12, _ => exact lsw_12 C F hKC hKM h h1 h2 h3 h4 h5 k
    | 13, _ => exact lsw_13 C F hKC hKM h h1 h2 h3 h4 h5 k
    | 14, _ => exact lsw_14 C F hKC hKM h h1 h2 h3 h4 h5 k
    | 15, _ => exact lsw_15 C F hKC hKM h h1 h2 h3 h4 h5 k
    | 16, _ => exact lsw_16 C F hKC hKM h h1 h2 h3 h4 h5 k
    | 17, _ => exact lsw_17 C F hKC hKM h h1 h2 h3 h4 h5 k
    | 18, _ => exact lsw_18 C F hKC hKM h h1 h2 h3 h4 h5 k
    | 19, _ => exact lsw_19 C F hKC hKM h h1 h2 h3 h4 h5 k
    | 20, _ => exact lsw_20 C F hKC hKM h h1 h2 h3 h4 h5 k
    | 21, _ => exact lsw_21 C F hKC hKM h h1 h2 h3 h4 h5 k
    | 22, _ => exact lsw_22 C F hKC hKM h h1 h2 h3 h4 h5 k
    | 23, _ => exact lsw_23 C F hKC hKM h h1 h2 h3 h4 h5 k
    | 24, _ => exact lsw_24 C F hKC hKM h h1 h2 h3 h4 h5 k
    | 25, _ => exact lsw_25 C F hKC hKM h h1 h2 h3 h4 h5 k
    | 26, _ => exact lsw_26 C F hKC hKM h h1 h2 h3 h4 h5 k
    | 27, _ => exact lsw_27 C F hKC hKM h h1 h2 h3 h4 h5 k
    | 28, _ => exact lsw_28 C F hKC hKM h h1 h2 h3 h4 h5 k
    | 29, _ => exact lsw_29 C F hKC hKM h h1 h2 h3 h4 h5 k
    | 30, _ => exact lsw_30 C F hKC hKM h h1 h2 h3 h4 h5 k
    | 31, _ => exact lsw_31 C F hKC hKM h h1 h2 h3 h4 h5 k
    | 32, _ => exact lsw_32 C F hKC hKM h h1 h2 h3 h4 h5 k
    | 33, _ => exact lsw_33 C F hKC hKM h h1 h2 h3 h4 h5 k
    | 34, _ => exact lsw_34 C F hKC hKM h h1 h2 h3 h4 h5 k
    | 35, _ => exact lsw_35 C F hKC hKM h h1 h2 h3 h4 h5 k
    | 36, _ => exact lsw_36 C F hKC hKM h h1 h2 h3 h4 h5 k
    | 37, _ => exact lsw_37 C F hKC hKM h h1 h2 h3 h4 h5 k
    | 38, _ => exact lsw_38 C F hKC hKM h h1 h2 h3 h4 h5 k
    | 39, _ => exact lsw_39 C F hKC hKM h h1 h2 h3 h4 h5 k
    | n + 40, hj => exact absurd hj (by omega)
end LS
