/-! the law's loop -/
theorem law_loop {X : Gx (St × St)} {KC KM : Kx} {b L : Nat} {xs : Nat → Int32} (C : gF X cL_law RL ret 4 room_1) (F : lF X KC KM b L xs) (hKC : isKC KC) (hKM : isKM KM) (hL : L ≤ 3072) (hE : ∀ (q : St × St) (x : Int32), gG X q 1417 (LV b (KC.2.1 0) (KM.2.1 0) x) []) : ∀ (n i : Nat) (σ τ : St), L + 1 ≤ i + n → i ≤ L → Rel σ τ → gG X (σ, τ) 18 (LV b (KC.2.1 0) (KM.2.1 0) (nI i)) [] := by
  intro n
  induction n with
  | zero =>
    intro i σ τ h1 h2
    exact absurd h1 (by omega)
  | succ n ih =>
    intro i σ τ h1 h2 h
    refine g_iload_n C 0 dL_law_18 rfl ?_
    refine g_aload_n C 3 dL_law_19 rfl ?_
    refine l_slen C F dL_law_20 ?_
    refine g_bipush C (v := 6) dL_law_21 (by decide) ?_
    refine g_isub C dL_law_23 ?_
    have e6 : (6 : Int32).toInt = 6 := by decide
    have eL : (Int32.ofNat L).toInt = L := nI_toInt (by omega)
    have ei : (nI i).toInt = i := nI_toInt (by omega)
    have es : (Int32.ofNat L - 6).toInt = (L : Int) - 6 := by
      rw [i_sub (by rw [eL, e6]; omega) (by rw [eL, e6]; omega), eL, e6]
    by_cases hlt : i + 6 ≤ L
    · have hn : ¬ (Int32.ofNat L - 6 < nI i) := by
        rw [i_lt, es, ei]
        omega
      refine g_icmp_gt C (α := Unit) (o := ()) (Y := none) (N := some ()) 1417 dL_law_24 (by decide) (if_neg hn) (fun z => by cases z) (fun _ => ?_)
      refine g_aload_n C 3 dL_law_27 rfl ?_
      refine g_iload_n C 0 dL_law_28 rfl ?_
      refine l_sld C F (vp_in_nI (by omega) (by omega)) dL_law_29 ?_
      refine g_bipush C (v := 63) dL_law_30 (by decide) ?_
      refine g_iand C dL_law_32 ?_
      have hin : ∀ j : Nat, j < 6 → vp_in (nI i + nI j) L := fun j hj => by
        rw [nI_add]
        exact vp_in_nI (by omega) (by omega)
      refine l_switch C F hKC hKM h (hin 1 (by omega)) (hin 2 (by omega)) (hin 3 (by omega)) (hin 4 (by omega)) (hin 5 (by omega)) (fun σ1 τ1 hr => ?_) _
      refine g_iinc C (α := Unit) (o := ()) (F := fun z => if z = nI i + 6 then some () else none) 0 (fun z => LV b (KC.2.1 0) (KM.2.1 0) z) dL_law_1411 rfl (by decide) (by decide) (fun _ => rfl) (if_pos rfl) (fun z hz => ?_)
      have hz1 : z = nI (i + 6) := by
        by_cases c : z = nI i + 6
        · rw [c]; exact nI_add i 6
        · rw [if_neg c] at hz; cases hz
      subst hz1
      refine g_goto C 18 dL_law_1414 (by decide) ?_
      exact ih (i + 6) σ1 τ1 (by omega) hlt hr
    · have hp : Int32.ofNat L - 6 < nI i := by
        rw [i_lt, es, ei]
        omega
      exact g_icmp_gt C (α := Unit) (o := ()) (Y := some ()) (N := none) 1417 dL_law_24 (by decide) (if_pos hp) (fun _ => hE _ _) (fun z => by cases z)
