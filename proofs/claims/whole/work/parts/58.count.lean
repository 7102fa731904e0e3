/-! mark -/
def isK (k w : Nat) : Prop := k = w ∨ (k = 4 ∧ w = 2) ∨ (k = 5 ∧ w = 3)
theorem c_isOf (σ : St) {k w : Nat} (hk : k < 6) (hw1 : 1 ≤ w) (hw : w < 6) : f5_isOf σ (nI k) (nI w) = some (if k = w ∨ (k = 4 ∧ w = 2) ∨ (k = 5 ∧ w = 3) then 1 else 0) := by
  have key : ∀ k, k < 6 → ∀ w, w < 6 → 1 ≤ w → (if nI k = nI w then some 1 else gi (nI k) 6 (if (sWid (nI k).toNatClampNeg) = nI w then some 1 else some 0)) = some (if k = w ∨ (k = 4 ∧ w = 2) ∨ (k = 5 ∧ w = 3) then (1 : Int32) else 0) := by decide +kernel
  exact key k hk w hw hw1
def mk1 (w r f : Nat) : Int32 := if w = 1 then (if r = f then 0 else 1) else if w = 3 then (if r ≤ f then 0 else 1) else (if r = 10 then 1 else 0)
def mkC (kd : Nat → Nat) (D : Dk) (i w : Nat) : Nat → Int32
  | 0 => 0
  | c + 1 => mkC kd D i w c + mk1 w (pkt kd D.2.1 D.2.2 c i) (D.2.1 (3 * i + c))
theorem c_marked {σ : St} {n i w : Nat} {kd : Nat → Nat} {D : Dk} (h : CX σ n kd D) (hi : i < n) (hw : w < 6) : f5_markedColumns σ (nI i) (nI w) = some (mkC kd D i w 3) := by
  have h0 := h
  obtain ⟨h1, h2, h3, h4, h5⟩ := h
  unfold f5_markedColumns
  refine up0 (fun q c s => L5_markedColumns_5 σ (nI i) (nI w) (fun x => some x) q s c) 3 (by omega) (fun c s => s = mkC kd D i w c) (fun o => o = some (mkC kd D i w 3)) ?_ ?_ 0 rfl
  · intro q c s hc hs
    left
    refine ⟨_, rfl, ?_⟩
    subst hs
    have hp : pkt kd D.2.1 D.2.2 c i ≤ 10 := rdg_le (fun c hc => h5.2.2.2.1 _ (by omega)) hc
    have hf := h5.2.2.2.1 (3 * i + c) (by omega)
    conv => lhs; unfold L5_markedColumns_5
    simp only [jn_e, bnd_e]
    rw [show (3 : Int32) = nI 3 from rfl, if_neg (nI_ge hc (by omega)), h4.2.2, c_readsBehind h0 hi hc h5.2.2.2.2, b1_s, c_figureOf h4 h2 hi hc, b1_s, nI_1]
    show _ = L5_markedColumns_5 σ (nI i) (nI w) (fun x => some x) q (mkC kd D i w c + mk1 w _ _) (nI (c + 1))
    generalize pkt kd D.2.1 D.2.2 c i = r at *
    generalize D.2.1 (3 * i + c) = f at *
    unfold mk1
    by_cases c1 : w = 1
    · rw [if_pos (show nI w = 1 by rw [c1]; rfl), if_pos c1]
      by_cases e : r = f
      · rw [if_pos (by rw [e]), if_pos e, if_pos trivial, Int32.add_zero]
      · rw [if_neg (show ¬ nI r = nI f by rw [nI_eq (by omega) (by omega)]; exact e), if_neg e, i10]
    rw [if_neg (show ¬ nI w = 1 by rw [show (1 : Int32) = nI 1 from rfl, nI_eq (by omega) (by omega)]; exact c1), if_neg c1]
    by_cases c3 : w = 3
    · rw [if_pos (show nI w = nI 3 by rw [c3]), if_pos c3]
      by_cases e : r ≤ f
      · rw [if_pos (nI_le e (by omega)), if_pos e, if_pos trivial, Int32.add_zero]
      · rw [if_neg (nI_ge (by omega) (by omega)), if_neg e, i10]
    rw [if_neg (show ¬ nI w = nI 3 by rw [nI_eq (by omega) (by omega)]; exact c3), if_neg c3]
    by_cases e : r = 10
    · rw [if_pos (show nI r = 10 by rw [e]; rfl), if_pos e, i10]
    · rw [if_neg (show ¬ nI r = 10 by rw [show (10 : Int32) = nI 10 from rfl, nI_eq (by omega) (by omega)]; exact e), if_neg e, if_pos trivial, Int32.add_zero]
  · intro q s hs
    subst hs
    unfold L5_markedColumns_5
    rw [show (3 : Int32) = nI 3 from rfl, if_pos (nI_le (Nat.le_refl _) (by omega))]
theorem m_marked {τ : St} {n i w : Nat} {kd : Nat → Nat} {D : Dk} (h : mD τ 6 n kd D) (hi : i < n) (hw : w < 6) {k : Int32 → Option (Int32 × St)} : L6_mark_114 τ (nI i) (nI w) k FU 0 0 = k (mkC kd D i w 3) := by
  have h0 := h
  obtain ⟨h1, h2, h3, h4, h5⟩ := h
  refine up0 (fun q c s => L6_mark_114 τ (nI i) (nI w) k q s c) 3 (by omega) (fun c s => s = mkC kd D i w c) (fun o => o = k (mkC kd D i w 3)) ?_ ?_ 0 rfl
  · intro q c s hc hs
    left
    refine ⟨_, rfl, ?_⟩
    subst hs
    have hp : pkt kd D.2.1 D.2.2 c i ≤ 10 := rdg_le (fun c hc => h5.2.2.2.1 _ (by omega)) hc
    have hf := h5.2.2.2.1 (3 * i + c) (by omega)
    have hv := h4.2.1 (3 * i + c) (by omega)
    rw [Nat.zero_add] at hv
    conv => lhs; unfold L6_mark_114
    simp only [jn_e, bnd_e]
    rw [show (3 : Int32) = nI 3 from rfl, if_neg (nI_ge hc (by omega)), show (6 : Int32) = nI 6 from rfl, pk_mul, nI_add, nI_add, gi_nI (by omega) (by omega), nI_clamp (by omega), m_readOn h0 (Or.inl rfl) hi hc, b1_s, nI_1, Nat.add_assoc, hv]
    show _ = L6_mark_114 τ (nI i) (nI w) k q (mkC kd D i w c + mk1 w _ _) (nI (c + 1))
    generalize pkt kd D.2.1 D.2.2 c i = r at *
    generalize D.2.1 (3 * i + c) = f at *
    unfold mk1
    by_cases c1 : w = 1
    · rw [if_pos (show nI w = 1 by rw [c1]; rfl), if_pos c1]
      by_cases e : r = f
      · rw [if_pos (by rw [e]), if_pos e]
      · rw [if_neg (show ¬ nI r = nI f by rw [nI_eq (by omega) (by omega)]; exact e), if_neg e]
    rw [if_neg (show ¬ nI w = 1 by rw [show (1 : Int32) = nI 1 from rfl, nI_eq (by omega) (by omega)]; exact c1), if_neg c1]
    by_cases c3 : w = 3
    · rw [if_pos (show nI w = nI 3 by rw [c3]), if_pos c3]
      by_cases e : r ≤ f
      · rw [if_pos (nI_le e (by omega)), if_pos e]
      · rw [if_neg (nI_ge (by omega) (by omega)), if_neg e]
    rw [if_neg (show ¬ nI w = nI 3 by rw [nI_eq (by omega) (by omega)]; exact c3), if_neg c3]
    by_cases e : r = 10
    · rw [if_pos (show nI r = 10 by rw [e]; rfl), if_pos e]
    · rw [if_neg (show ¬ nI r = 10 by rw [show (10 : Int32) = nI 10 from rfl, nI_eq (by omega) (by omega)]; exact e), if_neg e]
  · intro q s hs
    subst hs
    unfold L6_mark_114
    rw [show (3 : Int32) = nI 3 from rfl, if_pos (nI_le (Nat.le_refl _) (by omega))]
theorem e_mark {σ τ : St} (h : Rel σ τ) (x y : Int32) : Sim (f5_mark σ x y) (f6_mark τ x y) := by
  obtain ⟨n, kd, bs, ds, kp, hA, hC, hM⟩ := h.2.2.2.2
  have hn6 := hA.2.1
  have hc := hC.cx hA
  have hm := hM.mx hA
  generalize rpl n kd bs ds = D at hc hm
  have e6 : (6 : Int32).toInt = 6 := by decide
  have e0 : (0 : Int32).toInt = 0 := by decide
  unfold f5_mark f6_mark
  simp only [jn_e, bnd_e]
  rw [c_isCard hC.1 hn6, m_isCard hM.1 hn6, b1_s, b1_s]
  rcases ix x n (by omega) with hx | ⟨i, hi, rfl⟩
  · rw [inB_out hx, i00, i00]
    exact Sim.of h _
  rw [inB_nI hi (by omega), i10, i10, m_in y 1 5 1 5 (by decide) (by decide), b1_s]
  by_cases a1 : y.toInt ≤ 0
  · rw [if_pos (show y ≤ 0 by rw [i_le, e0]; exact a1), if_neg (show ¬ (1 ≤ y.toInt ∧ y.toInt ≤ 5) by omega), i00]
    exact Sim.of h _
  rw [if_neg (show ¬ y ≤ 0 by rw [i_le, e0]; exact a1)]
  by_cases a2 : y.toInt < 6
  · obtain ⟨w, hw, rfl⟩ : ∃ w : Nat, w < 6 ∧ y = nI w := by
      rcases ix y 6 (by omega) with q | q
      · omega
      · exact q
    rw [if_pos (show nI w < 6 by rw [i_lt, e6]; exact a2), if_pos (show (1 ≤ (nI w).toInt ∧ (nI w).toInt ≤ 5) by omega), i10]
    rw [i_lit w (by omega)] at a1
    have hkx := (hc.2.2.1 i hi).2
    have hk5 : τ.1 5 i = nI (kd i) := hM.2.2.1 i hi
    have hpl := hm.placeOf (Or.inl rfl) hi
    have hs3 := hm.2.2.2.1.2.2
    rw [Nat.zero_add] at hs3
    have ho5 := hm.2.2.2.2.2.2.2.2
    rw [gi_nI (by omega) (by omega), gi_nI (by omega) (by omega), nI_clamp (by omega), (hc.2.2.1 i hi).1, hk5, c_isOf σ hkx (by omega) hw, b1_s, m_marked hm hi hw, hpl, b1_s, c_placeOf hc hi, b1_s, c_marked hc hi hw, b1_s, hc.2.2.2.1.2.2, hs3, n_div4 _ (by omega)]
    have ne : ∀ a b : Nat, a < 6 → b < 6 → (nI a = nI b ↔ a = b) := fun a b ha hb => nI_eq (by omega) (by omega)
    have fin : Sim (if nI w = 2 then some (if nI (D.2.2 / 4) < 9 then nI (D.2.2 / 4) else 9, σ) else if nI w = 5 then some (nI (plc D.1 i), σ) else some (mkC kd D i w 3, σ)) (if nI w = 2 then (if 9 ≤ nI (D.2.2 / 4) then some (9, τ) else some (nI (D.2.2 / 4), τ)) else if nI w = 5 then some (nI (plc D.1 i), τ) else some (mkC kd D i w 3, τ)) := by
      by_cases c2 : nI w = 2
      · rw [if_pos c2, if_pos c2]
        by_cases c9 : D.2.2 / 4 < 9
        · rw [if_pos (show nI (D.2.2 / 4) < 9 from nI_lt (b := 9) c9 (by omega)), if_neg (show ¬ (9 : Int32) ≤ nI (D.2.2 / 4) from nI_ge (b := 9) c9 (by omega))]
          exact Sim.of h _
        · rw [if_neg (show ¬ nI (D.2.2 / 4) < 9 from nI_nlt (b := 9) (by omega) (by omega)), if_pos (show (9 : Int32) ≤ nI (D.2.2 / 4) from nI_le (a := 9) (by omega) (by omega))]
          exact Sim.of h _
      · rw [if_neg c2, if_neg c2]
        by_cases c5 : nI w = 5
        · rw [if_pos c5, if_pos c5]
          exact Sim.of h _
        · rw [if_neg c5, if_neg c5]
          exact Sim.of h _
    have hf3 := Sim.found h (k := 3) (by omega)
    generalize (if nI w = 2 then some (if nI (D.2.2 / 4) < 9 then nI (D.2.2 / 4) else 9, σ) else if nI w = 5 then some (nI (plc D.1 i), σ) else some (mkC kd D i w 3, σ)) = A at fin ⊢
    generalize (if nI w = 2 then (if 9 ≤ nI (D.2.2 / 4) then some (9, τ) else some (nI (D.2.2 / 4), τ)) else if nI w = 5 then some (nI (plc D.1 i), τ) else some (mkC kd D i w 3, τ)) = B at fin ⊢
    by_cases d1 : kd i = w
    · rw [if_pos (Or.inl d1), i10, if_pos (show nI (kd i) = nI w by rw [d1])]
      exact fin
    rw [if_neg (show ¬ nI (kd i) = nI w by rw [ne _ _ hkx hw]; exact d1)]
    by_cases d2 : kd i = 4 ∧ w = 2
    · rw [if_pos (Or.inr (Or.inl d2)), i10, if_pos (show nI w = 2 by rw [d2.2]; rfl), if_pos (show nI (kd i) = 4 by rw [d2.1]; rfl)]
      exact fin
    by_cases d3 : kd i = 5 ∧ w = 3
    · rw [if_pos (Or.inr (Or.inr d3)), i10, if_neg (show ¬ nI w = 2 by rw [d3.2]; decide), if_pos (show nI w = 3 by rw [d3.2]; rfl), if_pos (show nI (kd i) = 5 by rw [d3.1]; rfl)]
      exact fin
    rw [if_neg (show ¬ (kd i = w ∨ (kd i = 4 ∧ w = 2) ∨ (kd i = 5 ∧ w = 3)) by omega), i00]
    by_cases f2 : w = 2
    · rw [if_pos (show nI w = 2 by rw [f2]; rfl), if_neg (show ¬ nI (kd i) = 4 by rw [show (4 : Int32) = nI 4 from rfl, ne _ _ hkx (by omega)]; omega), if_neg (show ¬ nI w = 3 by rw [f2]; decide)]
      exact hf3
    · rw [if_neg (show ¬ nI w = 2 by rw [show (2 : Int32) = nI 2 from rfl, ne _ _ hw (by omega)]; exact f2)]
      by_cases f3 : w = 3
      · rw [if_pos (show nI w = 3 by rw [f3]; rfl), if_neg (show ¬ nI (kd i) = 5 by rw [show (5 : Int32) = nI 5 from rfl, ne _ _ hkx (by omega)]; omega)]
        exact hf3
      · rw [if_neg (show ¬ nI w = 3 by rw [show (3 : Int32) = nI 3 from rfl, ne _ _ hw (by omega)]; exact f3)]
        exact hf3
  · rw [if_neg (show ¬ y < 6 by rw [i_lt, e6]; exact a2), if_neg (show ¬ (1 ≤ y.toInt ∧ y.toInt ≤ 5) by omega), i00]
    exact Sim.of h _
