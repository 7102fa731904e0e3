/-! rows filled with what was found -/
theorem c_fill {σ : St} {r m a : Nat} (h : shf σ 1 40 6) (hr : r < 6) (hm : m ≤ lnC a) (hm40 : m ≤ 40) (hl : lnC a < 4000) (ha : a ≠ 2 ∧ a ≠ 3) :
    ∃ σ', f3_fill σ 1 (nI r) a (nI m) = some σ' ∧ (∀ c, c ≠ 2 → c ≠ 3 → σ'.1 c = σ.1 c) ∧ σ'.2 = σ.2 ∧ σ'.1 3 = upd (σ.1 3) r (nI m) ∧ (∀ i, i < m → σ'.1 2 (40 * r + i) = σ.1 a i) ∧ ∀ r' i, r' < 6 → r' ≠ r → i < 40 → σ'.1 2 (40 * r' + i) = σ.1 2 (40 * r' + i) := by
  unfold f3_fill
  rw [c_make h hr hm40, b1_s]
  refine up0 (fun q i s => L3_fill_10 1 a (nI r) (nI m) (fun σ => some σ) q i s) m (by omega)
    (fun k s => (∀ c, c ≠ 2 → c ≠ 3 → s.1 c = σ.1 c) ∧ s.2 = σ.2 ∧ s.1 3 = upd (σ.1 3) r (nI m) ∧ (∀ i, i < k → s.1 2 (40 * r + i) = σ.1 a i) ∧ ∀ r' i, r' < 6 → r' ≠ r → i < 40 → s.1 2 (40 * r' + i) = σ.1 2 (40 * r' + i))
    (fun o => ∃ σ', o = some σ' ∧ (∀ c, c ≠ 2 → c ≠ 3 → σ'.1 c = σ.1 c) ∧ σ'.2 = σ.2 ∧ σ'.1 3 = upd (σ.1 3) r (nI m) ∧ (∀ i, i < m → σ'.1 2 (40 * r + i) = σ.1 a i) ∧ ∀ r' i, r' < 6 → r' ≠ r → i < 40 → σ'.1 2 (40 * r' + i) = σ.1 2 (40 * r' + i)) ?_ ?_ _ ?_
  · intro q k s hk hs
    obtain ⟨f1, f2, f3, f4, f5⟩ := hs
    have hsh : shf s 1 40 6 := ⟨h.1, h.2.1, h.2.2.1, by rw [f1 1 (by omega) (by omega)]; exact h.2.2.2.1, h.2.2.2.2⟩
    left
    refine ⟨wI s 2 (40 * r + k) (s.1 a k), ⟨fun c h1 h2 => by rw [wI_n _ _ _ h1]; exact f1 c h1 h2, f2, f3, fun i hi => ?_, fun r' i h1 h2 h3 => ?_⟩, ?_⟩
    · rw [wI_s, upd_a]
      by_cases e : i = k
      · rw [if_pos (by omega), f1 a ha.1 ha.2, e]
      · rw [if_neg (by omega)]
        exact f4 i (by omega)
    · rw [wI_s, upd_n _ _ (by have := rowne (w := 40) (r := r) (n := k + 1) h2 h3 (by omega); omega)]
      exact f5 r' i h1 h2 h3
    · conv => lhs; unfold L3_fill_10
      rw [if_neg (nI_ge hk (by omega)), oN, if_neg (nI_ge (by omega) (by omega)), gi_nI (by omega) (by omega), nI_clamp (by omega), c_set hsh hr (show s.1 (1 + 2) r = nI m by rw [show 1 + 2 = 3 from rfl, f3, upd_s]) hm40 hk, b1_s, bnd_e, nI_1]
  · intro q s hs
    refine ⟨s, ?_, hs⟩
    unfold L3_fill_10
    rw [if_pos (nI_le (Nat.le_refl _) (by omega))]
  · refine ⟨fun c h1 h2 => ?_, rfl, rfl, fun i hi => absurd hi (Nat.not_lt_zero _), fun r' i h1 h2 h3 => ?_⟩
    · rw [wA_n _ _ h1, wI_n _ _ _ h2]
    · rw [wA_s]
      exact flF_ne h2 h3 hm40
theorem m_lays {τ : St} {r : Nat} (hr : r < 6) (x : Int32) : f6_lays τ (nI r) x = some (wA (wI τ 1 r x) 2 (flF (τ.1 2) (40 * r) 40 0)) := by
  unfold f6_lays
  rw [gi_nI hr (by omega), bnd_e, nI_clamp (by omega)]
  refine up0 (fun q i s => L6_lays_9 (nI r) (fun σ => some σ) q i s) 40 (by omega) (fun i s => s = wA (wI τ 1 r x) 2 (flF (τ.1 2) (40 * r) i 0)) (fun o => o = some (wA (wI τ 1 r x) 2 (flF (τ.1 2) (40 * r) 40 0))) ?_ ?_ _ ?_
  · intro q i s hi hs
    left
    refine ⟨_, rfl, ?_⟩
    subst hs
    conv => lhs; unfold L6_lays_9
    rw [show (40 : Int32) = nI 40 from rfl, if_neg (nI_ge hi (by omega)), ← show (40 : Int32) = nI 40 from rfl, m_idx, gi_nI (by omega) (by omega), bnd_e, bnd_e, nI_clamp (by omega), nI_1, wI_A, wA_s, wA_wA, flF_s]
  · intro q s hs
    subst hs
    unfold L6_lays_9
    rw [show (40 : Int32) = nI 40 from rfl, if_pos (nI_le (Nat.le_refl _) (by omega))]
  · rw [flF_0]
    conv => lhs; rw [← wA_self (wI τ 1 r x) 2]
    rw [wI_n _ _ _ (by omega)]
/-- both fill a row with the same -/
theorem Rel.fill {σ τ σ' τ' : St} (h : Rel σ τ) {r m : Nat} (hr : r < 6) (hm : m ≤ 40) (f1 : ∀ c, c ≠ 2 → c ≠ 3 → σ'.1 c = σ.1 c) (f2 : σ'.2 = σ.2) (f3 : σ'.1 3 = upd (σ.1 3) r (nI m)) (f5 : ∀ r' i, r' < 6 → r' ≠ r → i < 40 → σ'.1 2 (40 * r' + i) = σ.1 2 (40 * r' + i))
    (g1 : ∀ c, c ≠ 1 → c ≠ 2 → τ'.1 c = τ.1 c) (g2 : τ'.2 = τ.2) (g3 : τ'.1 1 = upd (τ.1 1) r (nI m)) (g5 : ∀ r' i, r' < 6 → r' ≠ r → i < 40 → τ'.1 2 (40 * r' + i) = τ.1 2 (40 * r' + i)) (he : ∀ i, i < m → σ'.1 2 (40 * r + i) = τ'.1 2 (40 * r + i)) : Rel σ' τ' := by
  refine h.chg ?_ ?_ ⟨?_, ?_, ?_, ?_, fun k hk => ?_⟩ (f1 1 (by omega) (by omega)) (f1 4 (by omega) (by omega)) (f1 7 (by omega) (by omega)) (f1 8 (by omega) (by omega)) (f1 9 (by omega) (by omega)) (f1 13 (by omega) (by omega)) (f1 14 (by omega) (by omega)) (f1 15 (by omega) (by omega)) (f1 16 (by omega) (by omega)) (f1 17 (by omega) (by omega)) (f1 20 (by omega) (by omega)) (by rw [g1 0 (by omega) (by omega)]) (by rw [g1 0 (by omega) (by omega)]) (g1 5 (by omega) (by omega)) (g1 6 (by omega) (by omega)) (g1 8 (by omega) (by omega)) (g1 9 (by omega) (by omega)) (g1 10 (by omega) (by omega))
  · rw [f3, g3]
    exact h.2.1.set hr hm f5 g5 he
  · rw [f1 6 (by omega) (by omega), f1 5 (by omega) (by omega), g1 3 (by omega) (by omega), g1 4 (by omega) (by omega)]; exact h.2.2.1
  · rw [f1 0 (by omega) (by omega), g1 0 (by omega) (by omega)]; exact h.2.2.2.1.1
  · rw [f2, g2]; exact h.2.2.2.1.2.1
  · rw [f2, g2]; exact h.2.2.2.1.2.2.1
  · rw [f1 0 (by omega) (by omega), g1 0 (by omega) (by omega)]; exact h.2.2.2.1.2.2.2.1
  · rw [f1 34 (by omega) (by omega), g1 11 (by omega) (by omega)]; exact h.2.2.2.1.2.2.2.2 k hk
/-! passes by a row -/
def rnD (kd : Nat → Nat) (D : Dk) (cs : Nat → Nat) : Nat → Dk
  | 0 => D
  | i + 1 => psD kd (rnD kd D cs i) (cs i)
theorem rnD_ok {n : Nat} {kd : Nat → Nat} {D : Dk} {cs : Nat → Nat} (h : okD n D) : ∀ i, (∀ j, j < i → cs j < 3) → okD n (rnD kd D cs i) ∧ (rnD kd D cs i).2.1 = D.2.1
  | 0, _ => ⟨h, rfl⟩
  | i + 1, hc => by
    have h1 := rnD_ok (kd := kd) h i (fun j hj => hc j (by omega))
    exact ⟨psD_ok h1.1 (hc i (by omega)), h1.2⟩
/-- class and reference look alike whether a row holds columns alone -/
theorem e_cols {σ τ : St} {r m : Nat} (h : shf σ 1 40 6) (hr : r < 6) (hm : m ≤ 40) (s1 : σ.1 3 r = nI m) (s2 : τ.1 1 r = nI m) (hc : ∀ i, i < m → σ.1 2 (40 * r + i) = τ.1 2 (40 * r + i)) {x2 : Int32} {K : St → Option (Int32 × St)} :
    ∀ (j i f g : Nat), i + j = m → j < f → j < g → (∀ p, p < i → ∃ c, c < 3 ∧ σ.1 2 (40 * r + p) = nI c) → (L5_allColumns_2 σ (nI r) (some 1) f (nI i) = some 0 ∧ L6_run_60 (nI r) x2 K g (nI i) τ = b2 (f6_found τ 3) fun r σ => some (r, σ)) ∨ (L5_allColumns_2 σ (nI r) (some 1) f (nI i) = some 1 ∧ L6_run_60 (nI r) x2 K g (nI i) τ = K τ ∧ ∀ p, p < m → ∃ c, c < 3 ∧ σ.1 2 (40 * r + p) = nI c) := by
  intro j
  induction j with
  | zero =>
    intro i f g h1 h2 h3 hp
    obtain ⟨q, rfl⟩ : ∃ q, f = q + 1 := ⟨f - 1, by omega⟩
    obtain ⟨q', rfl⟩ : ∃ q, g = q + 1 := ⟨g - 1, by omega⟩
    rw [Nat.add_zero] at h1
    subst h1
    right
    refine ⟨?_, ?_, hp⟩
    · unfold L5_allColumns_2
      rw [c_sizeOf h hr, b1_s, show σ.1 (1 + 2) r = nI i from s1, if_pos (nI_le (Nat.le_refl _) (by omega))]
    · unfold L6_run_60
      rw [gi_nI hr (by omega), nI_clamp (by omega), s2, if_pos (nI_le (Nat.le_refl _) (by omega))]
  | succ j ih =>
    intro i f g h1 h2 h3 hp
    obtain ⟨q, rfl⟩ : ∃ q, f = q + 1 := ⟨f - 1, by omega⟩
    obtain ⟨q', rfl⟩ : ∃ q, g = q + 1 := ⟨g - 1, by omega⟩
    have e1 : L5_allColumns_2 σ (nI r) (some 1) (q + 1) (nI i) = if inB (σ.1 2 (40 * r + i)) 3 = 0 then some 0 else L5_allColumns_2 σ (nI r) (some 1) q (nI (i + 1)) := by
      conv => lhs; unfold L5_allColumns_2
      rw [c_sizeOf h hr, b1_s, show σ.1 (1 + 2) r = nI m from s1, if_neg (nI_ge (by omega) (by omega)), c_get h hr s1 hm (by omega), b1_s, c_isColumn, b1_s, bnd_e, nI_1]
    have e2 : L6_run_60 (nI r) x2 K (q' + 1) (nI i) τ = if inB (σ.1 2 (40 * r + i)) 3 = 0 then (b2 (f6_found τ 3) fun r σ => some (r, σ)) else L6_run_60 (nI r) x2 K q' (nI (i + 1)) τ := by
      conv => lhs; unfold L6_run_60
      rw [gi_nI hr (by omega), nI_clamp (by omega), s2, if_neg (nI_ge (by omega) (by omega)), m_idx, gi_nI (by omega) (by omega), nI_clamp (by omega), ← hc i (by omega), m_isColumn, b1_s, bnd_e, nI_1]
    rw [e1, e2]
    rcases ix (σ.1 2 (40 * r + i)) 3 (by omega) with hx | ⟨c, hc3, ex⟩
    · left
      rw [inB_out hx, i00, i00]
      exact ⟨rfl, rfl⟩
    · rw [ex, inB_nI hc3 (by omega), i10, i10]
      refine ih (i + 1) q q' (by omega) (by omega) (by omega) (fun p hp' => ?_)
      by_cases e : p = i
      · exact ⟨c, hc3, by rw [e]; exact ex⟩
      · exact hp p (by omega)
theorem c_passAll {σ : St} {n r m : Nat} {kd cs : Nat → Nat} {D : Dk} (hc : CX σ n kd D) (h : shf σ 1 40 6) (hr : r < 6) (hm : m ≤ 40) (s1 : σ.1 3 r = nI m) (hcs : ∀ i, i < m → cs i < 3 ∧ σ.1 2 (40 * r + i) = nI (cs i)) :
    ∃ σ', f4_passAll σ (nI r) = some (24, σ') ∧ frS σ σ' ∧ lieA σ' 24 n (rnD kd D cs m) := by
  obtain ⟨σ1, e1, f1, l1⟩ := hc.start
  unfold f4_passAll
  rw [e1, b1_s, bnd_e, f1.1 13 (by omega), hc.2.2.2.1.2.2]
  refine up0 (fun q i s => L4_passAll_14 (nI r) (fun σ => some (24, σ)) q s.1 i s.2) m (by omega) (fun i s => s.1 = nI (rnD kd D cs i).2.2 ∧ frS σ s.2 ∧ lieA s.2 24 n (rnD kd D cs i)) (fun o => ∃ σ', o = some (24, σ') ∧ frS σ σ' ∧ lieA σ' 24 n (rnD kd D cs m)) ?_ ?_ (nI D.2.2, σ1) ⟨rfl, f1, l1⟩
  · intro q i s hi hs
    obtain ⟨s1', s2⟩ := s
    obtain ⟨e, fr, hl⟩ := hs
    dsimp only at e fr hl ⊢
    subst e
    have hc' := hc.fr fr
    have hsh : shf s2 1 40 6 := ⟨h.1, h.2.1, h.2.2.1, by rw [fr.1 1 (by omega)]; exact h.2.2.2.1, h.2.2.2.2⟩
    have ok := rnD_ok (kd := kd) (cs := cs) hc.2.2.2.2 i (fun j hj => (hcs j (by omega)).1)
    obtain ⟨σ2, e2, f2, f3, g2⟩ := hc'.sift ok.1 ok.2 (a1 := 24) (a2 := 24) (col := cs i) (mis := 0) (Or.inr (by omega)) (by omega) hl (hcs i hi).1 (by omega)
    left
    refine ⟨(nI (rnD kd D cs (i + 1)).2.2, σ2), ⟨rfl, fr.tr f2, g2⟩, ?_⟩
    conv => lhs; unfold L4_passAll_14
    rw [c_sizeOf hsh hr, b1_s, show s2.1 (1 + 2) r = nI m by rw [fr.1 3 (by omega)]; exact s1, if_neg (nI_ge hi (by omega)), c_get hsh hr (show s2.1 (1 + 2) r = nI m by rw [fr.1 3 (by omega)]; exact s1) hm hi, b1_s, show s2.1 (1 + 1) (40 * r + i) = nI (cs i) by rw [fr.1 2 (by omega)]; exact (hcs i hi).2, show (0 : Int32) = nI 0 from rfl, e2, b1_s, c_more ok.1.2.2.2.2, b1_s, bnd_e, nI_1]
    rfl
  · intro q s hs
    obtain ⟨s1', s2⟩ := s
    obtain ⟨e, fr, hl⟩ := hs
    dsimp only at e fr hl ⊢
    have hsh : shf s2 1 40 6 := ⟨h.1, h.2.1, h.2.2.1, by rw [fr.1 1 (by omega)]; exact h.2.2.2.1, h.2.2.2.2⟩
    refine ⟨s2, ?_, fr, hl⟩
    unfold L4_passAll_14
    rw [c_sizeOf hsh hr, b1_s, show s2.1 (1 + 2) r = nI m by rw [fr.1 3 (by omega)]; exact s1, if_pos (nI_le (Nat.le_refl _) (by omega))]
theorem m_passAll {τ : St} {n r m : Nat} {kd cs : Nat → Nat} {D : Dk} (hm7 : mD τ 7 n kd D) (hr : r < 6) (hm : m ≤ 40) (s1 : τ.1 1 r = nI m) (hcs : ∀ i, i < m → cs i < 3 ∧ τ.1 2 (40 * r + i) = nI (cs i)) {x2 : Int32} {K : St → Option (Int32 × St)} :
    ∃ τ', L6_run_105 (nI r) x2 K FU 0 τ = K τ' ∧ frA τ τ' ∧ mD τ' 7 n kd (rnD kd D cs m) := by
  refine up0 (fun q i s => L6_run_105 (nI r) x2 K q i s) m (by omega) (fun i s => frA τ s ∧ mD s 7 n kd (rnD kd D cs i)) (fun o => ∃ τ', o = K τ' ∧ frA τ τ' ∧ mD τ' 7 n kd (rnD kd D cs m)) ?_ ?_ τ ⟨frA.rf _, hm7⟩
  · intro q i s hi hs
    obtain ⟨fr, hd⟩ := hs
    obtain ⟨τ2, e2, f2, g2⟩ := hd.passA (hcs i hi).1
    left
    refine ⟨τ2, ⟨fr.tr f2, g2⟩, ?_⟩
    conv => lhs; unfold L6_run_105
    rw [gi_nI hr (by omega), nI_clamp (by omega), fr.1 1 (by omega), s1, if_neg (nI_ge hi (by omega)), m_idx, gi_nI (by omega) (by omega), nI_clamp (by omega), fr.1 2 (by omega), (hcs i hi).2, e2, b1_s, bnd_e, nI_1]
  · intro q s hs
    obtain ⟨fr, hd⟩ := hs
    refine ⟨s, ?_, fr, hd⟩
    unfold L6_run_105
    rw [gi_nI hr (by omega), nI_clamp (by omega), fr.1 1 (by omega), s1, if_pos (nI_le (Nat.le_refl _) (by omega))]
theorem e_run {σ τ : St} (h : Rel σ τ) (x y : Int32) : Sim (f5_run σ x y) (f6_run τ x y) := by
  obtain ⟨n, kd, bs, ds, kp, hA, hC, hM⟩ := h.2.2.2.2
  have hn6 := hA.2.1
  have hc := hC.cx hA
  have hm := hM.mx hA
  generalize rpl n kd bs ds = D at hc hm
  unfold f5_run f6_run
  rw [c_isRow, m_isRow, b1_s, b1_s]
  rcases ix x 6 (by omega) with hx | ⟨r, hr, rfl⟩
  · rw [inB_out hx, i00, i00]
    exact Sim.of h _
  rw [inB_nI hr (by omega), i10, i10, c_isRow, m_isRow, b1_s, b1_s]
  rcases ix y 6 (by omega) with hy | ⟨t, ht, rfl⟩
  · rw [inB_out hy, i00, i00]
    exact Sim.of h _
  rw [inB_nI ht (by omega), i10, i10, hC.1, hM.1]
  by_cases c0 : n = 0
  · subst c0
    rw [if_pos (by rfl), if_pos (by rfl)]
    exact Sim.of h _
  rw [if_neg (nI_ne0 (by omega) (by omega)), if_neg (nI_ne0 (by omega) (by omega)), gi_nI hr (by omega), nI_clamp (by omega)]
  rcases h.2.1 r hr with ⟨s1, s2⟩ | ⟨m, hm40, s1, s2, hcc⟩
  · rw [c_holds0 h.sh1 hr s1, b1_s, i00, s2, if_neg (by decide)]
    exact Sim.found h (k := 1) (by omega)
  rw [c_holds1 h.sh1 hr s1 (by omega), b1_s, i10, s2, if_pos (nI_pos' (by omega)), gi_nI hr (by omega), c_sizeOf h.sh1 hr, b1_s, show σ.1 (1 + 2) r = nI m from s1]
  by_cases c10 : m ≤ 10
  · rw [if_pos (show nI m ≤ 10 from nI_le (b := 10) c10 (by omega)), if_pos (show nI m ≤ 10 from nI_le (b := 10) c10 (by omega))]
    unfold f5_allColumns
    rcases e_cols (τ := τ) h.sh1 hr hm40 s1 s2 hcc (x2 := nI t) (K := fun (σ_14 : St) => b1 (f6_laysAside σ_14) fun σ_16 => L6_run_105 (nI r) (nI t) (fun (σ_23 : St) => b1 (f6_lays σ_23 (nI t) (σ_23.1 0 4)) fun σ_25 => b1 (f6_copies σ_25 7 0 2 (40 * (nI t)) (σ_25.1 0 4)) fun σ_27 => some (σ_27.1 7 0, σ_27)) FU 0 σ_16) m 0 FU FU (by omega) (by rw [FU_e]; omega) (by rw [FU_e]; omega) (fun p hp => absurd hp (Nat.not_lt_zero _)) with ⟨q1, q2⟩ | ⟨q1, q2, q3⟩
    · replace q1 : L5_allColumns_2 σ (nI r) (some 1) FU 0 = some 0 := q1
      replace q2 : L6_run_60 (nI r) (nI t) _ FU 0 τ = _ := q2
      rw [q1, q2, b1_s, i00]
      exact Sim.found h (k := 3) (by omega)
    · replace q1 : L5_allColumns_2 σ (nI r) (some 1) FU 0 = some 1 := q1
      replace q2 : L6_run_60 (nI r) (nI t) _ FU 0 τ = _ := q2
      rw [q1, q2, b1_s, i10]
      obtain ⟨cs, hcs⟩ : ∃ cs : Nat → Nat, ∀ i, i < m → cs i < 3 ∧ σ.1 2 (40 * r + i) = nI (cs i) := ⟨fun i => (σ.1 2 (40 * r + i)).toNatClampNeg, fun i hi => by
        obtain ⟨c, c1, c2⟩ := q3 i hi
        show (σ.1 2 (40 * r + i)).toNatClampNeg < 3 ∧ σ.1 2 (40 * r + i) = nI (σ.1 2 (40 * r + i)).toNatClampNeg
        rw [c2, nI_clamp (by omega)]
        exact ⟨c1, rfl⟩⟩
      obtain ⟨σ1, e1, f1, l1⟩ := c_passAll (r := r) (cs := cs) hc h.sh1 hr hm40 s1 hcs
      obtain ⟨τ0, e2, g0, m0⟩ := hm.aside
      obtain ⟨τ1, e3, g1, m1⟩ := m_passAll (r := r) (cs := cs) (x2 := nI t) (K := fun (σ_23 : St) => b1 (f6_lays σ_23 (nI t) (σ_23.1 0 4)) fun σ_25 => b1 (f6_copies σ_25 7 0 2 (40 * (nI t)) (σ_25.1 0 4)) fun σ_27 => some (σ_27.1 7 0, σ_27)) m0 hr hm40 (by rw [g0.1 1 (by omega)]; exact s2) (fun i hi => by rw [g0.1 2 (by omega), ← hcc i hi]; exact hcs i hi)
      have hR := h.scr f1 (g0.tr g1)
      rw [e1, b2_s, e2, b1_s, e3]
      have hcx := hc.fr f1
      obtain ⟨σ2, e4, u1, u2, u3, u4, u5⟩ := c_fill (σ := σ1) (r := t) (m := n) (a := 24) hR.sh1 ht (by show n ≤ 6; omega) (by omega) (by decide) (by decide)
      generalize hE : rnD kd D cs m = E at l1 m1
      have hl7 : ∀ i, i < n → τ1.1 7 i = nI (E.1.getD i 0) := fun i hi => by
        have := m1.2.2.2.1.1 i hi
        rw [Nat.zero_add] at this
        exact this
      have e14 : (wA (wI τ1 1 t (nI n)) 2 (flF (τ1.1 2) (40 * t) 40 0)).1 0 4 = nI n := m1.1
      have hcp := m_copies (τ := wA (wI τ1 1 t (nI n)) 2 (flF (τ1.1 2) (40 * t) 40 0)) (a := 7) (b := 2) (i := 0) (j := 40 * t) (m := n) (by decide) (by show 0 + n ≤ 25; omega) (by show 40 * t + n ≤ 240; omega) (by decide) (by decide)
      replace hcp : f6_copies (wA (wI τ1 1 t (nI n)) 2 (flF (τ1.1 2) (40 * t) 40 0)) 7 0 2 (nI (40 * t)) (nI n) = _ := hcp
      rw [hcx.1, e4, b1_s, m1.1, m_lays ht, b1_s, e14, show (40 : Int32) = nI 40 from rfl, pk_mul, hcp, b1_s]
      have ea : σ2.1 24 0 = nI (E.1.getD 0 0) := by
        rw [u1 24 (by omega) (by omega)]
        exact l1 0 (by omega)
      have eb : (wA (wA (wI τ1 1 t (nI n)) 2 (flF (τ1.1 2) (40 * t) 40 0)) 2 (cpG ((wA (wI τ1 1 t (nI n)) 2 (flF (τ1.1 2) (40 * t) 40 0)).1 2) ((wA (wI τ1 1 t (nI n)) 2 (flF (τ1.1 2) (40 * t) 40 0)).1 7) 0 (40 * t) n)).1 7 0 = nI (E.1.getD 0 0) := hl7 0 (by omega)
      rw [ea, eb]
      refine Sim.of ?_ _
      · refine hR.fill ht (show n ≤ 40 by omega) u1 u2 u3 u5 (fun c h1 h2 => ?_) rfl rfl (fun r' i h1 h2 h3 => ?_) (fun i hi => ?_)
        · rw [wA_n _ _ h2, wA_n _ _ h2, wI_n _ _ _ h1]
        · rw [wA_s, cpG_out (rowne h2 h3 (by omega)), wA_s]
          exact flF_ne h2 h3 (Nat.le_refl _)
        · rw [u4 i hi, wA_s, cpG_in hi, Nat.zero_add, l1 i hi]
          exact (hl7 i hi).symm
  · rw [if_neg (show ¬ nI m ≤ 10 from nI_ge (b := m) (show 10 < m by omega) (by omega)), if_neg (show ¬ nI m ≤ 10 from nI_ge (b := m) (show 10 < m by omega) (by omega))]
    exact Sim.found h (k := 5) (by omega)
