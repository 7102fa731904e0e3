/-! clues -/
def clue (f g : Nat → Int32) (r h : Nat) (c v : Nat → Nat) : Prop := h ≤ 8 ∧ f r = nI (2 * h) ∧ ∀ j, j < h → c j < 3 ∧ v j ≤ 10 ∧ g (40 * r + 2 * j) = nI (c j) ∧ g (40 * r + (2 * j + 1)) = nI (v j)
theorem n_2 (p : Nat) : nI p + 2 = nI (p + 2) := nI_add p 2
/-- what refusedClues asks after the row's number -/
noncomputable def rcB (σ : St) (x3 : Int32) : Option (Int32 × St) :=
  b1 (f3_holds σ 1 x3) fun r_8 =>
  (if r_8 = 0 then
  b2 (f5_found σ 1) fun r_35 σ_36 =>
  some (r_35, σ_36)
  else
  b1 (f3_sizeOf σ 1 x3) fun r_10 =>
  jn (b2 (f5_found σ 5) fun r_15 σ_16 =>
  some (r_15, σ_16)) fun j_11 =>
  (if (r_10 - r_10 / 2 * 2) = 0 then
  (if r_10 ≤ 16 then
  L5_refusedClues_74 x3 r_10 (fun (σ_33 : St) =>
  some (0, σ_33)) FU 0 σ
  else
  j_11)
  else
  j_11))
theorem e_pairsL {σ τ : St} {r h : Nat} (hsh : shf σ 1 40 6) (hr : r < 6) (hh : h ≤ 8) (s1 : σ.1 3 r = nI (2 * h)) (s2 : τ.1 1 r = nI (2 * h)) (hc : ∀ i, i < 2 * h → σ.1 2 (40 * r + i) = τ.1 2 (40 * r + i)) :
    ∀ (j p f g : Nat), p + j = h → j < f → j < g → (∀ q, q < p → ∃ c v, c < 3 ∧ v ≤ 10 ∧ σ.1 2 (40 * r + 2 * q) = nI c ∧ σ.1 2 (40 * r + (2 * q + 1)) = nI v) →
      (L5_refusedClues_74 (nI r) (nI (2 * h)) (fun σ => some (0, σ)) f (nI (2 * p)) σ = (b2 (f5_found σ 3) fun r σ => some (r, σ)) ∧ L6_pairs_38 τ (nI r) (some 0) g (nI (2 * p)) = some 3) ∨
      (L5_refusedClues_74 (nI r) (nI (2 * h)) (fun σ => some (0, σ)) f (nI (2 * p)) σ = some (0, σ) ∧ L6_pairs_38 τ (nI r) (some 0) g (nI (2 * p)) = some 0 ∧ ∀ q, q < h → ∃ c v, c < 3 ∧ v ≤ 10 ∧ σ.1 2 (40 * r + 2 * q) = nI c ∧ σ.1 2 (40 * r + (2 * q + 1)) = nI v) := by
  intro j
  induction j with
  | zero =>
    intro p f g h1 h2 h3 hp
    obtain ⟨q, rfl⟩ : ∃ q, f = q + 1 := ⟨f - 1, by omega⟩
    obtain ⟨q', rfl⟩ : ∃ q, g = q + 1 := ⟨g - 1, by omega⟩
    rw [Nat.add_zero] at h1
    subst h1
    right
    refine ⟨?_, ?_, hp⟩
    · unfold L5_refusedClues_74
      rw [nI_1, if_pos (nI_le (by omega) (by omega))]
    · unfold L6_pairs_38
      rw [gi_nI hr (by omega), nI_clamp (by omega), s2, if_pos (nI_le (Nat.le_refl _) (by omega))]
  | succ j ih =>
    intro p f g h1 h2 h3 hp
    obtain ⟨q, rfl⟩ : ∃ q, f = q + 1 := ⟨f - 1, by omega⟩
    obtain ⟨q', rfl⟩ : ∃ q, g = q + 1 := ⟨g - 1, by omega⟩
    have e11 : (11 : Int32).toInt = 11 := by decide
    generalize ha : σ.1 2 (40 * r + 2 * p) = a
    generalize hb : σ.1 2 (40 * r + (2 * p + 1)) = b
    have e1 : L5_refusedClues_74 (nI r) (nI (2 * h)) (fun σ => some (0, σ)) (q + 1) (nI (2 * p)) σ = if inB a 3 = 0 then (b2 (f5_found σ 3) fun r σ => some (r, σ)) else if inB b 11 = 0 then (b2 (f5_found σ 3) fun r σ => some (r, σ)) else L5_refusedClues_74 (nI r) (nI (2 * h)) (fun σ => some (0, σ)) q (nI (2 * (p + 1))) σ := by
      conv => lhs; unfold L5_refusedClues_74
      simp only [jn_e, bnd_e]
      rw [nI_1, if_neg (nI_ge (by omega) (by omega)), c_get hsh hr s1 (by omega) (by omega), b1_s, c_get hsh hr s1 (by omega) (by omega), b1_s, c_isColumn, b1_s, n_2, show σ.1 (1 + 1) (40 * r + 2 * p) = a from ha, show σ.1 (1 + 1) (40 * r + (2 * p + 1)) = b from hb, show 2 * p + 2 = 2 * (p + 1) by omega]
      by_cases c1 : b.toInt < 0
      · rw [if_pos (show b < 0 by rw [i_lt, i_0]; exact c1), inB_out (x := b) (Or.inl c1), i00]
      · rw [if_neg (show ¬ b < 0 by rw [i_lt, i_0]; exact c1)]
        by_cases c2 : b.toInt < 11
        · rw [if_pos (show b < 11 by rw [i_lt, e11]; exact c2), show inB b 11 = 1 by unfold inB; rw [if_pos (by omega)], i10]
        · rw [if_neg (show ¬ b < 11 by rw [i_lt, e11]; exact c2), inB_out (x := b) (Or.inr (by omega)), i00]
    have e2 : L6_pairs_38 τ (nI r) (some 0) (q' + 1) (nI (2 * p)) = if inB a 3 = 0 then some 3 else if inB b 11 = 0 then some 3 else L6_pairs_38 τ (nI r) (some 0) q' (nI (2 * (p + 1))) := by
      conv => lhs; unfold L6_pairs_38
      rw [gi_nI hr (by omega), nI_clamp (by omega), s2, if_neg (nI_ge (by omega) (by omega)), m_idx, gi_nI (by omega) (by omega), nI_clamp (by omega), ← hc _ (by omega), ha, m_isColumn, b1_s, nI_1, gi_nI (by omega) (by omega), nI_clamp (by omega), Nat.add_assoc, ← hc _ (by omega), hb, m_inB b 11 10 (by decide), b1_s, bnd_e, n_2, show 2 * p + 2 = 2 * (p + 1) by omega]
    rw [e1, e2]
    rcases ix a 3 (by omega) with hx | ⟨c, hc3, ex⟩
    · left
      rw [inB_out hx, i00, i00]
      exact ⟨rfl, rfl⟩
    rw [ex, inB_nI hc3 (by omega), i10, i10]
    rcases ix b 11 (by omega) with hy | ⟨v, hv, ey⟩
    · left
      rw [inB_out hy, i00, i00]
      exact ⟨rfl, rfl⟩
    rw [ey, inB_nI hv (by omega), i10, i10]
    refine ih (p + 1) q q' (by omega) (by omega) (by omega) (fun w hw => ?_)
    by_cases e : w = p
    · subst e
      exact ⟨c, v, hc3, by omega, ha.trans ex, hb.trans ey⟩
    · exact hp w (by omega)
theorem e_pairs {σ τ : St} (h : Rel σ τ) {r : Nat} (hr : r < 6) : (∃ k, 1 ≤ k ∧ k < 6 ∧ rcB σ (nI r) = (b2 (f5_found σ (nI k)) fun r σ => some (r, σ)) ∧ f6_pairs τ (nI r) = some (nI k)) ∨ (rcB σ (nI r) = some (0, σ) ∧ f6_pairs τ (nI r) = some 0 ∧ ∃ hh c v, clue (σ.1 3) (σ.1 2) r hh c v ∧ clue (τ.1 1) (τ.1 2) r hh c v) := by
  unfold rcB f6_pairs
  simp only [jn_e]
  rw [gi_nI hr (by omega), nI_clamp (by omega)]
  rcases h.2.1 r hr with ⟨s1, s2⟩ | ⟨m, hm40, s1, s2, hcc⟩
  · left
    refine ⟨1, by omega, by omega, ?_, ?_⟩
    · rw [c_holds0 h.sh1 hr s1, b1_s, i00]
      rfl
    · rw [s2, if_neg (by decide)]
      rfl
  rw [c_holds1 h.sh1 hr s1 (by omega), b1_s, i10, c_sizeOf h.sh1 hr, b1_s, show σ.1 (1 + 2) r = nI m from s1, s2, if_pos (nI_pos' (by omega)), gi_nI hr (by omega), gi_nI hr (by omega), show (2 : Int32) = nI 2 from rfl, pk_rem (by omega) (by omega) (by omega)]
  by_cases c16 : m ≤ 16
  · rw [if_pos (show nI m ≤ 16 from nI_le (b := 16) c16 (by omega)), if_neg (show ¬ (16 : Int32) < nI m from nI_nlt (a := 16) c16 (by omega))]
    by_cases c2 : m % 2 = 0
    · rw [c2, if_pos (by rfl), if_neg (by decide)]
      obtain ⟨hh, rfl⟩ : ∃ hh, m = 2 * hh := ⟨m / 2, by omega⟩
      rcases e_pairsL (σ := σ) (τ := τ) h.sh1 hr (by omega) s1 s2 hcc hh 0 FU FU (by omega) (by rw [FU_e]; omega) (by rw [FU_e]; omega) (fun q hq => absurd hq (Nat.not_lt_zero _)) with ⟨q1, q2⟩ | ⟨q1, q2, q3⟩
      · left
        exact ⟨3, by omega, by omega, q1, q2⟩
      · right
        refine ⟨q1, q2, hh, fun j => (σ.1 2 (40 * r + 2 * j)).toNatClampNeg, fun j => (σ.1 2 (40 * r + (2 * j + 1))).toNatClampNeg, ⟨by omega, s1, fun j hj => ?_⟩, ⟨by omega, s2, fun j hj => ?_⟩⟩
        · obtain ⟨c, v, c1, c2, c3, c4⟩ := q3 j hj
          show (σ.1 2 (40 * r + 2 * j)).toNatClampNeg < 3 ∧ (σ.1 2 (40 * r + (2 * j + 1))).toNatClampNeg ≤ 10 ∧ σ.1 2 (40 * r + 2 * j) = nI (σ.1 2 (40 * r + 2 * j)).toNatClampNeg ∧ σ.1 2 (40 * r + (2 * j + 1)) = nI (σ.1 2 (40 * r + (2 * j + 1))).toNatClampNeg
          rw [c3, c4, nI_clamp (by omega), nI_clamp (by omega)]
          exact ⟨c1, c2, rfl, rfl⟩
        · obtain ⟨c, v, c1, c2, c3, c4⟩ := q3 j hj
          show (σ.1 2 (40 * r + 2 * j)).toNatClampNeg < 3 ∧ (σ.1 2 (40 * r + (2 * j + 1))).toNatClampNeg ≤ 10 ∧ τ.1 2 (40 * r + 2 * j) = nI (σ.1 2 (40 * r + 2 * j)).toNatClampNeg ∧ τ.1 2 (40 * r + (2 * j + 1)) = nI (σ.1 2 (40 * r + (2 * j + 1))).toNatClampNeg
          rw [← hcc _ (by omega), ← hcc _ (by omega), c3, c4, nI_clamp (by omega), nI_clamp (by omega)]
          exact ⟨c1, c2, rfl, rfl⟩
    · left
      rw [show m % 2 = 1 by omega, if_neg (by decide), if_pos (by rfl)]
      exact ⟨5, by omega, by omega, rfl, rfl⟩
  · left
    rw [if_neg (show ¬ nI m ≤ 16 from nI_ge (a := 16) (by omega) (by omega)), if_pos (show (16 : Int32) < nI m from nI_lt (a := 16) (by omega) (by omega))]
    refine ⟨5, by omega, by omega, ?_, rfl⟩
    split <;> rfl
/-- all clues hold of a card of this kind with these figures -/
def fit (k : Nat) (g : Nat → Nat) (p h : Nat) (c v : Nat → Nat) : Bool := allB (fun j => decide (rdg k g (c j) p = v j)) h
theorem c_fits {σ : St} {r h k p : Nat} {c v g : Nat → Nat} (hsh : shf σ 1 40 6) (hr : r < 6) (hc : clue (σ.1 3) (σ.1 2) r h c v) (hv : ∀ c, c < 3 → σ.1 32 c = nI (g c)) (hg : ∀ c, c < 3 → g c ≤ 9) (hk : k < 6) (hp : p ≤ 60) : f0_fits σ (nI k) (nI p) (nI r) = some (bI (fit k g p h c v)) := by
  obtain ⟨c1, c2, c3⟩ := hc
  unfold f0_fits
  have main : ∀ (j q f : Nat), q + j = h → j < f → allB (fun j => decide (rdg k g (c j) p = v j)) q = true → L0_fits_3 σ (nI k) (nI p) (nI r) (some 1) f (nI (2 * q)) = some (bI (fit k g p h c v)) := by
    intro j
    induction j with
    | zero =>
      intro q f h1 h2 ht
      obtain ⟨f', rfl⟩ : ∃ q, f = q + 1 := ⟨f - 1, by omega⟩
      rw [Nat.add_zero] at h1
      subst h1
      unfold L0_fits_3 fit
      rw [c_sizeOf hsh hr, b1_s, show σ.1 (1 + 2) r = nI (2 * q) from c2, nI_1, if_pos (nI_le (by omega) (by omega)), ht]
      rfl
    | succ j ih =>
      intro q f h1 h2 ht
      obtain ⟨f', rfl⟩ : ∃ q, f = q + 1 := ⟨f - 1, by omega⟩
      obtain ⟨d1, d2, d3, d4⟩ := c3 q (by omega)
      have hrd := c_reading (σ := σ) (a := 32) (o := 0) (c := c q) (kd := k) (p := p) (g := g) (by decide) (by decide) (fun c hc => by rw [Nat.zero_add]; exact hv c hc) hg d1 hk hp
      have hle := rdg_le (kd := k) (p := p) hg d1
      unfold L0_fits_3
      rw [c_sizeOf hsh hr, b1_s, show σ.1 (1 + 2) r = nI (2 * h) from c2, nI_1, if_neg (nI_ge (by omega) (by omega)), c_get hsh hr c2 (by omega) (by omega), b1_s, show σ.1 (1 + 1) (40 * r + 2 * q) = nI (c q) from d3, show (0 : Int32) = nI 0 from rfl, hrd, b1_s, c_get hsh hr c2 (by omega) (by omega), b1_s, show σ.1 (1 + 1) (40 * r + (2 * q + 1)) = nI (v q) from d4, bnd_e, n_2, show 2 * q + 2 = 2 * (q + 1) by omega, ← show (0 : Int32) = nI 0 from rfl]
      by_cases e : rdg k g (c q) p = v q
      · rw [if_pos (by rw [e])]
        refine ih (q + 1) f' (by omega) (by omega) ?_
        show (allB (fun j => decide (rdg k g (c j) p = v j)) q && decide (rdg k g (c q) p = v q)) = true
        rw [ht, decide_eq_true e]
        rfl
      · rw [if_neg (by rw [nI_eq (by omega) (by omega)]; exact e)]
        unfold fit
        rw [allB_f (p := fun j => decide (rdg k g (c j) p = v j)) (i := q) (decide_eq_false e) h (by omega)]
        rfl
  exact main h 0 FU (by omega) (by rw [FU_e]; omega) rfl
theorem m_comesSo {τ : St} {n i r h k : Nat} {kd : Nat → Nat} {D : Dk} {c v g : Nat → Nat} (hm : mD τ 6 n kd D) (hi : i < n) (hr : r < 6) (hc : clue (τ.1 1) (τ.1 2) r h c v) (hv : ∀ c, c < 3 → τ.1 7 (6 + 3 * i + c) = nI (g c)) (hg : ∀ c, c < 3 → g c ≤ 9) (hk : k < 6) : f6_comesSo τ (nI i) (nI k) (nI r) = some (bI (fit k g D.2.2 h c v)) := by
  obtain ⟨c1, c2, c3⟩ := hc
  have hn := hm.2.1
  have h24 := hm.2.2.2.1.2.2
  rw [Nat.zero_add] at h24
  have hp := hm.2.2.2.2.2.2.2.2
  unfold f6_comesSo
  have main : ∀ (j q f : Nat), q + j = h → j < f → L6_comesSo_6 τ (nI i) (nI k) (nI r) (fun x => bz x (some x)) f (bI (allB (fun j => decide (rdg k g (c j) D.2.2 = v j)) q)) (nI (2 * q)) = some (bI (fit k g D.2.2 h c v)) := by
    intro j
    induction j with
    | zero =>
      intro q f h1 h2
      obtain ⟨f', rfl⟩ : ∃ q, f = q + 1 := ⟨f - 1, by omega⟩
      rw [Nat.add_zero] at h1
      subst h1
      unfold L6_comesSo_6 fit
      rw [gi_nI hr (by omega), nI_clamp (by omega), c2, if_pos (nI_le (Nat.le_refl _) (by omega))]
      cases allB (fun j => decide (rdg k g (c j) D.2.2 = v j)) q
      · exact bz_0 _
      · exact bz_1 _
    | succ j ih =>
      intro q f h1 h2
      obtain ⟨f', rfl⟩ : ∃ q, f = q + 1 := ⟨f - 1, by omega⟩
      obtain ⟨d1, d2, d3, d4⟩ := c3 q (by omega)
      have hrd := m_readsBy (τ := τ) (a := 7) (o := 6 + 3 * i) (c := c q) (kd := k) (p := D.2.2) (g := g) (by show 6 + 3 * i + 3 ≤ 25; omega) (by decide) hv hg d1 hk hp
      have hle := rdg_le (kd := k) (p := D.2.2) hg d1
      unfold L6_comesSo_6
      simp only [jn_e, bnd_e]
      rw [gi_nI hr (by omega), nI_clamp (by omega), c2, if_neg (nI_ge (by omega) (by omega)), m_idx, gi_nI (by omega) (by omega), nI_clamp (by omega), d3, h24, show (6 : Int32) = nI 6 from rfl, show (3 : Int32) = nI 3 from rfl, pk_mul, nI_add, hrd, b1_s, nI_1, gi_nI (by omega) (by omega), nI_clamp (by omega), Nat.add_assoc, d4, n_2, show 2 * q + 2 = 2 * (q + 1) by omega]
      have hx := ih (q + 1) f' (by omega) (by omega)
      rw [show allB (fun j => decide (rdg k g (c j) D.2.2 = v j)) (q + 1) = (allB (fun j => decide (rdg k g (c j) D.2.2 = v j)) q && decide (rdg k g (c q) D.2.2 = v q)) from rfl] at hx
      revert hx
      cases allB (fun j => decide (rdg k g (c j) D.2.2 = v j)) q
      · intro hx
        rw [show bI false = 0 from rfl, i00]
        exact hx
      · intro hx
        rw [show bI true = 1 from rfl, i10]
        by_cases e : rdg k g (c q) D.2.2 = v q
        · rw [if_pos (by rw [e])]
          rw [decide_eq_true e] at hx
          exact hx
        · rw [if_neg (by rw [nI_eq (by omega) (by omega)]; exact e)]
          rw [decide_eq_false e] at hx
          exact hx
  exact main h 0 FU (by omega) (by rw [FU_e]; omega)
theorem c_suppose {σ : St} {n i : Nat} {D : Dk} (h : clD σ n D) (hn : n ≤ 6) (hi : i < n) : ∃ σ', f0_suppose σ (nI i) = some σ' ∧ (∀ c, c ≠ 32 → σ'.1 c = σ.1 c) ∧ σ'.2 = σ.2 ∧ ∀ c, c < 3 → σ'.1 32 c = nI (D.2.1 (3 * i + c)) := by
  unfold f0_suppose
  refine up0 (fun q c s => L0_suppose_2 (nI i) (fun σ => some σ) q c s) 3 (by omega) (fun k s => (∀ c, c ≠ 32 → s.1 c = σ.1 c) ∧ s.2 = σ.2 ∧ ∀ c, c < k → s.1 32 c = nI (D.2.1 (3 * i + c))) (fun o => ∃ σ', o = some σ' ∧ (∀ c, c ≠ 32 → σ'.1 c = σ.1 c) ∧ σ'.2 = σ.2 ∧ ∀ c, c < 3 → σ'.1 32 c = nI (D.2.1 (3 * i + c))) ?_ ?_ σ ⟨fun _ _ => rfl, rfl, fun c hc => absurd hc (Nat.not_lt_zero _)⟩
  · intro q k s hk hs
    obtain ⟨f1, f2, f3⟩ := hs
    have h' : clD s n D := by
      unfold clD at h ⊢
      rw [f1 17 (by omega), f1 16 (by omega), f1 13 (by omega)]
      exact h
    left
    refine ⟨wI s 32 k (nI (D.2.1 (3 * i + k))), ⟨fun c hc => by rw [wI_n _ _ _ hc]; exact f1 c hc, f2, fun c hc => ?_⟩, ?_⟩
    · rw [wI_s, upd_a]
      by_cases e : c = k
      · rw [if_pos e, e]
      · rw [if_neg e]
        exact f3 c (by omega)
    · conv => lhs; unfold L0_suppose_2
      rw [if_neg (show ¬ (3 : Int32) ≤ nI k from nI_ge (b := 3) hk (by omega)), c_figureOf h' hn hi hk, b1_s, gi_nI hk (by omega), bnd_e, bnd_e, nI_clamp (by omega), nI_1]
  · intro q s hs
    exact ⟨s, by unfold L0_suppose_2; exact if_pos (show (3 : Int32) ≤ nI 3 by decide), hs⟩
theorem orI_st (g : Nat → Bool) (c : Nat) : orI g (c + 1) = if g c = true then orI g c ||| 1 <<< (nI c &&& 31) else orI g c := by
  show orI g c ||| (if g c = true then 1 <<< (nI c &&& 31) else 0) = _
  cases g c
  · rw [if_neg (by decide), if_neg (by decide), Int32.or_zero]
  · rw [if_pos rfl, if_pos rfl]
/-- the kinds that fit, as both find them -/
theorem e_kindsOf {σ τ : St} {n i r h : Nat} {kd c v : Nat → Nat} {D : Dk} (hc : CX σ n kd D) (hm : mD τ 6 n kd D) (hsh : shf σ 1 40 6) (hi : i < n) (hr : r < 6) (q1 : clue (σ.1 3) (σ.1 2) r h c v) (q2 : clue (τ.1 1) (τ.1 2) r h c v) :
    ∃ σ' τ', f0_kindsOf σ (nI i) (nI r) = some (orI (fun k => fit k (fun c => D.2.1 (3 * i + c)) D.2.2 h c v) 6, σ') ∧ f6_kindsBy τ (nI i) (nI r) = some (orI (fun k => fit k (fun c => D.2.1 (3 * i + c)) D.2.2 h c v) 6, τ') ∧ frS σ σ' ∧ frA τ τ' := by
  have hn := hc.2.1
  have hp := hc.2.2.2.2.2.2.2.2
  have hg : ∀ c, c < 3 → D.2.1 (3 * i + c) ≤ 9 := fun c hc' => hc.2.2.2.2.2.2.2.1 _ (by omega)
  generalize hG : (fun k => fit k (fun c => D.2.1 (3 * i + c)) D.2.2 h c v) = G
  obtain ⟨σ1, e1, f1, f2, f3⟩ := c_suppose hc.2.2.2.1 hn hi
  obtain ⟨τ1, e2, g1, m1⟩ := hm.aside
  have fS : frS σ σ1 := ⟨fun c hc => f1 c (by omega), f2⟩
  refine ⟨σ1, τ1, ?_, ?_, fS, g1⟩
  · unfold f0_kindsOf
    rw [e1, b1_s]
    have hsh1 : shf σ1 1 40 6 := ⟨hsh.1, hsh.2.1, hsh.2.2.1, by rw [f1 1 (by omega)]; exact hsh.2.2.2.1, hsh.2.2.2.2⟩
    have q1' : clue (σ1.1 3) (σ1.1 2) r h c v := by rw [f1 3 (by omega), f1 2 (by omega)]; exact q1
    have h8 : σ1.1 13 8 = nI D.2.2 := by rw [f1 13 (by omega)]; exact hc.2.2.2.1.2.2
    refine up0 (fun q k s => L0_kindsOf_12 σ1 (nI r) (fun x5_14 => some (x5_14, σ1)) q s k) 6 (by omega) (fun k s => s = orI G k) (fun o => o = some (orI G 6, σ1)) ?_ ?_ 0 rfl
    · intro q k s hk hs
      left
      refine ⟨_, rfl, ?_⟩
      subst hs
      conv => lhs; unfold L0_kindsOf_12
      simp only [jn_e, bnd_e]
      rw [if_neg (show ¬ (6 : Int32) ≤ nI k from nI_ge (b := 6) hk (by omega)), h8, c_fits hsh1 hr q1' f3 hg hk hp, b1_s, nI_1, orI_st, show fit k (fun c => D.2.1 (3 * i + c)) D.2.2 h c v = G k by rw [← hG]]
      cases G k
      · rw [show bI false = 0 from rfl, i00, if_neg (by decide)]
      · rw [show bI true = 1 from rfl, i10, if_pos rfl]
    · intro q s hs
      subst hs
      unfold L0_kindsOf_12
      exact if_pos (show (6 : Int32) ≤ nI 6 by decide)
  · unfold f6_kindsBy
    rw [e2, b1_s]
    have q2' : clue (τ1.1 1) (τ1.1 2) r h c v := by rw [g1.1 1 (by omega), g1.1 2 (by omega)]; exact q2
    have hv : ∀ c, c < 3 → τ1.1 7 (6 + 3 * i + c) = nI (D.2.1 (3 * i + c)) := fun c hc' => by
      have := m1.2.2.2.1.2.1 (3 * i + c) (by omega)
      rw [Nat.zero_add] at this
      rw [Nat.add_assoc]
      exact this
    refine up0 (fun q k s => L6_kindsBy_9 τ1 (nI i) (nI r) (fun x3_14 => some (x3_14, τ1)) q s k) 6 (by omega) (fun k s => s = orI G k) (fun o => o = some (orI G 6, τ1)) ?_ ?_ 0 rfl
    · intro q k s hk hs
      left
      refine ⟨_, rfl, ?_⟩
      subst hs
      conv => lhs; unfold L6_kindsBy_9
      simp only [jn_e, bnd_e]
      rw [if_neg (show ¬ (6 : Int32) ≤ nI k from nI_ge (b := 6) hk (by omega)), m_comesSo (hm.fr g1) hi hr q2' hv hg hk, b1_s, nI_1, orI_st, show fit k (fun c => D.2.1 (3 * i + c)) D.2.2 h c v = G k by rw [← hG]]
      cases G k
      · rw [show bI false = 0 from rfl, i00, if_neg (by decide), Int32.or_zero]
      · rw [show bI true = 1 from rfl, i10, if_pos rfl]
    · intro q s hs
      subst hs
      unfold L6_kindsBy_9
      exact if_pos (show (6 : Int32) ≤ nI 6 by decide)
theorem c_refClues {σ : St} {n : Nat} (h : σ.1 13 7 = nI n) (hn : n ≤ 6) (x y z : Int32) : f5_refusedClues σ x y z = if inB x n = 0 then some (-1, σ) else if inB y 3 = 0 then some (-1, σ) else if inB z 6 = 0 then some (-1, σ) else rcB σ z := by
  unfold f5_refusedClues rcB
  rw [c_isCard h hn, b1_s, c_isColumn, b1_s, c_isRow, b1_s]
theorem e_kinds {σ τ : St} (h : Rel σ τ) (x y : Int32) : Sim (f5_kinds σ x y) (f6_kinds τ x y) := by
  obtain ⟨n, kd, bs, ds, kp, hA, hC, hM⟩ := h.2.2.2.2
  have hn6 := hA.2.1
  have hc := hC.cx hA
  have hm := hM.mx hA
  generalize rpl n kd bs ds = D at hc hm
  unfold f5_kinds f6_kinds
  rw [c_refClues hC.1 hn6, m_isCard hM.1 hn6, b1_s, m_isRow, b1_s, show inB 0 3 = 1 from inB_nI (j := 0) (by omega) (by omega), i10]
  rcases ix x n (by omega) with hx | ⟨i, hi, rfl⟩
  · rw [inB_out hx, i00, i00, b2_s, im1]
    exact Sim.of h _
  rw [inB_nI hi (by omega), i10, i10]
  rcases ix y 6 (by omega) with hy | ⟨r, hr, rfl⟩
  · rw [inB_out hy, i00, i00, b2_s, im1]
    exact Sim.of h _
  rw [inB_nI hr (by omega), i10, i10]
  rcases e_pairs h hr with ⟨k, k1, k2, p1, p2⟩ | ⟨p1, p2, hh, c, v, q1, q2⟩
  · obtain ⟨g1, g2, g3⟩ := h.found k2
    rw [p1, p2, b1_s, if_neg (nI_nle k1 (by omega)), g1, g2, b2_s, b2_s, b2_s, im3]
    exact Sim.of g3 _
  · rw [p1, p2, b1_s, b2_s, i00, if_pos (by decide)]
    obtain ⟨σ', τ', e1, e2, f1, f2⟩ := e_kindsOf hc hm h.sh1 hi hr q1 q2
    rw [e1, e2, b2_s, b2_s]
    exact Sim.of (h.scr f1 f2) _
