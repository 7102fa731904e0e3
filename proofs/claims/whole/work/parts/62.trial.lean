/-! what lies aside -/
def frS (σ σ' : St) : Prop := (∀ c, c < 18 ∨ c = 20 ∨ c = 34 → σ'.1 c = σ.1 c) ∧ σ'.2 = σ.2
def frA (τ τ' : St) : Prop := (∀ c, c < 7 ∨ (8 ≤ c ∧ c ≤ 11) → τ'.1 c = τ.1 c) ∧ τ'.2 = τ.2
theorem frS.rf (σ : St) : frS σ σ := ⟨fun _ _ => rfl, rfl⟩
theorem frS.tr {σ σ' σ'' : St} (h : frS σ σ') (g : frS σ' σ'') : frS σ σ'' := ⟨fun c hc => (g.1 c hc).trans (h.1 c hc), g.2.trans h.2⟩
theorem frA.rf (σ : St) : frA σ σ := ⟨fun _ _ => rfl, rfl⟩
theorem frA.tr {σ σ' σ'' : St} (h : frA σ σ') (g : frA σ' σ'') : frA σ σ'' := ⟨fun c hc => (g.1 c hc).trans (h.1 c hc), g.2.trans h.2⟩
theorem Rel.scr {σ σ' τ τ' : St} (h : Rel σ τ) (f : frS σ σ') (g : frA τ τ') : Rel σ' τ' := by
  obtain ⟨f1, f2⟩ := f
  obtain ⟨g1, g2⟩ := g
  refine h.chg ?_ ?_ ⟨?_, ?_, ?_, ?_, fun k hk => ?_⟩ (f1 1 (by omega)) (f1 4 (by omega)) (f1 7 (by omega)) (f1 8 (by omega)) (f1 9 (by omega)) (f1 13 (by omega)) (f1 14 (by omega)) (f1 15 (by omega)) (f1 16 (by omega)) (f1 17 (by omega)) (f1 20 (by omega)) (by rw [g1 0 (by omega)]) (by rw [g1 0 (by omega)]) (g1 5 (by omega)) (g1 6 (by omega)) (g1 8 (by omega)) (g1 9 (by omega)) (g1 10 (by omega))
  · rw [f1 3 (by omega), f1 2 (by omega), g1 1 (by omega), g1 2 (by omega)]; exact h.2.1
  · rw [f1 6 (by omega), f1 5 (by omega), g1 3 (by omega), g1 4 (by omega)]; exact h.2.2.1
  · rw [f1 0 (by omega), g1 0 (by omega)]; exact h.2.2.2.1.1
  · rw [f2, g2]; exact h.2.2.2.1.2.1
  · rw [f2, g2]; exact h.2.2.2.1.2.2.1
  · rw [f1 0 (by omega), g1 0 (by omega)]; exact h.2.2.2.1.2.2.2.1
  · rw [f1 34 (by omega), g1 11 (by omega)]; exact h.2.2.2.1.2.2.2.2 k hk
theorem CX.fr {σ σ' : St} {n : Nat} {kd : Nat → Nat} {D : Dk} (h : CX σ n kd D) (f : frS σ σ') : CX σ' n kd D := by
  unfold CX clD at h ⊢
  rw [f.1 13 (by omega), f.1 14 (by omega), f.1 17 (by omega), f.1 16 (by omega)]
  exact h
theorem mD.fr {τ τ' : St} {n : Nat} {kd : Nat → Nat} {D : Dk} (h : mD τ 6 n kd D) (f : frA τ τ') : mD τ' 6 n kd D := by
  unfold mD at h ⊢
  rw [f.1 0 (by omega), f.1 5 (by omega), f.1 6 (by omega)]
  exact h
theorem CX.cd {σ : St} {n : Nat} {kd : Nat → Nat} {D : Dk} (h : CX σ n kd D) : cD σ n kd D.2.1 := ⟨h.1, h.2.1, h.2.2.1, fun k hk => ⟨h.2.2.2.1.2.1 k hk, h.2.2.2.2.2.2.2.1 k hk⟩⟩
/-- a trial of the class: cards lying in cell a as E tells -/
def lieA (σ : St) (a n : Nat) (E : Dk) : Prop := ∀ i, i < n → σ.1 a i = nI (E.1.getD i 0)
def psD (kd : Nat → Nat) (D : Dk) (col : Nat) : Dk := (pas kd D col 0, D.2.1, min 60 (D.2.2 + 1))
/-- a trial pass -/
theorem CX.sift {σ : St} {n : Nat} {kd : Nat → Nat} {D E : Dk} (h : CX σ n kd D) (hE : okD n E) (he : E.2.1 = D.2.1) {a1 a2 col mis : Nat} (h1 : okA a1) (h2 : 24 ≤ a2 ∧ a2 ≤ 30) (hv : lieA σ a1 n E) (hc : col < 3) (hm : mis < 64) :
    ∃ σ', f1_sift σ a1 a2 (nI col) (nI E.2.2) (nI mis) = some σ' ∧ frS σ σ' ∧ (∀ c, c ≠ a2 → c ≠ 19 → σ'.1 c = σ.1 c) ∧ ∀ i, i < n → σ'.1 a2 i = nI ((pas kd E col mis).getD i 0) := by
  obtain ⟨σ', e, f1, f2, f3⟩ := c_sift (a1 := a1) (a2 := a2) (l := E.1) (col := col) (p := E.2.2) (mis := mis) h.cd h1 (Or.inr h2) hE.1 hE.2.2.1 hv hc hE.2.2.2.2 hm
  refine ⟨σ', e, ⟨fun c hc => f1 c (by omega) (by omega), f2⟩, f1, fun i hi => ?_⟩
  rw [f3 i hi]
  unfold pas
  rw [he]
theorem CX.lie {σ : St} {n : Nat} {kd : Nat → Nat} {D : Dk} (h : CX σ n kd D) : lieA σ 17 n D := h.2.2.2.1.1
theorem CX.once {σ : St} {n : Nat} {kd : Nat → Nat} {D : Dk} (h : CX σ n kd D) {col mis : Nat} (hc : col < 3) (hm : mis < 64) :
    ∃ σ', f4_passOnce σ (nI col) (nI mis) = some (24, σ') ∧ frS σ σ' ∧ ∀ i, i < n → σ'.1 24 i = nI ((pas kd D col mis).getD i 0) := by
  obtain ⟨σ', e, f1, f2, f3⟩ := h.sift h.2.2.2.2 rfl (a1 := 17) (a2 := 24) (Or.inl rfl) (by omega) h.lie hc hm
  refine ⟨σ', ?_, f1, f3⟩
  unfold f4_passOnce
  rw [h.2.2.2.1.2.2, e, b1_s]
theorem c_layAs {σ : St} {n a1 a2 : Nat} (hn : n ≤ 6) (h1 : okA a1) (h2 : 24 ≤ a2 ∧ a2 ≤ 30) (hne : a1 ≠ a2) : ∃ σ', f4_layAs σ a1 a2 (nI n) = some σ' ∧ frS σ σ' ∧ (∀ c, c ≠ a2 → σ'.1 c = σ.1 c) ∧ ∀ i, i < n → σ'.1 a2 i = σ.1 a1 i := by
  have l1 := h1.ln
  have l2 : lnC a2 = 6 := okA.ln (Or.inr h2)
  unfold f4_layAs
  refine up0 (fun q i s => L4_layAs_2 a1 a2 (nI n) (fun σ => some σ) q i s) n (by omega) (fun k s => (∀ c, c ≠ a2 → s.1 c = σ.1 c) ∧ s.2 = σ.2 ∧ ∀ i, i < k → s.1 a2 i = σ.1 a1 i) (fun o => ∃ σ', o = some σ' ∧ frS σ σ' ∧ (∀ c, c ≠ a2 → σ'.1 c = σ.1 c) ∧ ∀ i, i < n → σ'.1 a2 i = σ.1 a1 i) ?_ ?_ σ ⟨fun _ _ => rfl, rfl, fun i hi => absurd hi (Nat.not_lt_zero _)⟩
  · intro q k s hk hs
    left
    obtain ⟨g1, g2, g3⟩ := hs
    refine ⟨wI s a2 k (s.1 a1 k), ⟨fun c hc => by rw [wI_n _ _ _ hc]; exact g1 c hc, g2, fun i hi => ?_⟩, ?_⟩
    · rw [wI_s, upd_a]
      by_cases e : i = k
      · rw [if_pos e, g1 a1 hne, e]
      · rw [if_neg e]
        exact g3 i (by omega)
    · conv => lhs; unfold L4_layAs_2
      rw [if_neg (nI_ge hk (by omega)), l1, l2, gi_nI (by omega) (by omega), gi_nI (by omega) (by omega), bnd_e, bnd_e, nI_clamp (by omega), nI_1]
  · intro q s hs
    obtain ⟨g1, g2, g3⟩ := hs
    refine ⟨s, ?_, ⟨fun c hc => g1 c (by omega), g2⟩, g1, g3⟩
    unfold L4_layAs_2
    rw [if_pos (nI_le (Nat.le_refl _) (by omega))]
theorem CX.start {σ : St} {n : Nat} {kd : Nat → Nat} {D : Dk} (h : CX σ n kd D) : ∃ σ', f4_start σ = some σ' ∧ frS σ σ' ∧ lieA σ' 24 n D := by
  obtain ⟨σ', e, f1, f2, f3⟩ := c_layAs (σ := σ) (a1 := 17) (a2 := 24) h.2.1 (Or.inl rfl) (by omega) (by omega)
  refine ⟨σ', ?_, f1, fun i hi => by rw [f3 i hi]; exact h.lie i hi⟩
  unfold f4_start
  rw [h.1, e, b1_s]
/-- the reference lays aside -/
theorem mD.aside {τ : St} {n : Nat} {kd : Nat → Nat} {D : Dk} (h : mD τ 6 n kd D) : ∃ τ', f6_laysAside τ = some τ' ∧ frA τ τ' ∧ mD τ' 7 n kd D := by
  have hcp := m_copies (τ := τ) (a := 6) (b := 7) (i := 0) (j := 0) (m := 25) (by decide) (by decide) (by decide) (by decide) (by decide)
  refine ⟨wA τ 7 (cpG (τ.1 7) (τ.1 6) 0 0 25), ?_, ⟨fun c hc => wA_n _ _ (by omega), rfl⟩, ?_⟩
  · unfold f6_laysAside
    rw [show f6_copies τ 6 0 7 0 25 = f6_copies τ 6 (nI 0) 7 (nI 0) (nI 25) from rfl, hcp, b1_s]
  · obtain ⟨h1, h2, h3, ⟨s1, s2, s3⟩, h5⟩ := h
    have e : ∀ p, p < 25 → cpG (τ.1 7) (τ.1 6) 0 0 25 p = τ.1 6 p := fun p hp => by
      have := cpG_in (t := τ.1 7) (f := τ.1 6) (i := 0) (j := 0) (m := 25) (p := p) hp
      rw [Nat.zero_add] at this
      exact this
    refine ⟨h1, h2, h3, ⟨fun i hi => ?_, fun k hk => ?_, ?_⟩, h5⟩
    · rw [wA_s, e _ (by omega)]; exact s1 i hi
    · rw [wA_s, e _ (by omega)]; exact s2 k hk
    · rw [wA_s, e _ (by omega)]; exact s3
theorem mD.passA {τ : St} {n : Nat} {kd : Nat → Nat} {D : Dk} (h : mD τ 7 n kd D) {col : Nat} (hc : col < 3) : ∃ τ', f6_passes τ 7 (nI col) = some τ' ∧ frA τ τ' ∧ mD τ' 7 n kd (psD kd D col) := by
  obtain ⟨τ', e, f1, f2, f3⟩ := m_passes h (Or.inr rfl) hc
  refine ⟨τ', e, ⟨fun c hc => f1 c (by omega) (by omega), f2⟩, ?_⟩
  obtain ⟨h1, h2, h3, h4, h5⟩ := h
  refine ⟨by rw [f1 0 (by omega) (by omega)]; exact h1, h2, fun i hi => by rw [f1 5 (by omega) (by omega)]; exact h3 i hi, f3, okD_pas h5 hc⟩
theorem mD.fallA {τ : St} {n : Nat} {kd : Nat → Nat} {D : Dk} (h : mD τ 7 n kd D) {col mis : Nat} (hc : col < 3) (hm : mis < 64) : ∃ τ', f6_falls τ 7 (nI col) (nI mis) = some τ' ∧ frA τ τ' ∧ ∀ i, i < n → τ'.1 7 i = nI ((pas kd D col mis).getD i 0) := by
  obtain ⟨τ', e, f1, f2, f3, f4⟩ := m_falls h (Or.inr rfl) hc hm
  exact ⟨τ', e, ⟨fun c hc => f1 c (by omega) (by omega), f2⟩, f3⟩
theorem psD_ok {n : Nat} {kd : Nat → Nat} {D : Dk} (h : okD n D) {col : Nat} (hc : col < 3) : okD n (psD kd D col) := okD_pas h hc
