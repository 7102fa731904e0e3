/-! the search for passes: what is sought -/
def fnd (kd : Nat → Nat) (goal : Dk → Bool) : Nat → Dk → Option (List Nat)
  | 0, E => if goal E = true then some [] else none
  | m + 1, E => match fnd kd goal m (psD kd E 0) with
    | some l => some (0 :: l)
    | none => match fnd kd goal m (psD kd E 1) with
      | some l => some (1 :: l)
      | none => match fnd kd goal m (psD kd E 2) with
        | some l => some (2 :: l)
        | none => none
theorem fnd_some {kd : Nat → Nat} {goal : Dk → Bool} {m c : Nat} {E : Dk} {l : List Nat} (hc : c < 3) (h1 : ∀ c', c' < c → fnd kd goal m (psD kd E c') = none) (h2 : fnd kd goal m (psD kd E c) = some l) : fnd kd goal (m + 1) E = some (c :: l) := by
  rcases (show c = 0 ∨ c = 1 ∨ c = 2 by omega) with rfl | rfl | rfl
  · simp only [fnd, h2]
  · simp only [fnd, h1 0 (by omega), h2]
  · simp only [fnd, h1 0 (by omega), h1 1 (by omega), h2]
theorem fnd_none {kd : Nat → Nat} {goal : Dk → Bool} {m : Nat} {E : Dk} (h1 : ∀ c', c' < 3 → fnd kd goal m (psD kd E c') = none) : fnd kd goal (m + 1) E = none := by
  simp only [fnd, h1 0 (by omega), h1 1 (by omega), h1 2 (by omega)]
theorem fnd_len {kd : Nat → Nat} {goal : Dk → Bool} : ∀ {m : Nat} {E : Dk} {l : List Nat}, fnd kd goal m E = some l → l.length = m
  | 0, E, l, h => by
    unfold fnd at h
    by_cases e : goal E = true
    · rw [if_pos e] at h
      rw [← Option.some.inj h]
      rfl
    · rw [if_neg e] at h
      cases h
  | m + 1, E, l, h => by
    cases e0 : fnd kd goal m (psD kd E 0) with
    | some l0 =>
      rw [fnd_some (c := 0) (by omega) (fun c' h => absurd h (Nat.not_lt_zero _)) e0] at h
      rw [← Option.some.inj h, List.length_cons, fnd_len e0]
    | none =>
      cases e1 : fnd kd goal m (psD kd E 1) with
      | some l0 =>
        rw [fnd_some (c := 1) (by omega) (fun c' h => by rw [show c' = 0 by omega]; exact e0) e1] at h
        rw [← Option.some.inj h, List.length_cons, fnd_len e1]
      | none =>
        cases e2 : fnd kd goal m (psD kd E 2) with
        | some l0 =>
          rw [fnd_some (c := 2) (by omega) (fun c' h => by
            rcases (show c' = 0 ∨ c' = 1 by omega) with rfl | rfl
            · exact e0
            · exact e1) e2] at h
          rw [← Option.some.inj h, List.length_cons, fnd_len e2]
        | none =>
          rw [fnd_none (fun c' h => by
            rcases (show c' = 0 ∨ c' = 1 ∨ c' = 2 by omega) with rfl | rfl | rfl
            · exact e0
            · exact e1
            · exact e2)] at h
          cases h
/-- the class's test of what is sought -/
noncomputable def tst (σ : St) (x2 x4 : Int32) : Option (Int32 × St) :=
  (if (σ.1 21 2) = 0 then
  gi x2 7 (
  b1 (f4_inOrder σ (24 + x2.toNatClampNeg) x4) fun r_6 =>
  bz r_6 (some (r_6, σ)))
  else
  gi x2 7 (
  gi (σ.1 21 4) 6 (
  (if (σ.1 (24 + x2.toNatClampNeg) (σ.1 21 4).toNatClampNeg) = (σ.1 21 3) then
  some (1, σ)
  else
  some (0, σ)))))
def frT (σ σ' : St) : Prop := frS σ σ' ∧ σ'.1 21 = σ.1 21
theorem frT.rf (σ : St) : frT σ σ := ⟨frS.rf _, rfl⟩
theorem frT.tr {σ σ' σ'' : St} (h : frT σ σ') (g : frT σ' σ'') : frT σ σ'' := ⟨h.1.tr g.1, g.2.trans h.2⟩
def goalC (σ : St) (n : Nat) (D : Dk) (goal : Dk → Bool) : Prop := ∀ (σ' : St) (E : Dk) (d : Nat), frT σ σ' → d < 7 → okD n E → E.2.1 = D.2.1 → lieA σ' (24 + d) n E → tst σ' (nI d) (nI E.2.2) = some (bI (goal E), σ')
theorem c_reach {σ : St} {n : Nat} {kd : Nat → Nat} {D : Dk} {goal : Dk → Bool} (hc : CX σ n kd D) (hG : goalC σ n D goal) : ∀ (m d e : Nat) (s : St) (E : Dk), d + m ≤ 5 → m < e → frT σ s → okD n E → E.2.1 = D.2.1 → lieA s (24 + d) n E →
    ∃ s', f4_reaches e s (nI d) (nI (d + m)) (nI E.2.2) = some (bI (fnd kd goal m E).isSome, s') ∧ frT σ s' ∧ (∀ j, j ≤ d → s'.1 (24 + j) = s.1 (24 + j)) ∧ (∀ j, j < d → s'.1 23 j = s.1 23 j) ∧ ∀ l, fnd kd goal m E = some l → ∀ j, j < m → s'.1 23 (d + j) = nI (l.getD j 0) := by
  intro m
  induction m with
  | zero =>
    intro d e s E hd he fr ho hf hl
    obtain ⟨q, rfl⟩ : ∃ q, e = q + 1 := ⟨e - 1, by omega⟩
    refine ⟨s, ?_, fr, fun _ _ => rfl, fun _ _ => rfl, fun l _ j hj => absurd hj (Nat.not_lt_zero _)⟩
    have ht := hG s E d fr (by omega) ho hf hl
    have ef : (fnd kd goal 0 E).isSome = goal E := by
      unfold fnd
      cases goal E <;> rfl
    rw [ef]
    unfold f4_reaches
    simp only [jn_e]
    rw [if_pos (nI_le (by omega) (by omega))]
    exact ht
  | succ m ih =>
    intro d e s E hd he fr ho hf hl
    obtain ⟨q, rfl⟩ : ∃ q, e = q + 1 := ⟨e - 1, by omega⟩
    unfold f4_reaches
    simp only [jn_e]
    rw [if_neg (nI_ge (a := d) (b := d + (m + 1)) (by omega) (by omega)), if_pos (show nI d < 5 from nI_lt (b := 5) (by omega) (by omega))]
    refine up0 (fun f c st => L4_reaches_60 (f4_reaches q) (nI d) (nI (d + (m + 1))) (nI E.2.2) (fun σ_22 => some (0, σ_22)) f c st) 3 (by omega)
      (fun c st => frT σ st ∧ (∀ j, j ≤ d → st.1 (24 + j) = s.1 (24 + j)) ∧ (∀ j, j < d → st.1 23 j = s.1 23 j) ∧ ∀ c', c' < c → fnd kd goal m (psD kd E c') = none)
      (fun o => ∃ s', o = some (bI (fnd kd goal (m + 1) E).isSome, s') ∧ frT σ s' ∧ (∀ j, j ≤ d → s'.1 (24 + j) = s.1 (24 + j)) ∧ (∀ j, j < d → s'.1 23 j = s.1 23 j) ∧ ∀ l, fnd kd goal (m + 1) E = some l → ∀ j, j < m + 1 → s'.1 23 (d + j) = nI (l.getD j 0)) ?_ ?_ s ⟨fr, fun _ _ => rfl, fun _ _ => rfl, fun c' h => absurd h (Nat.not_lt_zero _)⟩
    · intro f c st hc3 hs
      obtain ⟨u1, u2, u3, u4⟩ := hs
      have fr1 : frT st (wI st 23 d (nI c)) := ⟨⟨fun c hc' => wI_n _ _ _ (by omega), rfl⟩, wI_n _ _ _ (by omega)⟩
      have l1 : lieA (wI st 23 d (nI c)) (24 + d) n E := fun i hi => by rw [wI_n _ _ _ (by omega), u2 d (Nat.le_refl _)]; exact hl i hi
      obtain ⟨s2, e2, f2, f3, f4⟩ := (hc.fr (u1.tr fr1).1).sift ho hf (a1 := 24 + d) (a2 := 24 + (d + 1)) (col := c) (mis := 0) (Or.inr (by omega)) (by omega) l1 hc3 (by omega)
      have fr2 : frT σ s2 := (u1.tr fr1).tr ⟨f2, f3 21 (by omega) (by omega)⟩
      obtain ⟨s3, e3, g1, g2, g3, g4⟩ := ih (d + 1) q s2 (psD kd E c) (by omega) (by omega) fr2 (psD_ok ho hc3) hf f4
      have hst : L4_reaches_60 (f4_reaches q) (nI d) (nI (d + (m + 1))) (nI E.2.2) (fun σ_22 => some (0, σ_22)) (f + 1) (nI c) st = if bI (fnd kd goal m (psD kd E c)).isSome = 0 then L4_reaches_60 (f4_reaches q) (nI d) (nI (d + (m + 1))) (nI E.2.2) (fun σ_22 => some (0, σ_22)) f (nI (c + 1)) s3 else some (1, s3) := by
        conv => lhs; unfold L4_reaches_60
        simp only [bnd_e]
        rw [if_neg (show ¬ (3 : Int32) ≤ nI c from nI_ge (b := 3) hc3 (by omega)), gi_nI (by omega) (by omega), nI_1, gi_nI (by omega) (by omega), gi_nI (by omega) (by omega), nI_clamp (by omega), nI_clamp (by omega), show (0 : Int32) = nI 0 from rfl, e2, b1_s, c_more ho.2.2.2.2, b1_s, show d + (m + 1) = d + 1 + m by omega, show nI (min 60 (E.2.2 + 1)) = nI (psD kd E c).2.2 from rfl, e3, b2_s, nI_1]
      have v2 : ∀ j, j ≤ d → s3.1 (24 + j) = s.1 (24 + j) := fun j hj => by rw [g2 j (by omega), f3 _ (by omega) (by omega), wI_n _ _ _ (by omega), u2 j hj]
      have v3 : ∀ j, j < d → s3.1 23 j = s.1 23 j := fun j hj => by rw [g3 j (by omega), f3 23 (by omega) (by omega), wI_s, upd_n _ _ (by omega)]; exact u3 j hj
      have v4 : s3.1 23 d = nI c := by rw [g3 d (by omega), f3 23 (by omega) (by omega), wI_s, upd_s]
      cases ef : fnd kd goal m (psD kd E c) with
      | none =>
        left
        refine ⟨s3, ⟨g1, v2, v3, fun c' hc' => ?_⟩, ?_⟩
        · by_cases e' : c' = c
          · rw [e']; exact ef
          · exact u4 c' (by omega)
        · rw [hst, ef]
          rfl
      | some l =>
        right
        have efs := fnd_some hc3 u4 ef
        rw [hst, ef, efs]
        refine ⟨s3, rfl, g1, v2, v3, fun l' hl' j hj => ?_⟩
        rw [← Option.some.inj hl']
        cases j with
        | zero => exact v4
        | succ j =>
          have := g4 l ef j (by omega)
          rw [show d + 1 + j = d + (j + 1) by omega] at this
          rw [this]
          rfl
    · intro f st hs
      obtain ⟨u1, u2, u3, u4⟩ := hs
      have efn := fnd_none u4
      rw [efn]
      refine ⟨st, ?_, u1, u2, u3, fun l hl' => by cases hl'⟩
      unfold L4_reaches_60
      exact if_pos (show (3 : Int32) ≤ nI 3 by decide)
def srch (kd : Nat → Nat) (goal : Dk → Bool) (D : Dk) : Nat → Nat → Option (Nat × List Nat)
  | 0, _ => none
  | j + 1, i => match fnd kd goal i D with
    | some l => some (i, l)
    | none => srch kd goal D j (i + 1)
theorem c_seek {σ : St} {n : Nat} {kd : Nat → Nat} {D : Dk} {goal : Dk → Bool} (hc : CX σ n kd D) (hG : goalC σ n D goal) :
    ∃ s', frT σ s' ∧ ((srch kd goal D 6 0 = none ∧ f4_seek σ = some (-9, s')) ∨ ∃ d l, d ≤ 5 ∧ l.length = d ∧ srch kd goal D 6 0 = some (d, l) ∧ f4_seek σ = some (nI d, s') ∧ ∀ j, j < d → s'.1 23 j = nI (l.getD j 0)) := by
  obtain ⟨σ1, e1, f1, f1', l1⟩ : ∃ σ', f4_start σ = some σ' ∧ frS σ σ' ∧ σ'.1 21 = σ.1 21 ∧ lieA σ' 24 n D := by
    obtain ⟨σ', e, f1, f2, f3⟩ := c_layAs (σ := σ) (a1 := 17) (a2 := 24) hc.2.1 (Or.inl rfl) (by omega) (by omega)
    refine ⟨σ', ?_, f1, f2 21 (by omega), fun i hi => by rw [f3 i hi]; exact hc.lie i hi⟩
    unfold f4_start
    rw [hc.1, e, b1_s]
  unfold f4_seek
  rw [e1, b1_s]
  have main : ∀ (j i f : Nat) (s : St), i + j = 6 → j < f → frT σ s → lieA s 24 n D → ∃ s', frT σ s' ∧ ((srch kd goal D j i = none ∧ L4_seek_7 (fun σ_10 => some (-9, σ_10)) f (nI i) s = some (-9, s')) ∨ ∃ d l, d ≤ 5 ∧ l.length = d ∧ srch kd goal D j i = some (d, l) ∧ L4_seek_7 (fun σ_10 => some (-9, σ_10)) f (nI i) s = some (nI d, s') ∧ ∀ j, j < d → s'.1 23 j = nI (l.getD j 0)) := by
    intro j
    induction j with
    | zero =>
      intro i f s h1 h2 fr hl
      obtain ⟨q, rfl⟩ : ∃ q, f = q + 1 := ⟨f - 1, by omega⟩
      rw [Nat.add_zero] at h1
      subst h1
      refine ⟨s, fr, Or.inl ⟨rfl, ?_⟩⟩
      unfold L4_seek_7
      exact if_pos (show (5 : Int32) < nI 6 by decide)
    | succ j ih =>
      intro i f s h1 h2 fr hl
      obtain ⟨q, rfl⟩ : ∃ q, f = q + 1 := ⟨f - 1, by omega⟩
      obtain ⟨s2, e2, g1, g2, g3, g4⟩ := c_reach hc hG i 0 6 s D (by omega) (by omega) fr hc.2.2.2.2 rfl hl
      rw [Nat.zero_add] at e2
      have h8 : s.1 13 8 = nI D.2.2 := by rw [fr.1.1 13 (by omega)]; exact hc.2.2.2.1.2.2
      replace e2 : f4_reaches 6 s 0 (nI i) (nI D.2.2) = _ := e2
      have hst : L4_seek_7 (fun σ_10 => some (-9, σ_10)) (q + 1) (nI i) s = if bI (fnd kd goal i D).isSome = 0 then L4_seek_7 (fun σ_10 => some (-9, σ_10)) q (nI (i + 1)) s2 else some (nI i, s2) := by
        conv => lhs; unfold L4_seek_7
        rw [if_neg (show ¬ (5 : Int32) < nI i from nI_nlt (a := 5) (by omega) (by omega)), h8, e2, b2_s, bnd_e, nI_1]
      cases ef : fnd kd goal i D with
      | none =>
        obtain ⟨s3, v1, v2⟩ := ih (i + 1) q s2 (by omega) (by omega) g1 (fun k hk => by rw [g2 0 (by omega)]; exact hl k hk)
        refine ⟨s3, v1, ?_⟩
        rw [hst, ef]
        simp only [srch, ef]
        exact v2
      | some l =>
        refine ⟨s2, g1, Or.inr ⟨i, l, by omega, fnd_len ef, ?_, ?_, fun k hk => ?_⟩⟩
        · simp only [srch, ef]
        · rw [hst, ef]
          rfl
        · have := g4 l ef k hk
          rw [Nat.zero_add] at this
          exact this
  exact main 6 0 FU σ1 rfl (by rw [FU_e]; omega) ⟨f1, f1'⟩ l1
