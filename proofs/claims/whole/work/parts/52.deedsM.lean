/-! the reference's deeds -/
theorem snp_cg {n o o' : Nat} {f g : Nat → Int32} {D : Dk} (h : snp n f o D) (e : ∀ j, j < 25 → g (o' + j) = f (o + j)) (hn : n ≤ 6) : snp n g o' D := by
  obtain ⟨h1, h2, h3⟩ := h
  refine ⟨fun i hi => ?_, fun k hk => ?_, ?_⟩
  · rw [e i (by omega)]; exact h1 i hi
  · rw [Nat.add_assoc, e (6 + k) (by omega), ← Nat.add_assoc]; exact h2 k hk
  · rw [e 24 (by omega)]; exact h3
theorem m_rem {τ : St} {n : Nat} {kd bs : Nat → Nat} {ds : List Nat} {kp : Nat → Option (List Nat)} (hM : DM τ n kd bs ds kp) (hn : n ≤ 6) (hl : ds.length < 40) :
    ∃ τ', f6_remembers τ = some τ' ∧ (∀ c, c ≠ 0 → c ≠ 8 → τ'.1 c = τ.1 c) ∧ (∀ k, k ≠ 9 → τ'.1 0 k = τ.1 0 k) ∧ τ'.2 = τ.2 ∧ τ'.1 0 9 = nI (ds.length + 1) ∧ ∀ j, j < ds.length + 1 → snp n (τ'.1 8) (25 * j) (rpl n kd bs (ds.take j)) := by
  obtain ⟨m1, m2, m3, m4, m5, m6, m7⟩ := hM
  have hcp := m_copies (τ := τ) (a := 6) (b := 8) (i := 0) (j := 25 * ds.length) (m := 25) (by omega) (by decide) (by show 25 * ds.length + 25 ≤ 1000; omega) (by decide) (by decide)
  unfold f6_remembers
  rw [m2, show (25 : Int32) = nI 25 from rfl, pk_mul, show (0 : Int32) = nI 0 from rfl, hcp, b1_s, bnd_e, show (wA τ 8 (cpG (τ.1 8) (τ.1 6) 0 (25 * ds.length) 25)).1 0 9 = nI ds.length from m2, nI_1]
  refine ⟨_, rfl, fun c h1 h2 => ?_, fun k hk => ?_, rfl, ?_, fun j hj => ?_⟩
  · rw [wI_n _ _ _ h1, wA_n _ _ h2]
  · rw [wI_s, upd_n _ _ hk]; rfl
  · rw [wI_s, upd_s]
  · rw [wI_n _ _ _ (by omega), wA_s]
    by_cases c : j = ds.length
    · subst c
      rw [List.take_of_length_le (Nat.le_refl _)]
      exact snp_cg m4 (fun j hj => by rw [cpG_in hj]) hn
    · exact snp_cg (m5 j (by omega)) (fun q hq => by rw [cpG_out (by omega)]) hn
/-- a deed remembered and done -/
theorem DM.deed {τ τ1 τ2 : St} {n d : Nat} {kd bs : Nat → Nat} {ds : List Nat} {kp : Nat → Option (List Nat)} (hM : DM τ n kd bs ds kp)
    (r1 : ∀ c, c ≠ 0 → c ≠ 8 → τ1.1 c = τ.1 c) (r2 : ∀ k, k ≠ 9 → τ1.1 0 k = τ.1 0 k) (r4 : τ1.1 0 9 = nI (ds.length + 1)) (r5 : ∀ j, j < ds.length + 1 → snp n (τ1.1 8) (25 * j) (rpl n kd bs (ds.take j)))
    (s1 : ∀ c, c ≠ 6 → c ≠ 14 → τ2.1 c = τ1.1 c) (s2 : snp n (τ2.1 6) 0 (deed1 kd (rpl n kd bs ds) d)) : DM τ2 n kd bs (ds ++ [d]) kp := by
  obtain ⟨m1, m2, m3, m4, m5, m6, m7⟩ := hM
  refine ⟨?_, ?_, ?_, ?_, fun j hj => ?_, ?_, ?_⟩
  · rw [s1 0 (by omega) (by omega), r2 4 (by omega)]; exact m1
  · rw [s1 0 (by omega) (by omega), r4, List.length_append]; rfl
  · rw [s1 5 (by omega) (by omega), r1 5 (by omega) (by omega)]; exact m3
  · rw [rpl_s]; exact s2
  · rw [List.length_append] at hj
    have hj' : j < ds.length + 1 := hj
    rw [s1 8 (by omega) (by omega), List.take_append_of_le_length (by omega)]
    exact r5 j hj'
  · rw [s1 10 (by omega) (by omega), r1 10 (by omega) (by omega)]; exact m6
  · rw [s1 10 (by omega) (by omega), r1 10 (by omega) (by omega), s1 9 (by omega) (by omega), r1 9 (by omega) (by omega)]; exact m7
theorem mD.of {τ τ1 : St} {n : Nat} {kd bs : Nat → Nat} {ds : List Nat} {kp : Nat → Option (List Nat)} (hA : DA n kd bs ds kp) (hM : DM τ n kd bs ds kp) (r1 : ∀ c, c ≠ 0 → c ≠ 8 → τ1.1 c = τ.1 c) (r2 : ∀ k, k ≠ 9 → τ1.1 0 k = τ.1 0 k) : mD τ1 6 n kd (rpl n kd bs ds) := by
  obtain ⟨-, hn, hkd, hbs, hds, -, -⟩ := hA
  obtain ⟨m1, m2, m3, m4, m5, m6, m7⟩ := hM
  refine ⟨by rw [r2 4 (by omega)]; exact m1, hn, fun i hi => ⟨by rw [r1 5 (by omega) (by omega)]; exact m3 i hi, hkd i hi⟩, by rw [r1 6 (by omega) (by omega)]; exact m4, okD_rpl hbs hds.2⟩
theorem m_turns {τ : St} {n : Nat} {kd : Nat → Nat} {D : Dk} (h : mD τ 6 n kd D) : ∃ τ', f6_turns τ = some τ' ∧ (∀ c, c ≠ 6 → c ≠ 14 → τ'.1 c = τ.1 c) ∧ τ'.2 = τ.2 ∧ snp n (τ'.1 6) 0 (D.1.reverse, D.2) := by
  obtain ⟨h1, h2, h3, ⟨s1, s2, s3⟩, ⟨o1, o2, o3, o4, o5⟩⟩ := h
  have hcp := m_copies (τ := τ) (a := 6) (b := 14) (i := 0) (j := 0) (m := n) (by omega) (by show 0 + n ≤ 25; omega) (by show 0 + n ≤ 6; omega) (by decide) (by decide)
  unfold f6_turns
  rw [h1, show (0 : Int32) = nI 0 from rfl, hcp, b1_s, ← show (0 : Int32) = nI 0 from rfl]
  generalize hz : wA τ 14 (cpG (τ.1 14) (τ.1 6) 0 0 n) = z
  have z1 : ∀ c, c ≠ 14 → z.1 c = τ.1 c := fun c hc => by rw [← hz, wA_n _ _ hc]
  have z2 : ∀ i, i < n → z.1 14 i = nI (D.1.getD i 0) := fun i hi => by
    have := cpG_in (t := τ.1 14) (f := τ.1 6) (i := 0) (j := 0) (m := n) (p := i) hi
    rw [Nat.zero_add] at this
    have h := s1 i hi
    rw [Nat.zero_add] at h
    rw [← hz, wA_s, this, h]
  have z3 : z.2 = τ.2 := by rw [← hz]; rfl
  refine up0 (fun q i s => L6_turns_19 (fun σ => some σ) q i s) n (by omega)
    (fun i s => (∀ c, c ≠ 6 → s.1 c = z.1 c) ∧ s.2 = z.2 ∧ (∀ j, j < i → s.1 6 j = nI (D.1.reverse.getD j 0)) ∧ ∀ j, n ≤ j → s.1 6 j = τ.1 6 j)
    (fun o => ∃ τ', o = some τ' ∧ (∀ c, c ≠ 6 → c ≠ 14 → τ'.1 c = τ.1 c) ∧ τ'.2 = τ.2 ∧ snp n (τ'.1 6) 0 (D.1.reverse, D.2)) ?_ ?_ z ⟨fun _ _ => rfl, rfl, fun j hj => absurd hj (by omega), fun j hj => by rw [z1 6 (by omega)]⟩
  · intro q i s hi hs
    left
    obtain ⟨f1, f2, f3, f4⟩ := hs
    have e4 : s.1 0 4 = nI n := by rw [f1 0 (by omega), z1 0 (by omega)]; exact h1
    refine ⟨wI s 6 i (nI (D.1.getD (n - 1 - i) 0)), ⟨fun c hc => by rw [wI_n _ _ _ hc]; exact f1 c hc, f2, fun j hj => ?_, fun j hj => ?_⟩, ?_⟩
    · rw [wI_s, upd_a]
      by_cases c : j = i
      · rw [if_pos c, c, getD_rev (by omega), o1]
      · rw [if_neg c]; exact f3 j (by omega)
    · rw [wI_s, upd_n _ _ (by omega)]; exact f4 j hj
    · conv => lhs; unfold L6_turns_19
      rw [e4, if_neg (nI_ge hi (by omega)), show (1 : Int32) = nI 1 from rfl, pk_sub (by omega), pk_sub (by omega), gi_nI (by omega) (by omega), gi_nI (by omega) (by omega), bnd_e, bnd_e, nI_clamp (by omega), nI_clamp (by omega), f1 14 (by omega), z2 _ (by omega), ← show (1 : Int32) = nI 1 from rfl, nI_1]
  · intro q s hs
    obtain ⟨f1, f2, f3, f4⟩ := hs
    have e4 : s.1 0 4 = nI n := by rw [f1 0 (by omega), z1 0 (by omega)]; exact h1
    refine ⟨s, ?_, fun c c1 c2 => (f1 c c1).trans (z1 c c2), f2.trans z3, fun i hi => ?_, fun k hk => ?_, ?_⟩
    · unfold L6_turns_19
      rw [e4, if_pos (nI_le (Nat.le_refl _) (by omega))]
    · rw [Nat.zero_add]; exact f3 i hi
    · rw [f4 _ (by omega)]; exact s2 k hk
    · rw [f4 _ (by omega)]; exact s3
theorem m_lifts {τ : St} {n a : Nat} {kd : Nat → Nat} {D : Dk} (h : mD τ 6 n kd D) (ha : a < n) : ∃ τ', f6_lifts τ (nI a) = some τ' ∧ (∀ c, c ≠ 6 → c ≠ 14 → τ'.1 c = τ.1 c) ∧ τ'.2 = τ.2 ∧ snp n (τ'.1 6) 0 (D.1.drop a ++ D.1.take a, D.2) := by
  obtain ⟨h1, h2, h3, ⟨s1, s2, s3⟩, ⟨o1, o2, o3, o4, o5⟩⟩ := h
  have hcp := m_copies (τ := τ) (a := 6) (b := 14) (i := 0) (j := 0) (m := n) (by omega) (by show 0 + n ≤ 25; omega) (by show 0 + n ≤ 6; omega) (by decide) (by decide)
  unfold f6_lifts
  rw [h1, show (0 : Int32) = nI 0 from rfl, hcp, b1_s, ← show (0 : Int32) = nI 0 from rfl]
  generalize hz : wA τ 14 (cpG (τ.1 14) (τ.1 6) 0 0 n) = z
  have z1 : ∀ c, c ≠ 14 → z.1 c = τ.1 c := fun c hc => by rw [← hz, wA_n _ _ hc]
  have z2 : ∀ i, i < n → z.1 14 i = nI (D.1.getD i 0) := fun i hi => by
    have := cpG_in (t := τ.1 14) (f := τ.1 6) (i := 0) (j := 0) (m := n) (p := i) hi
    rw [Nat.zero_add] at this
    have h := s1 i hi
    rw [Nat.zero_add] at h
    rw [← hz, wA_s, this, h]
  have z3 : z.2 = τ.2 := by rw [← hz]; rfl
  refine up0 (fun q i s => L6_lifts_19 (nI a) (fun σ => some σ) q i s) n (by omega)
    (fun i s => (∀ c, c ≠ 6 → s.1 c = z.1 c) ∧ s.2 = z.2 ∧ (∀ j, j < i → s.1 6 j = nI ((D.1.drop a ++ D.1.take a).getD j 0)) ∧ ∀ j, n ≤ j → s.1 6 j = τ.1 6 j)
    (fun o => ∃ τ', o = some τ' ∧ (∀ c, c ≠ 6 → c ≠ 14 → τ'.1 c = τ.1 c) ∧ τ'.2 = τ.2 ∧ snp n (τ'.1 6) 0 (D.1.drop a ++ D.1.take a, D.2)) ?_ ?_ z ⟨fun _ _ => rfl, rfl, fun j hj => absurd hj (by omega), fun j hj => by rw [z1 6 (by omega)]⟩
  · intro q i s hi hs
    left
    obtain ⟨f1, f2, f3, f4⟩ := hs
    have e4 : s.1 0 4 = nI n := by rw [f1 0 (by omega), z1 0 (by omega)]; exact h1
    have hmod : (i + a) % n < n := Nat.mod_lt _ (by omega)
    refine ⟨wI s 6 i (nI (D.1.getD ((i + a) % n) 0)), ⟨fun c hc => by rw [wI_n _ _ _ hc]; exact f1 c hc, f2, fun j hj => ?_, fun j hj => ?_⟩, ?_⟩
    · rw [wI_s, upd_a]
      by_cases c : j = i
      · rw [if_pos c, c, getD_rot (by omega) (by omega), o1]
      · rw [if_neg c]; exact f3 j (by omega)
    · rw [wI_s, upd_n _ _ (by omega)]; exact f4 j hj
    · conv => lhs; unfold L6_lifts_19
      rw [e4, if_neg (nI_ge hi (by omega)), nz_e (nI_ne0 (by omega) (by omega)), nI_add, n_rem (by omega) (by omega) (by omega), gi_nI (by omega) (by omega), gi_nI (by omega) (by omega), bnd_e, bnd_e, nI_clamp (by omega), nI_clamp (by omega), f1 14 (by omega), z2 _ hmod, nI_1]
  · intro q s hs
    obtain ⟨f1, f2, f3, f4⟩ := hs
    have e4 : s.1 0 4 = nI n := by rw [f1 0 (by omega), z1 0 (by omega)]; exact h1
    refine ⟨s, ?_, fun c c1 c2 => (f1 c c1).trans (z1 c c2), f2.trans z3, fun i hi => ?_, fun k hk => ?_, ?_⟩
    · unfold L6_lifts_19
      rw [e4, if_pos (nI_le (Nat.le_refl _) (by omega))]
    · rw [Nat.zero_add]; exact f3 i hi
    · rw [f4 _ (by omega)]; exact s2 k hk
    · rw [f4 _ (by omega)]; exact s3
