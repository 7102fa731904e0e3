theorem c_onL {σ : St} {k : Nat} {e : List Nat} (hs : shf σ 7 40 3) (hk : k < 3) (hl : e.length ≤ 40) (hz : σ.1 9 k = nI e.length) (hv : ∀ j, j < e.length → σ.1 8 (40 * k + j) = nI (e.getD j 0)) {K : St → Option (Int32 × St)} :
    ∃ σ', L5_on_39 (nI k) (nI e.length) K FU 0 σ = K σ' ∧ (∀ c, c ≠ 20 → σ'.1 c = σ.1 c) ∧ σ'.2 = σ.2 ∧ ∀ j, j < e.length → σ'.1 20 j = nI (e.getD j 0) := by
  refine up0 (fun q i s => L5_on_39 (nI k) (nI e.length) K q i s) e.length (by omega)
    (fun i s => (∀ c, c ≠ 20 → s.1 c = σ.1 c) ∧ s.2 = σ.2 ∧ ∀ j, j < i → s.1 20 j = nI (e.getD j 0))
    (fun o => ∃ σ', o = K σ' ∧ (∀ c, c ≠ 20 → σ'.1 c = σ.1 c) ∧ σ'.2 = σ.2 ∧ ∀ j, j < e.length → σ'.1 20 j = nI (e.getD j 0)) ?_ ?_ σ ⟨fun _ _ => rfl, rfl, fun j hj => absurd hj (by omega)⟩
  · intro q i s hi hs'
    left
    obtain ⟨f1, f2, f3⟩ := hs'
    have hsh : shf s 7 40 3 := ⟨hs.1, hs.2.1, hs.2.2.1, by rw [f1 7 (by omega)]; exact hs.2.2.2.1, hs.2.2.2.2⟩
    have hget := c_get hsh hk (show s.1 (7 + 2) k = nI e.length by rw [f1 (7 + 2) (by omega)]; exact hz) (by omega) hi
    refine ⟨wI s 20 i (nI (e.getD i 0)), ⟨fun c hc => by rw [wI_n _ _ _ hc]; exact f1 c hc, f2, fun j hj => ?_⟩, ?_⟩
    · rw [wI_s, upd_a]
      by_cases c : j = i
      · rw [if_pos c, c]
      · rw [if_neg c]; exact f3 j (by omega)
    · conv => lhs; unfold L5_on_39
      rw [if_neg (nI_ge hi (by omega)), hget, b1_s, gi_nI (by omega) (by omega), bnd_e, bnd_e, nI_clamp (by omega), f1 (7 + 1) (by omega), hv i hi, nI_1]
  · intro q s hs'
    obtain ⟨f1, f2, f3⟩ := hs'
    refine ⟨s, ?_, f1, f2, f3⟩
    unfold L5_on_39
    rw [if_pos (nI_le (Nat.le_refl _) (by omega))]
theorem e_on {σ τ : St} (h : Rel σ τ) (x : Int32) : Sim (f5_on σ x) (f6_on τ x) := by
  obtain ⟨n, kd, bs, ds, kp, hA, hC, hM⟩ := h.2.2.2.2
  have hn6 := hA.2.1
  have hl := hA.2.2.2.2.1.1
  obtain ⟨c1, c2, c3, c4, c5, c6, c7, c8⟩ := hC
  obtain ⟨m1, m2, m3, m4, m5, m6, m7⟩ := hM
  unfold f5_on f6_on
  rw [c_place3, m_isPlace, b1_s]
  rcases ix x 3 (by omega) with hx | ⟨k, hk, rfl⟩
  · rw [inB_out hx, i00, i00]
    exact Sim.of h _
  rw [inB_nI hk (by omega), i10, i10, gi_nI hk (by omega), nI_clamp (by omega)]
  cases hkp : kp k with
  | none =>
    rw [c_holds0 h.sh7 hk (c7 k hk hkp), b1_s, i00, m6 k hk hkp, i00]
    exact Sim.found h (k := 1) (by omega)
  | some e =>
    obtain ⟨u1, u2⟩ := c8 k e hk hkp
    obtain ⟨v1, v2, v3, v4⟩ := m7 k e hk hkp
    have hoe := hA.2.2.2.2.2.1 k e hkp
    have hle := hoe.1
    rw [c_holds1 h.sh7 hk u1 (by omega), b1_s, i10, v1, i10, c_sizeOf h.sh7 hk, b1_s, show σ.1 (7 + 2) k = nI e.length from u1]
    obtain ⟨σ1, q1, q2, q3, q4⟩ := c_onL (σ := σ) (k := k) (e := e) h.sh7 hk hle u1 u2 (K := fun σ_12 => b1 (f1_redo σ_12 (nI e.length)) fun σ_14 => some (nI e.length, σ_14))
    rw [q1]
    obtain ⟨σ', w1, w2, w3, w4, w5, w6⟩ := c_redo (σ := σ1) (n := n) (kd := kd) (bs := bs) (es := e) (by rw [q2 13 (by omega)]; exact c1) hn6 (fun i hi => ⟨by rw [q2 14 (by omega)]; exact c3 i hi, hA.2.2.1 i hi⟩) (fun k hk => ⟨by rw [q2 15 (by omega)]; exact c4 k hk, hA.2.2.2.1 k hk⟩) hle q4 hoe.2
    rw [w1, b1_s]
    have hcp1 := m_copies (τ := τ) (a := 9) (b := 6) (i := 1026 * k) (j := 0) (m := 25) (by omega) (by show 1026 * k + 25 ≤ 3078; omega) (by decide) (by decide) (by decide)
    generalize ht1 : wA τ 6 (cpG (τ.1 6) (τ.1 9) (1026 * k) 0 25) = t1 at hcp1
    have e19 : t1.1 9 = τ.1 9 := by rw [← ht1]; rfl
    generalize ht2 : wI t1 0 9 (nI e.length) = t2
    have hcp2 := m_copies (τ := t2) (a := 9) (b := 8) (i := 1026 * k + 25 + 1) (j := 0) (m := 1000) (by omega) (by show 1026 * k + 25 + 1 + 1000 ≤ 3078; omega) (by decide) (by decide) (by decide)
    rw [show (25 : Int32) = nI 25 from rfl, show (1026 : Int32) = nI 1026 from rfl, show (0 : Int32) = nI 0 from rfl, pk_mul, hcp1, b1_s, nI_add, gi_nI (by omega) (by omega), bnd_e, nI_clamp (by omega), e19, v2, ht2, nI_1, show (1000 : Int32) = nI 1000 from rfl, hcp2, b1_s]
    have e29 : t2.1 0 9 = nI e.length := by rw [← ht2, wI_s, upd_s]
    rw [show (wA t2 8 (cpG (t2.1 8) (t2.1 9) (1026 * k + 25 + 1) 0 1000)).1 0 9 = nI e.length from e29]
    refine ⟨_, _, _, rfl, rfl, h.deck ⟨fun c hc => ?_, ?_⟩ ⟨fun c hc => ?_, fun k k1 k2 => ?_, ?_⟩ ⟨n, kd, bs, e, kp, ⟨hA.1, hA.2.1, hA.2.2.1, hA.2.2.2.1, hoe, hA.2.2.2.2.2.1, fun z => ?_⟩, ⟨?_, w4, ?_, ?_, ?_, w6, ?_, ?_⟩, ⟨?_, e29, ?_, ?_, fun j hj => ?_, ?_, ?_⟩⟩⟩
    · rw [w2 c (by omega) (by omega) (by omega) (by omega) (by omega), q2 c (by omega)]
    · rw [w5, q3]
    · rw [wA_n _ _ (by omega), ← ht2, wI_n _ _ _ (by omega), ← ht1, wA_n _ _ (by omega)]
    · rw [wA_n _ _ (by omega), ← ht2, wI_s, upd_n _ _ (by omega), ← ht1, wA_n _ _ (by omega)]
    · rw [wA_2, ← ht2, wI_2, ← ht1, wA_2]
    · have := (hA.2.2.2.2.2.2 z).2 k
      rw [hkp] at this
      cases this
    · rw [w3 7 (by omega) (by omega), q2 13 (by omega)]; exact c1
    · rw [w2 14 (by omega) (by omega) (by omega) (by omega) (by omega), q2 14 (by omega)]; exact c3
    · rw [w2 15 (by omega) (by omega) (by omega) (by omega) (by omega), q2 15 (by omega)]; exact c4
    · rw [w2 20 (by omega) (by omega) (by omega) (by omega) (by omega)]; exact q4
    · rw [w2 9 (by omega) (by omega) (by omega) (by omega) (by omega), q2 9 (by omega)]; exact c7
    · rw [w2 9 (by omega) (by omega) (by omega) (by omega) (by omega), q2 9 (by omega), w2 8 (by omega) (by omega) (by omega) (by omega) (by omega), q2 8 (by omega)]; exact c8
    · rw [wA_n _ _ (by omega), ← ht2, wI_s, upd_n _ _ (by omega), ← ht1, wA_n _ _ (by omega)]; exact m1
    · rw [wA_n _ _ (by omega), ← ht2, wI_n _ _ _ (by omega), ← ht1, wA_n _ _ (by omega)]; exact m3
    · refine snp_cg v3 (fun j hj => ?_) hn6
      rw [wA_n _ _ (by omega), ← ht2, wI_n _ _ _ (by omega), ← ht1, wA_s, cpG_in hj]
    · refine snp_cg (v4 j hj) (fun i hi => ?_) hn6
      have e92 : t2.1 9 = τ.1 9 := by rw [← ht2, wI_n _ _ _ (by omega), e19]
      have := cpG_in (t := t2.1 8) (f := t2.1 9) (i := 1026 * k + 25 + 1) (j := 0) (m := 1000) (p := 25 * j + i) (by omega)
      rw [Nat.zero_add] at this
      rw [wA_s, this, e92, show 1026 * k + 25 + 1 + (25 * j + i) = 1026 * k + 26 + 25 * j + i by omega]
    · rw [wA_n _ _ (by omega), ← ht2, wI_n _ _ _ (by omega), ← ht1, wA_n _ _ (by omega)]; exact m6
    · rw [wA_n _ _ (by omega), ← ht2, wI_n _ _ _ (by omega), ← ht1, wA_n _ _ (by omega), wA_n _ _ (by omega), wI_n _ _ _ (by omega), wA_n _ _ (by omega)]; exact m7
/-! a deck read -/
theorem c_begin {σ : St} {n : Nat} {kd bs : Nat → Nat} (h2 : σ.1 10 2 = nI n) (hn : n ≤ 6) (hk : ∀ i, i < n → σ.1 11 i = nI (kd i) ∧ kd i < 6) (hb : ∀ k, k < 3 * n → σ.1 12 k = nI (bs k) ∧ bs k ≤ 9) :
    ∃ σ', f1_begin σ = some σ' ∧ (∀ c, c ≤ 12 ∨ 20 ≤ c → σ'.1 c = σ.1 c) ∧ σ'.2 = σ.2 ∧ σ'.1 13 7 = nI n ∧ σ'.1 13 9 = nI 0 ∧ (∀ i, i < n → σ'.1 14 i = nI (kd i)) ∧ (∀ k, k < 3 * n → σ'.1 15 k = nI (bs k)) ∧ clD σ' n (rpl n kd bs []) := by
  unfold f1_begin
  rw [bnd_e, h2]
  generalize hz : wI σ 13 7 (nI n) = z
  have z1 : ∀ c, c ≠ 13 → z.1 c = σ.1 c := fun c hc => by rw [← hz, wI_n _ _ _ hc]
  have z7 : z.1 13 7 = nI n := by rw [← hz, wI_s, upd_s]
  have z2 : z.2 = σ.2 := by rw [← hz]; rfl
  refine up0 (fun q i s => L1_begin_10 (fun σ_7 => L1_begin_38 (fun σ_13 => b1 (f1_redo σ_13 0) fun σ_15 => some σ_15) FU 0 σ_7) q i s) n (by omega)
    (fun i s => (∀ c, c ≠ 14 → s.1 c = z.1 c) ∧ s.2 = z.2 ∧ ∀ j, j < i → s.1 14 j = nI (kd j))
    (fun o => ∃ σ', o = some σ' ∧ (∀ c, c ≤ 12 ∨ 20 ≤ c → σ'.1 c = σ.1 c) ∧ σ'.2 = σ.2 ∧ σ'.1 13 7 = nI n ∧ σ'.1 13 9 = nI 0 ∧ (∀ i, i < n → σ'.1 14 i = nI (kd i)) ∧ (∀ k, k < 3 * n → σ'.1 15 k = nI (bs k)) ∧ clD σ' n (rpl n kd bs [])) ?_ ?_ z ⟨fun _ _ => rfl, rfl, fun j hj => absurd hj (by omega)⟩
  · intro q i s hi hs
    left
    obtain ⟨f1, f2, f3⟩ := hs
    refine ⟨wI s 14 i (nI (kd i)), ⟨fun c hc => by rw [wI_n _ _ _ hc]; exact f1 c hc, f2, fun j hj => ?_⟩, ?_⟩
    · rw [wI_s, upd_a]
      by_cases c : j = i
      · rw [if_pos c, c]
      · rw [if_neg c]; exact f3 j (by omega)
    · conv => lhs; unfold L1_begin_10
      rw [f1 13 (by omega), z7, if_neg (nI_ge hi (by omega)), gi_nI (by omega) (by omega), gi_nI (by omega) (by omega), bnd_e, bnd_e, nI_clamp (by omega), f1 11 (by omega), z1 11 (by omega), (hk i hi).1, nI_1]
  · intro q s hs
    obtain ⟨f1, f2, f3⟩ := hs
    have e : L1_begin_10 (fun σ_7 => L1_begin_38 (fun σ_13 => b1 (f1_redo σ_13 0) fun σ_15 => some σ_15) FU 0 σ_7) (q + 1) (nI n) s = L1_begin_38 (fun σ_13 => b1 (f1_redo σ_13 0) fun σ_15 => some σ_15) FU 0 s := by
      conv => lhs; unfold L1_begin_10
      rw [f1 13 (by omega), z7, if_pos (nI_le (Nat.le_refl _) (by omega))]
    rw [e]
    refine up0 (fun q i s => L1_begin_38 (fun σ_13 => b1 (f1_redo σ_13 0) fun σ_15 => some σ_15) q i s) (3 * n) (by omega)
      (fun i u => (∀ c, c ≠ 15 → u.1 c = s.1 c) ∧ u.2 = s.2 ∧ ∀ j, j < i → u.1 15 j = nI (bs j))
      (fun o => ∃ σ', o = some σ' ∧ (∀ c, c ≤ 12 ∨ 20 ≤ c → σ'.1 c = σ.1 c) ∧ σ'.2 = σ.2 ∧ σ'.1 13 7 = nI n ∧ σ'.1 13 9 = nI 0 ∧ (∀ i, i < n → σ'.1 14 i = nI (kd i)) ∧ (∀ k, k < 3 * n → σ'.1 15 k = nI (bs k)) ∧ clD σ' n (rpl n kd bs [])) ?_ ?_ s ⟨fun _ _ => rfl, rfl, fun j hj => absurd hj (by omega)⟩
    · intro q i u hi hu
      left
      obtain ⟨g1, g2, g3⟩ := hu
      refine ⟨wI u 15 i (nI (bs i)), ⟨fun c hc => by rw [wI_n _ _ _ hc]; exact g1 c hc, g2, fun j hj => ?_⟩, ?_⟩
      · rw [wI_s, upd_a]
        by_cases c : j = i
        · rw [if_pos c, c]
        · rw [if_neg c]; exact g3 j (by omega)
      · conv => lhs; unfold L1_begin_38
        rw [g1 13 (by omega), f1 13 (by omega), z7, show (3 : Int32) = nI 3 from rfl, pk_mul, Nat.mul_comm n 3, if_neg (nI_ge hi (by omega)), gi_nI (by omega) (by omega), gi_nI (by omega) (by omega), bnd_e, bnd_e, nI_clamp (by omega), g1 12 (by omega), f1 12 (by omega), z1 12 (by omega), (hb i hi).1, nI_1]
    · intro q u hu
      obtain ⟨g1, g2, g3⟩ := hu
      obtain ⟨σ', w1, w2, w3, w4, w5, w6⟩ := c_redo (σ := u) (n := n) (kd := kd) (bs := bs) (es := []) (by rw [g1 13 (by omega), f1 13 (by omega)]; exact z7) hn (fun i hi => ⟨by rw [g1 14 (by omega)]; exact f3 i hi, (hk i hi).2⟩) (fun k hk => ⟨g3 k hk, (hb k hk).2⟩) (by decide) (fun j hj => absurd hj (by simp)) (fun d hd => by cases hd)
      refine ⟨σ', ?_, fun c hc => ?_, by rw [w5, g2, f2, z2], by rw [w3 7 (by omega) (by omega), g1 13 (by omega), f1 13 (by omega)]; exact z7, w4, fun i hi => by rw [w2 14 (by omega) (by omega) (by omega) (by omega) (by omega), g1 14 (by omega)]; exact f3 i hi, fun k hk => by rw [w2 15 (by omega) (by omega) (by omega) (by omega) (by omega)]; exact g3 k hk, w6⟩
      · unfold L1_begin_38
        rw [g1 13 (by omega), f1 13 (by omega), z7, show (3 : Int32) = nI 3 from rfl, pk_mul, Nat.mul_comm n 3, if_pos (nI_le (Nat.le_refl _) (by omega)), show (0 : Int32) = nI ([] : List Nat).length from rfl, w1, b1_s]
      · rw [w2 c (by omega) (by omega) (by omega) (by omega) (by omega), g1 c (by omega), f1 c (by omega), z1 c (by omega)]
