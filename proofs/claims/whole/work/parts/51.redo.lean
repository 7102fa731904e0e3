def rdQ (σ : St) (n : Nat) (kd bs : Nat → Nat) (es : List Nat) (o : Option St) : Prop := ∃ σ', o = some σ' ∧ (∀ c, c ≠ 13 → c ≠ 16 → c ≠ 17 → c ≠ 18 → c ≠ 19 → σ'.1 c = σ.1 c) ∧ (∀ k, k ≠ 8 → k ≠ 9 → σ'.1 13 k = σ.1 13 k) ∧ σ'.1 13 9 = nI es.length ∧ σ'.2 = σ.2 ∧ clD σ' n (rpl n kd bs es)
theorem c_redo {σ : St} {n : Nat} {kd bs : Nat → Nat} {es : List Nat} (h7 : σ.1 13 7 = nI n) (hn : n ≤ 6) (hk : ∀ i, i < n → σ.1 14 i = nI (kd i) ∧ kd i < 6) (hb : ∀ k, k < 3 * n → σ.1 15 k = nI (bs k) ∧ bs k ≤ 9) (he : es.length ≤ 40) (hv : ∀ j, j < es.length → σ.1 20 j = nI (es.getD j 0)) (ho : ∀ d ∈ es, okd n d) :
    ∃ σ', f1_redo σ (nI es.length) = some σ' ∧ (∀ c, c ≠ 13 → c ≠ 16 → c ≠ 17 → c ≠ 18 → c ≠ 19 → σ'.1 c = σ.1 c) ∧ (∀ k, k ≠ 8 → k ≠ 9 → σ'.1 13 k = σ.1 13 k) ∧ σ'.1 13 9 = nI es.length ∧ σ'.2 = σ.2 ∧ clD σ' n (rpl n kd bs es) := by
  unfold f1_redo
  refine up0 (fun q i s => L1_redo_2 (nI es.length) (fun σ_6 => L1_redo_25 (nI es.length) (fun σ_12 => bnd (wI σ_12 13 8 0) fun σ_13 => bnd (wI σ_13 13 9 (nI es.length)) fun σ_14 => L1_redo_65 (nI es.length) (fun σ_21 => some σ_21) FU 0 σ_14) FU 0 σ_6) q i s) n (by omega)
    (fun i s => (∀ c, c ≠ 17 → s.1 c = σ.1 c) ∧ s.2 = σ.2 ∧ ∀ j, j < i → s.1 17 j = nI j)
    (rdQ σ n kd bs es) ?_ ?_ σ ⟨fun _ _ => rfl, rfl, fun j hj => absurd hj (by omega)⟩
  · intro q i s hi hs
    left
    obtain ⟨f1, f2, f3⟩ := hs
    refine ⟨wI s 17 i (nI i), ⟨fun c hc => by rw [wI_n _ _ _ hc]; exact f1 c hc, f2, fun j hj => ?_⟩, ?_⟩
    · rw [wI_s, upd_a]
      by_cases c : j = i
      · rw [if_pos c, c]
      · rw [if_neg c]
        exact f3 j (by omega)
    · conv => lhs; unfold L1_redo_2
      rw [f1 13 (by omega), h7, if_neg (nI_ge hi (by omega)), gi_nI (by omega) (by omega), bnd_e, bnd_e, nI_clamp (by omega), nI_1]
  · intro q s hs
    obtain ⟨f1, f2, f3⟩ := hs
    have e : L1_redo_2 (nI es.length) (fun σ_6 => L1_redo_25 (nI es.length) (fun σ_12 => bnd (wI σ_12 13 8 0) fun σ_13 => bnd (wI σ_13 13 9 (nI es.length)) fun σ_14 => L1_redo_65 (nI es.length) (fun σ_21 => some σ_21) FU 0 σ_14) FU 0 σ_6) (q + 1) (nI n) s = L1_redo_25 (nI es.length) (fun σ_12 => bnd (wI σ_12 13 8 0) fun σ_13 => bnd (wI σ_13 13 9 (nI es.length)) fun σ_14 => L1_redo_65 (nI es.length) (fun σ_21 => some σ_21) FU 0 σ_14) FU 0 s := by
      conv => lhs; unfold L1_redo_2
      rw [f1 13 (by omega), h7, if_pos (nI_le (Nat.le_refl _) (by omega))]
    rw [e]
    refine up0 (fun q i s => L1_redo_25 (nI es.length) (fun σ_12 => bnd (wI σ_12 13 8 0) fun σ_13 => bnd (wI σ_13 13 9 (nI es.length)) fun σ_14 => L1_redo_65 (nI es.length) (fun σ_21 => some σ_21) FU 0 σ_14) q i s) (3 * n) (by omega)
      (fun i u => (∀ c, c ≠ 16 → u.1 c = s.1 c) ∧ u.2 = s.2 ∧ ∀ j, j < i → u.1 16 j = nI (bs j))
      (rdQ σ n kd bs es) ?_ ?_ s ⟨fun _ _ => rfl, rfl, fun j hj => absurd hj (by omega)⟩
    · intro q i u hi hu
      left
      obtain ⟨g1, g2, g3⟩ := hu
      refine ⟨wI u 16 i (nI (bs i)), ⟨fun c hc => by rw [wI_n _ _ _ hc]; exact g1 c hc, g2, fun j hj => ?_⟩, ?_⟩
      · rw [wI_s, upd_a]
        by_cases c : j = i
        · rw [if_pos c, c]
        · rw [if_neg c]
          exact g3 j (by omega)
      · conv => lhs; unfold L1_redo_25
        rw [g1 13 (by omega), f1 13 (by omega), h7, show (3 : Int32) = nI 3 from rfl, pk_mul, Nat.mul_comm n 3, if_neg (nI_ge hi (by omega)), gi_nI (by omega) (by omega), gi_nI (by omega) (by omega), bnd_e, bnd_e, nI_clamp (by omega), g1 15 (by omega), f1 15 (by omega), (hb i hi).1, nI_1]
    · intro q u hu
      obtain ⟨g1, g2, g3⟩ := hu
      have e : L1_redo_25 (nI es.length) (fun σ_12 => bnd (wI σ_12 13 8 0) fun σ_13 => bnd (wI σ_13 13 9 (nI es.length)) fun σ_14 => L1_redo_65 (nI es.length) (fun σ_21 => some σ_21) FU 0 σ_14) (q + 1) (nI (3 * n)) u = L1_redo_65 (nI es.length) (fun σ_21 => some σ_21) FU 0 (wI (wI u 13 8 0) 13 9 (nI es.length)) := by
        conv => lhs; unfold L1_redo_25
        rw [g1 13 (by omega), f1 13 (by omega), h7, show (3 : Int32) = nI 3 from rfl, pk_mul, Nat.mul_comm n 3, if_pos (nI_le (Nat.le_refl _) (by omega)), bnd_e, bnd_e]
      rw [e]
      generalize hz : wI (wI u 13 8 0) 13 9 (nI es.length) = z
      have z1 : ∀ c, c ≠ 13 → c ≠ 16 → c ≠ 17 → z.1 c = σ.1 c := fun c c1 c2 c3 => by
        rw [← hz, wI_n _ _ _ c1, wI_n _ _ _ c1, g1 c c2, f1 c c3]
      have z2 : ∀ k, k ≠ 8 → k ≠ 9 → z.1 13 k = σ.1 13 k := fun k k1 k2 => by
        rw [← hz, wI_s, upd_n _ _ k2, wI_s, upd_n _ _ k1, g1 13 (by omega), f1 13 (by omega)]
      have z3 : z.1 13 9 = nI es.length := by rw [← hz, wI_s, upd_s]
      have z4 : z.2 = σ.2 := by rw [← hz]; exact g2.trans f2
      have z5 : clD z n (List.range n, bs, 0) := by
        refine ⟨fun i hi => ?_, fun k hk => ?_, ?_⟩
        · rw [← hz, wI_n _ _ _ (by omega), wI_n _ _ _ (by omega), g1 17 (by omega), f3 i hi]
          show _ = nI ((List.range n).getD i 0)
          rw [List.getD_eq_getElem?_getD, List.getElem?_range hi]
          rfl
        · rw [← hz, wI_n _ _ _ (by omega), wI_n _ _ _ (by omega)]
          exact g3 k hk
        · rw [← hz, wI_s, upd_n _ _ (by omega), wI_s, upd_s]
          rfl
      refine up0 (fun q i s => L1_redo_65 (nI es.length) (fun σ_21 => some σ_21) q i s) es.length (by omega)
        (fun i v => fr1 z v ∧ clD v n (rpl n kd bs (es.take i))) (rdQ σ n kd bs es) ?_ ?_ z ⟨fr1.rf z, z5⟩
      · intro q i v hi hv'
        left
        obtain ⟨g1, g2⟩ := hv'
        have hmem : es.getD i 0 ∈ es := getD_m hi
        obtain ⟨v', q1, q2, q3⟩ := c_carry (σ := v) (n := n) (d := es.getD i 0) (kd := kd) (D := rpl n kd bs (es.take i)) (by rw [g1.2.1 7 (by omega), z2 7 (by omega) (by omega)]; exact h7) hn (fun j hj => by rw [g1.1 14 (by omega) (by omega) (by omega) (by omega) (by omega), z1 14 (by omega) (by omega) (by omega)]; exact hk j hj) g2 (okD_rpl (fun k hk => (hb k hk).2) (fun d hd => ho d (List.mem_of_mem_take hd))) (ho _ hmem)
        refine ⟨v', ⟨g1.tr q2, ?_⟩, ?_⟩
        · rw [take_s hi, rpl_s]
          exact q3
        · conv => lhs; unfold L1_redo_65
          rw [if_neg (nI_ge hi (by omega)), gi_nI (by omega) (by omega), nI_clamp (by omega), g1.1 20 (by omega) (by omega) (by omega) (by omega) (by omega), z1 20 (by omega) (by omega) (by omega), hv i hi, q1, b1_s, bnd_e, nI_1]
      · intro q v hv'
        obtain ⟨g1, g2⟩ := hv'
        rw [List.take_of_length_le (Nat.le_refl _)] at g2
        refine ⟨v, ?_, fun c c1 c2 c3 c4 c5 => (g1.1 c c1 c2 c3 c4 c5).trans (z1 c c1 c2 c3), fun k k1 k2 => (g1.2.1 k k1).trans (z2 k k1 k2), (g1.2.1 9 (by omega)).trans z3, g1.2.2.trans z4, g2⟩
        unfold L1_redo_65
        rw [if_pos (nI_le (Nat.le_refl _) (by omega))]
/-- the class's store is as it was but for the deck -/
def frD (σ σ' : St) : Prop := (∀ c, c ≤ 7 ∨ c = 34 → σ'.1 c = σ.1 c) ∧ σ'.2 = σ.2
def frM (τ τ' : St) : Prop := (∀ c, (1 ≤ c ∧ c ≤ 4) ∨ c = 11 → τ'.1 c = τ.1 c) ∧ (∀ k, 10 ≤ k → k ≠ 17 → τ'.1 0 k = τ.1 0 k) ∧ τ'.2 = τ.2
theorem frD.rf (σ : St) : frD σ σ := ⟨fun _ _ => rfl, rfl⟩
theorem frD.tr {σ σ' σ'' : St} (h : frD σ σ') (g : frD σ' σ'') : frD σ σ'' := ⟨fun c hc => (g.1 c hc).trans (h.1 c hc), g.2.trans h.2⟩
theorem frM.rf (σ : St) : frM σ σ := ⟨fun _ _ => rfl, fun _ _ _ => rfl, rfl⟩
theorem frM.tr {σ σ' σ'' : St} (h : frM σ σ') (g : frM σ' σ'') : frM σ σ'' := ⟨fun c hc => (g.1 c hc).trans (h.1 c hc), fun k h1 h2 => (g.2.1 k h1 h2).trans (h.2.1 k h1 h2), g.2.2.trans h.2.2⟩
theorem Rel.deck {σ σ' τ τ' : St} (h : Rel σ τ) (f : frD σ σ') (g : frM τ τ') (d : DR σ' τ') : Rel σ' τ' := by
  obtain ⟨⟨w1, w2, w3⟩, h1, h2, ⟨t1, t2, t3, t4, t5⟩, -⟩ := h
  obtain ⟨f1, f2⟩ := f
  obtain ⟨g1, g2, g3⟩ := g
  refine ⟨⟨by rw [f1 1 (by omega)]; exact w1, by rw [f1 4 (by omega)]; exact w2, by rw [f1 7 (by omega)]; exact w3⟩, ?_, ?_, ⟨?_, ?_, ?_, ?_, fun f hf => ?_⟩, d⟩
  · rw [f1 3 (by omega), f1 2 (by omega), g1 1 (by omega), g1 2 (by omega)]; exact h1
  · rw [f1 6 (by omega), f1 5 (by omega), g1 3 (by omega), g1 4 (by omega)]; exact h2
  · rw [f1 0 (by omega), g2 12 (by omega) (by omega)]; exact t1
  · rw [f2, g3]; exact t2
  · rw [f2, g3]; exact t3
  · rw [f1 0 (by omega), g2 15 (by omega) (by omega)]; exact t4
  · rw [f1 34 (by omega), g1 11 (by omega)]; exact t5 f hf
theorem c_add {σ : St} {n d : Nat} {kd bs : Nat → Nat} {ds : List Nat} {kp : Nat → Option (List Nat)} (hA : DA n kd bs ds kp) (hC : DC σ n kd bs ds kp) (h2 : 2 ≤ n) (hl : ds.length < 40) (hd : okd n d) : ∃ σ', f1_add σ (nI d) = some (nI ((rpl n kd bs (ds ++ [d])).1.getD 0 0), σ') ∧ frD σ σ' ∧ DC σ' n kd bs (ds ++ [d]) kp := by
  obtain ⟨-, hn, hkd, hbs, hds, -, -⟩ := hA
  obtain ⟨c1, c2, c3, c4, c5, c6, c7, c8⟩ := hC
  unfold f1_add
  simp only [jn_e, bnd_e]
  rw [c2, if_neg (show ¬ (40 : Int32) ≤ nI ds.length from nI_ge (b := 40) (by omega) (by omega)), gi_nI (by omega) (by omega), nI_clamp (by omega), show (wI σ 20 ds.length (nI d)).1 13 9 = nI ds.length from c2, nI_1]
  obtain ⟨σ', q1, q2, q3⟩ := c_carry (σ := wI (wI σ 20 ds.length (nI d)) 13 9 (nI (ds.length + 1))) (n := n) (d := d) (kd := kd) (D := rpl n kd bs ds) c1 hn (fun i hi => ⟨c3 i hi, hkd i hi⟩) ⟨c6.1, c6.2.1, c6.2.2⟩ (okD_rpl hbs hds.2) hd
  rw [q1, b1_s, q3.1 0 (by omega), ← rpl_s]
  refine ⟨σ', rfl, ⟨fun c hc => ?_, q2.2.2⟩, ?_, ?_, ?_, ?_, ?_, ?_, ?_, ?_⟩
  · rw [q2.1 c (by omega) (by omega) (by omega) (by omega) (by omega), wI_n _ _ _ (by omega), wI_n _ _ _ (by omega)]
  · rw [q2.2.1 7 (by omega)]; exact c1
  · rw [q2.2.1 9 (by omega), wI_s, upd_s, List.length_append]; rfl
  · rw [q2.1 14 (by omega) (by omega) (by omega) (by omega) (by omega)]; exact c3
  · rw [q2.1 15 (by omega) (by omega) (by omega) (by omega) (by omega)]; exact c4
  · rw [q2.1 20 (by omega) (by omega) (by omega) (by omega) (by omega), wI_n _ _ _ (by omega), wI_s]
    exact tkn_s c5
  · rw [rpl_s]; exact q3
  · rw [q2.1 9 (by omega) (by omega) (by omega) (by omega) (by omega)]; exact c7
  · rw [q2.1 9 (by omega) (by omega) (by omega) (by omega) (by omega), q2.1 8 (by omega) (by omega) (by omega) (by omega) (by omega)]; exact c8
