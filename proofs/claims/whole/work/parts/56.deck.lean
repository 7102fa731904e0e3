theorem c_deckL {σ : St} (hs : shf σ 7 40 3) : ∃ σ', L5_deck_45 (fun σ_15 => some (σ_15.1 13 7, σ_15)) FU 0 σ = some (σ.1 13 7, σ') ∧ (∀ c, c ≠ 9 → σ'.1 c = σ.1 c) ∧ σ'.2 = σ.2 ∧ ∀ j, j < 3 → σ'.1 9 j = -1 := by
  refine up0 (fun q i s => L5_deck_45 (fun σ_15 => some (σ_15.1 13 7, σ_15)) q i s) 3 (by omega)
    (fun i s => (∀ c, c ≠ 9 → s.1 c = σ.1 c) ∧ s.2 = σ.2 ∧ ∀ j, j < i → s.1 9 j = -1)
    (fun o => ∃ σ', o = some (σ.1 13 7, σ') ∧ (∀ c, c ≠ 9 → σ'.1 c = σ.1 c) ∧ σ'.2 = σ.2 ∧ ∀ j, j < 3 → σ'.1 9 j = -1) ?_ ?_ σ ⟨fun _ _ => rfl, rfl, fun j hj => absurd hj (by omega)⟩
  · intro q i s hi hs'
    left
    obtain ⟨f1, f2, f3⟩ := hs'
    have hsh : shf s 7 40 3 := ⟨hs.1, hs.2.1, hs.2.2.1, by rw [f1 7 (by omega)]; exact hs.2.2.2.1, hs.2.2.2.2⟩
    refine ⟨wI s 9 i (-1), ⟨fun c hc => by rw [wI_n _ _ _ hc]; exact f1 c hc, f2, fun j hj => ?_⟩, ?_⟩
    · rw [wI_s, upd_a]
      by_cases c : j = i
      · rw [if_pos c]
      · rw [if_neg c]; exact f3 j (by omega)
    · conv => lhs; unfold L5_deck_45
      rw [show (3 : Int32) = nI 3 from rfl, if_neg (nI_ge hi (by omega)), c_remove hsh hi, b1_s, bnd_e, nI_1]
  · intro q s hs'
    obtain ⟨f1, f2, f3⟩ := hs'
    refine ⟨s, ?_, f1, f2, f3⟩
    unfold L5_deck_45
    rw [show (3 : Int32) = nI 3 from rfl, if_pos (nI_le (Nat.le_refl _) (by omega)), f1 13 (by omega)]
theorem m_deck62 {τ : St} {k : St → Option (Int32 × St)} : ∃ τ', L6_deck_62 k FU 0 τ = k τ' ∧ (∀ c, c ≠ 6 → τ'.1 c = τ.1 c) ∧ τ'.2 = τ.2 ∧ ∀ j, j < 6 → τ'.1 6 j = nI j := by
  refine up0 (fun q i s => L6_deck_62 k q i s) 6 (by omega)
    (fun i s => (∀ c, c ≠ 6 → s.1 c = τ.1 c) ∧ s.2 = τ.2 ∧ ∀ j, j < i → s.1 6 j = nI j)
    (fun o => ∃ τ', o = k τ' ∧ (∀ c, c ≠ 6 → τ'.1 c = τ.1 c) ∧ τ'.2 = τ.2 ∧ ∀ j, j < 6 → τ'.1 6 j = nI j) ?_ ?_ τ ⟨fun _ _ => rfl, rfl, fun j hj => absurd hj (by omega)⟩
  · intro q i s hi hs'
    left
    obtain ⟨f1, f2, f3⟩ := hs'
    refine ⟨wI s 6 i (nI i), ⟨fun c hc => by rw [wI_n _ _ _ hc]; exact f1 c hc, f2, fun j hj => ?_⟩, ?_⟩
    · rw [wI_s, upd_a]
      by_cases c : j = i
      · rw [if_pos c, c]
      · rw [if_neg c]; exact f3 j (by omega)
    · conv => lhs; unfold L6_deck_62
      rw [show (6 : Int32) = nI 6 from rfl, if_neg (nI_ge hi (by omega)), gi_nI (by omega) (by omega), bnd_e, bnd_e, nI_clamp (by omega), nI_1]
  · intro q s hs'
    obtain ⟨f1, f2, f3⟩ := hs'
    refine ⟨s, ?_, f1, f2, f3⟩
    unfold L6_deck_62
    rw [show (6 : Int32) = nI 6 from rfl, if_pos (nI_le (Nat.le_refl _) (by omega))]
theorem m_deck112 {τ : St} {k : St → Option (Int32 × St)} : ∃ τ', L6_deck_112 k FU 0 τ = k τ' ∧ (∀ c, c ≠ 10 → τ'.1 c = τ.1 c) ∧ τ'.2 = τ.2 ∧ ∀ j, j < 3 → τ'.1 10 j = 0 := by
  refine up0 (fun q i s => L6_deck_112 k q i s) 3 (by omega)
    (fun i s => (∀ c, c ≠ 10 → s.1 c = τ.1 c) ∧ s.2 = τ.2 ∧ ∀ j, j < i → s.1 10 j = 0)
    (fun o => ∃ τ', o = k τ' ∧ (∀ c, c ≠ 10 → τ'.1 c = τ.1 c) ∧ τ'.2 = τ.2 ∧ ∀ j, j < 3 → τ'.1 10 j = 0) ?_ ?_ τ ⟨fun _ _ => rfl, rfl, fun j hj => absurd hj (by omega)⟩
  · intro q i s hi hs'
    left
    obtain ⟨f1, f2, f3⟩ := hs'
    refine ⟨wI s 10 i 0, ⟨fun c hc => by rw [wI_n _ _ _ hc]; exact f1 c hc, f2, fun j hj => ?_⟩, ?_⟩
    · rw [wI_s, upd_a]
      by_cases c : j = i
      · rw [if_pos c]
      · rw [if_neg c]; exact f3 j (by omega)
    · conv => lhs; unfold L6_deck_112
      rw [show (3 : Int32) = nI 3 from rfl, if_neg (nI_ge hi (by omega)), gi_nI (by omega) (by omega), bnd_e, bnd_e, nI_clamp (by omega), nI_1]
  · intro q s hs'
    obtain ⟨f1, f2, f3⟩ := hs'
    refine ⟨s, ?_, f1, f2, f3⟩
    unfold L6_deck_112
    rw [show (3 : Int32) = nI 3 from rfl, if_pos (nI_le (Nat.le_refl _) (by omega))]
theorem e_deck {σ τ : St} (h : Rel σ τ) (x : Int32) : Sim (f5_deck σ x) (f6_deck τ x) := by
  unfold f5_deck f6_deck
  refine sim_refText h (B := fun σ3 => b2 (f2_faultOf σ3 x) fun r_5 σ_6 => (if r_5 = ((-9)) then b1 (f1_begin σ_6) fun σ_8 => L5_deck_45 (fun (σ_15 : St) => some (σ_15.1 13 7, σ_15)) FU 0 σ_8 else some ((-4), σ_6))) (fun t n ht hn hx s1 s2 hc => ?_)
  subst hx
  obtain ⟨v, σ1, τ1, q1, q2, q3, q4⟩ := e_reads h ht hn s1 s2 hc
  rw [q1, q2, b2_s, b2_s]
  have hR1 := q3.rel h
  by_cases c9 : v = -9
  · obtain ⟨s, hs2, hs6, e1, e2, ⟨⟨g1, g2, g3, g4, g5⟩, gk, gf⟩⟩ := q4 c9
    rw [if_pos c9, if_pos c9]
    have hk : ∀ i, i < s → σ1.1 11 i = nI ((σ1.1 11 i).toNatClampNeg) ∧ (σ1.1 11 i).toNatClampNeg < 6 := fun i hi => by
      obtain ⟨_, a, ha, e⟩ := gk i hi
      rw [e, nI_clamp (by omega)]
      exact ⟨rfl, ha⟩
    have hb : ∀ k, k < 3 * s → σ1.1 12 k = nI ((σ1.1 12 k).toNatClampNeg) ∧ (σ1.1 12 k).toNatClampNeg ≤ 9 := fun k hk => by
      obtain ⟨_, a, ha, e⟩ := gf k hk
      rw [e, nI_clamp (by omega)]
      exact ⟨rfl, ha⟩
    generalize hkd : (fun i => (σ1.1 11 i).toNatClampNeg) = kd
    generalize hbs : (fun k => (σ1.1 12 k).toNatClampNeg) = bs
    have hk' : ∀ i, i < s → σ1.1 11 i = nI (kd i) ∧ kd i < 6 := fun i hi => by rw [← hkd]; exact hk i hi
    have hb' : ∀ k, k < 3 * s → σ1.1 12 k = nI (bs k) ∧ bs k ≤ 9 := fun i hi => by rw [← hbs]; exact hb i hi
    obtain ⟨σ2, w1, w2, w3, w4, w5, w6, w7, w8⟩ := c_begin e1 hs6 hk' hb'
    rw [w1, b1_s]
    have hsh : shf σ2 7 40 3 := ⟨h.sh7.1, h.sh7.2.1, h.sh7.2.2.1, by rw [w2 7 (by omega)]; exact hR1.1.2.2, h.sh7.2.2.2.2⟩
    obtain ⟨σ3, y1, y2, y3, y4⟩ := c_deckL hsh
    rw [y1, bnd_e, e2]
    have hcp1 := m_copies (τ := wI τ1 0 4 (nI s)) (a := 12) (b := 5) (i := 0) (j := 0) (m := 6) (by omega) (by decide) (by decide) (by decide) (by decide)
    generalize ht2 : wA (wI τ1 0 4 (nI s)) 5 (cpG ((wI τ1 0 4 (nI s)).1 5) ((wI τ1 0 4 (nI s)).1 12) 0 0 6) = τ2 at hcp1
    have t2a : ∀ c, c ≠ 0 → c ≠ 5 → τ2.1 c = τ1.1 c := fun c h1 h2 => by rw [← ht2, wA_n _ _ h2, wI_n _ _ _ h1]
    have t2b : ∀ k, k ≠ 4 → τ2.1 0 k = τ1.1 0 k := fun k hk => by rw [← ht2, wA_n _ _ (by omega), wI_s, upd_n _ _ hk]
    have t2c : τ2.1 0 4 = nI s := by rw [← ht2, wA_n _ _ (by omega), wI_s, upd_s]
    have t2d : ∀ i, i < s → τ2.1 5 i = nI (kd i) := fun i hi => by
      have := cpG_in (t := (wI τ1 0 4 (nI s)).1 5) (f := (wI τ1 0 4 (nI s)).1 12) (i := 0) (j := 0) (m := 6) (p := i) (by omega)
      rw [Nat.zero_add] at this
      rw [← ht2, wA_s, this, wI_n _ _ _ (by omega), ← (gk i hi).1]
      exact (hk' i hi).1
    have t2e : τ2.2 = τ1.2 := by rw [← ht2]; rfl
    rw [show (0 : Int32) = nI 0 from rfl, show (6 : Int32) = nI 6 from rfl, hcp1, b1_s, ← show (0 : Int32) = nI 0 from rfl]
    obtain ⟨τ3, u1, u2, u3, u4⟩ := m_deck62 (τ := τ2) (k := fun σ_14 => b1 (f6_copies σ_14 13 0 6 (nI 6) 18) fun σ_16 => bnd (wI σ_16 6 24 0) fun σ_17 => bnd (wI σ_17 0 9 0) fun σ_18 => L6_deck_112 (fun (σ_24 : St) => some (σ_24.1 0 4, σ_24)) FU 0 σ_18)
    rw [u1]
    have hcp2 := m_copies (τ := τ3) (a := 13) (b := 6) (i := 0) (j := 6) (m := 18) (by omega) (by decide) (by decide) (by decide) (by decide)
    generalize ht4 : wA τ3 6 (cpG (τ3.1 6) (τ3.1 13) 0 6 18) = τ4 at hcp2
    have t4a : ∀ c, c ≠ 6 → τ4.1 c = τ2.1 c := fun c h1 => by rw [← ht4, wA_n _ _ h1, u2 c h1]
    rw [show (18 : Int32) = nI 18 from rfl, show (0 : Int32) = nI 0 from rfl, hcp2, b1_s, bnd_e, bnd_e, ← show (0 : Int32) = nI 0 from rfl]
    obtain ⟨τ5, p1, p2, p3, p4⟩ := m_deck112 (τ := wI (wI τ4 6 24 0) 0 9 0) (k := fun (σ_24 : St) => some (σ_24.1 0 4, σ_24))
    rw [p1]
    have e54 : τ5.1 0 4 = nI s := by rw [p2 0 (by omega), wI_s, upd_n _ _ (by omega), wI_n _ _ _ (by omega), t4a 0 (by omega), t2c]
    rw [w4, e54]
    refine ⟨_, _, _, rfl, rfl, hR1.deck ⟨fun c hc => ?_, by rw [y3, w3]⟩ ⟨fun c hc => ?_, fun k k1 k2 => ?_, ?_⟩ ⟨s, kd, bs, [], fun _ => none, ⟨Or.inr hs2, hs6, fun i hi => (hk' i hi).2, fun k hk => (hb' k hk).2, ⟨by decide, fun d hd => (by cases hd)⟩, fun k e he => (by cases he), fun e => absurd e (by omega)⟩, ⟨?_, ?_, ?_, ?_, fun j hj => absurd hj (by simp), ?_, fun k hk _ => y4 k hk, fun k e hk he => (by cases he)⟩, ⟨e54, ?_, fun i hi => ?_, ⟨fun i hi => ?_, fun k hk => ?_, ?_⟩, fun j hj => absurd hj (by simp), fun k hk _ => p4 k hk, fun k e hk he => (by cases he)⟩⟩⟩
    · rw [y2 c (by omega), w2 c (by omega)]
    · rw [p2 c (by omega), wI_n _ _ _ (by omega), wI_n _ _ _ (by omega), t4a c (by omega), t2a c (by omega) (by omega)]
    · rw [p2 0 (by omega), wI_s, upd_n _ _ (by omega), wI_n _ _ _ (by omega), t4a 0 (by omega), t2b k (by omega)]
    · rw [p3, wI_2, wI_2, ← ht4, wA_2, u3, t2e]
    · rw [y2 13 (by omega)]; exact w4
    · rw [y2 13 (by omega)]; exact w5
    · rw [y2 14 (by omega)]; exact w6
    · rw [y2 15 (by omega)]; exact w7
    · exact ⟨by rw [y2 17 (by omega)]; exact w8.1, by rw [y2 16 (by omega)]; exact w8.2.1, by rw [y2 13 (by omega)]; exact w8.2.2⟩
    · rw [p2 0 (by omega), wI_s, upd_s]; rfl
    · rw [p2 5 (by omega), wI_n _ _ _ (by omega), wI_n _ _ _ (by omega), t4a 5 (by omega)]; exact t2d i hi
    · rw [p2 6 (by omega), wI_n _ _ _ (by omega), wI_s, upd_n _ _ (by omega), ← ht4, wA_s, cpG_out (by omega), Nat.zero_add, u4 i (by omega)]
      show _ = nI ((List.range s).getD i 0)
      rw [List.getD_eq_getElem?_getD, List.getElem?_range hi]
      rfl
    · rw [p2 6 (by omega), wI_n _ _ _ (by omega), wI_s, upd_n _ _ (by omega), ← ht4, wA_s, Nat.zero_add, cpG_in (by omega), u2 13 (by omega), t2a 13 (by omega) (by omega), Nat.zero_add, ← (gf k hk).1]
      exact (hb' k hk).1
    · rw [p2 6 (by omega), wI_n _ _ _ (by omega), wI_s, Nat.zero_add, upd_s]; rfl
  · rw [if_neg c9, if_neg c9]
    exact Sim.of hR1 _
/-! deeds by lots -/
def lotN (s : Nat) : Nat := s * 48271 % 2147483647
def lotD (L n : Nat) : Nat := if L / 8 % 8 < 5 then 100 * (L % 3) else if L / 8 % 8 = 5 then 1000 else if L / 8 % 8 = 6 then 2000 + 100 * (1 + L / 64 % (n - 1)) else 3000 + 100 * (L / 64 % n) + 10 * (L % 3) + L / 512 % 10
theorem lotN_lt (s : Nat) : lotN s < 2147483647 := Nat.mod_lt _ (by decide)
theorem l_lot {s : Nat} (h : s < 2147483648) : (lN s * 48271) - (lN s * 48271) / 2147483647 * 2147483647 = lN (lotN s) := by
  rw [show (48271 : Int64) = lN 48271 from rfl, show (2147483647 : Int64) = lN 2147483647 from rfl, lN_mul, pk_lRem (by omega) (by omega) (by omega)]
  rfl
theorem lotD_ok {L n : Nat} (h2 : 2 ≤ n) (hn : n ≤ 6) : okd n (lotD L n) := by
  unfold lotD
  by_cases c1 : L / 8 % 8 < 5
  · rw [if_pos c1]
    exact ⟨by omega, fun _ => by omega, fun _ => by omega, fun _ => by omega⟩
  rw [if_neg c1]
  by_cases c2 : L / 8 % 8 = 5
  · rw [if_pos c2]
    exact ⟨by omega, fun _ => by omega, fun _ => by omega, fun _ => by omega⟩
  rw [if_neg c2]
  by_cases c3 : L / 8 % 8 = 6
  · rw [if_pos c3]
    have := Nat.mod_lt (L / 64) (show 0 < n - 1 by omega)
    exact ⟨by omega, fun _ => by omega, fun _ => by omega, fun _ => by omega⟩
  · rw [if_neg c3]
    have h1 := Nat.mod_lt (L / 64) (show 0 < n by omega)
    have h3 : L % 3 < 3 := Nat.mod_lt _ (by omega)
    have h4 : L / 512 % 10 < 10 := Nat.mod_lt _ (by omega)
    generalize L / 64 % n = a at *
    generalize L % 3 = b at *
    generalize L / 512 % 10 = c at *
    exact ⟨by omega, fun _ => by omega, fun _ => by omega, fun _ => by omega⟩
theorem c_byLot {L n : Nat} (hL : L < 2147483647) (h2 : 2 ≤ n) (hn : n ≤ 6) : f5_deedByLot (nI L) (nI n) = some (nI (lotD L n)) := by
  have m1 := Nat.mod_lt (L / 64) (show 0 < n - 1 by omega)
  have m2 := Nat.mod_lt (L / 64) (show 0 < n by omega)
  have e8 : nI L / 8 - nI L / 8 / 8 * 8 = nI (L / 8 % 8) := by rw [show (8 : Int32) = nI 8 from rfl, pk_div (by omega) (by omega) (by omega), n_rem (by omega) (by omega) (by omega)]
  have e3 : nI L - nI L / 3 * 3 = nI (L % 3) := by rw [show (3 : Int32) = nI 3 from rfl, n_rem (by omega) (by omega) (by omega)]
  have e64 : nI L / 64 = nI (L / 64) := by rw [show (64 : Int32) = nI 64 from rfl, pk_div (by omega) (by omega) (by omega)]
  have e512 : nI L / 512 - nI L / 512 / 10 * 10 = nI (L / 512 % 10) := by rw [show (512 : Int32) = nI 512 from rfl, pk_div (by omega) (by omega) (by omega), show (10 : Int32) = nI 10 from rfl, n_rem (by omega) (by omega) (by omega)]
  have en1 : nI n - 1 = nI (n - 1) := pk_sub (b := 1) (by omega)
  unfold f5_deedByLot lotD
  simp only [jn_e, bnd_e]
  rw [e8, e3, e64, e512, en1, n_rem (by omega) (by omega) (by omega), n_rem (by omega) (by omega) (by omega)]
  by_cases c1 : L / 8 % 8 < 5
  · rw [if_pos (show nI (L / 8 % 8) < 5 from nI_lt (b := 5) c1 (by omega)), if_pos c1, show (0 : Int32) = nI 0 from rfl, c_deedOf, b1_s, show 1000 * 0 + 100 * (L % 3) + 10 * 0 + 0 = 100 * (L % 3) by omega]
  rw [if_neg (show ¬ nI (L / 8 % 8) < 5 from nI_nlt (b := 5) (by omega) (by omega)), if_neg c1, if_pos (show (2 : Int32) ≤ nI n from nI_le (a := 2) h2 (by omega))]
  by_cases c2 : L / 8 % 8 = 5
  · rw [if_pos (show nI (L / 8 % 8) = 5 by rw [c2]; rfl), if_pos c2]
    rfl
  rw [if_neg (show ¬ nI (L / 8 % 8) = 5 by rw [show (5 : Int32) = nI 5 from rfl, nI_eq (by omega) (by omega)]; exact c2), if_neg c2]
  by_cases c3 : L / 8 % 8 = 6
  · rw [if_pos (show nI (L / 8 % 8) = 6 by rw [c3]; rfl), if_pos c3, nz_e (nI_ne0 (by omega) (by omega)), show (1 : Int32) = nI 1 from rfl, nI_add, show (2 : Int32) = nI 2 from rfl, show (0 : Int32) = nI 0 from rfl, c_deedOf, b1_s, show 1000 * 2 + 100 * (1 + L / 64 % (n - 1)) + 10 * 0 + 0 = 2000 + 100 * (1 + L / 64 % (n - 1)) by omega]
  · rw [if_neg (show ¬ nI (L / 8 % 8) = 6 by rw [show (6 : Int32) = nI 6 from rfl, nI_eq (by omega) (by omega)]; exact c3), if_neg c3, nz_e (nI_ne0 (by omega) (by omega)), show (3 : Int32) = nI 3 from rfl, c_deedOf, b1_s]
theorem m_lotStep {τ : St} {n L m i : Nat} {kd bs : Nat → Nat} {ds : List Nat} {kp : Nat → Option (List Nat)} (hA : DA n kd bs ds kp) (hM : DM τ n kd bs ds kp) (h2 : 2 ≤ n) (hl : ds.length < 40) (s : Nat) (hs : s < 2147483648) (hL : lotN s = L) (him : i < m) (hm : m ≤ 20) {k : St → Option (Int32 × St)} (q : Nat) :
    ∃ τ2, L6_lots_56 (nI m) k (q + 1) (lN s) (nI i) τ = L6_lots_56 (nI m) k q (lN L) (nI (i + 1)) τ2 ∧ DM τ2 n kd bs (ds ++ [lotD L n]) kp ∧ frM τ τ2 := by
  have hn := hA.2.1
  have hLt : L < 2147483647 := by rw [← hL]; exact lotN_lt s
  have m1 := Nat.mod_lt (L / 64) (show 0 < n - 1 by omega)
  have m2 := Nat.mod_lt (L / 64) (show 0 < n by omega)
  have e8 : (lN L / 8 - lN L / 8 / 8 * 8).toInt32 = nI (L / 8 % 8) := by rw [show (8 : Int64) = lN 8 from rfl, pk_lDiv (by omega) (by omega) (by omega), pk_lRem (by omega) (by omega) (by omega), lN_i]
  have e3 : (lN L - lN L / 3 * 3).toInt32 = nI (L % 3) := by rw [show (3 : Int64) = lN 3 from rfl, pk_lRem (by omega) (by omega) (by omega), lN_i]
  have e512 : (lN L / 512 - lN L / 512 / 10 * 10).toInt32 = nI (L / 512 % 10) := by rw [show (512 : Int64) = lN 512 from rfl, pk_lDiv (by omega) (by omega) (by omega), show (10 : Int64) = lN 10 from rfl, pk_lRem (by omega) (by omega) (by omega), lN_i]
  conv => enter [1, τ2, 1, 1]; unfold L6_lots_56
  simp only [jn_e, bnd_e]
  rw [if_neg (nI_ge him (by omega)), l_lot hs, hL, e8, e3, e512, nI_1]
  unfold lotD
  by_cases c1 : L / 8 % 8 < 5
  · obtain ⟨τ1, τ2, r1, r2, r3, r4⟩ := m_doPass hA hM hl (col := L % 3) (by omega)
    rw [if_pos c1]
    refine ⟨τ2, ?_, r3, r4⟩
    rw [r1, b1_s, if_neg (show ¬ (5 : Int32) ≤ nI (L / 8 % 8) from nI_ge (b := 5) c1 (by omega)), r2, b1_s]
  rw [if_neg c1]
  by_cases c2 : L / 8 % 8 = 5
  · obtain ⟨τ1, τ2, r1, r2, r3, r4⟩ := m_doTurn hA hM hl
    rw [if_pos c2]
    refine ⟨τ2, ?_, r3, r4⟩
    rw [r1, b1_s, if_pos (show (5 : Int32) ≤ nI (L / 8 % 8) from nI_le (a := 5) (by omega) (by omega)), if_pos (show nI (L / 8 % 8) = 5 by rw [c2]; rfl), r2, b1_s]
  rw [if_neg c2]
  by_cases c3 : L / 8 % 8 = 6
  · obtain ⟨τ1, τ2, r1, r2, r3, r4⟩ := m_doLift hA hM hl (a := 1 + L / 64 % (n - 1)) (by omega)
    obtain ⟨τ1', s1', -, s2', -⟩ := m_rem hM hn hl
    have e4 : τ1.1 0 4 = nI n := by
      rw [r1] at s1'
      cases s1'
      rw [s2' 4 (by omega)]
      exact hM.1
    rw [if_pos c3]
    refine ⟨τ2, ?_, r3, r4⟩
    rw [r1, b1_s, if_pos (show (5 : Int32) ≤ nI (L / 8 % 8) from nI_le (a := 5) (by omega) (by omega)), if_neg (show ¬ nI (L / 8 % 8) = 5 by rw [show (5 : Int32) = nI 5 from rfl, nI_eq (by omega) (by omega)]; exact c2), if_pos (show nI (L / 8 % 8) = 6 by rw [c3]; rfl), e4, show nI n - 1 = nI (n - 1) from pk_sub (b := 1) (by omega), nI_l (by omega), show (64 : Int64) = lN 64 from rfl, pk_lDiv (by omega) (by omega) (by omega), pk_lRem (by omega) (by omega) (by omega), lN_i, nzl_e (show ¬ lN (n - 1) = 0 by rw [show (0 : Int64) = lN 0 from rfl, lN_eq (by omega) (by omega)]; omega), show (1 : Int32) = nI 1 from rfl, nI_add, r2, b1_s]
  · obtain ⟨τ1, r1, r3, r4, e4⟩ := m_doPunch hA hM hl (i := L / 64 % n) (c := L % 3) (v := L / 512 % 10) m2 (by omega) (by omega)
    rw [if_neg c3]
    refine ⟨_, ?_, r3, r4⟩
    rw [r1, b1_s, if_pos (show (5 : Int32) ≤ nI (L / 8 % 8) from nI_le (a := 5) (by omega) (by omega)), if_neg (show ¬ nI (L / 8 % 8) = 5 by rw [show (5 : Int32) = nI 5 from rfl, nI_eq (by omega) (by omega)]; exact c2), if_neg (show ¬ nI (L / 8 % 8) = 6 by rw [show (6 : Int32) = nI 6 from rfl, nI_eq (by omega) (by omega)]; exact c3), e4, nI_l (by omega), show (64 : Int64) = lN 64 from rfl, pk_lDiv (by omega) (by omega) (by omega), pk_lRem (by omega) (by omega) (by omega), lN_i, nzl_e (show ¬ lN n = 0 by rw [show (0 : Int64) = lN 0 from rfl, lN_eq (by omega) (by omega)]; omega), show (6 : Int32) = nI 6 from rfl, show (3 : Int32) = nI 3 from rfl, pk_mul, nI_add, nI_add, gi_nI (by omega) (by omega), nI_clamp (by omega)]
theorem e_lotsL {m n : Nat} {kd bs : Nat → Nat} {kp : Nat → Option (List Nat)} (h2 : 2 ≤ n) (hm : m ≤ 20) : ∀ (j i s : Nat) (ds : List Nat) (σ τ : St) (f g : Nat), i + j = m → s < 2147483648 → ds.length + j ≤ 40 → j < f → j < g → Rel σ τ → DA n kd bs ds kp → DC σ n kd bs ds kp → DM τ n kd bs ds kp →
    Sim (L5_lots_46 (nI m) (fun σ_15 => some (σ_15.1 17 0, σ_15)) f (lN s) (nI i) σ) (L6_lots_56 (nI m) (fun σ_27 => some (σ_27.1 6 0, σ_27)) g (lN s) (nI i) τ) := by
  intro j
  induction j with
  | zero =>
    intro i s ds σ τ f g hij hs hl hf hg h hA hC hM
    obtain ⟨f', rfl⟩ : ∃ q, f = q + 1 := ⟨f - 1, by omega⟩
    obtain ⟨g', rfl⟩ : ∃ q, g = q + 1 := ⟨g - 1, by omega⟩
    unfold L5_lots_46 L6_lots_56
    rw [if_pos (nI_le (by omega) (by omega)), if_pos (nI_le (by omega) (by omega)), hC.2.2.2.2.2.1.1 0 (by omega)]
    have := hM.2.2.2.1.1 0 (by omega)
    rw [Nat.zero_add] at this
    rw [this]
    exact Sim.of h _
  | succ j ih =>
    intro i s ds σ τ f g hij hs hl hf hg h hA hC hM
    obtain ⟨f', rfl⟩ : ∃ q, f = q + 1 := ⟨f - 1, by omega⟩
    obtain ⟨g', rfl⟩ : ∃ q, g = q + 1 := ⟨g - 1, by omega⟩
    have hn := hA.2.1
    have hLt := lotN_lt s
    obtain ⟨τ2, e1, hM2, hf2⟩ := m_lotStep hA hM h2 (by omega) s hs rfl (show i < m by omega) hm (k := fun σ_27 => some (σ_27.1 6 0, σ_27)) g'
    obtain ⟨σ', q1, q2, q3⟩ := c_add hA hC h2 (by omega) (lotD_ok (L := lotN s) h2 hn)
    rw [e1]
    conv => enter [1]; unfold L5_lots_46
    rw [if_neg (nI_ge (show i < m by omega) (by omega)), bnd_e, l_lot hs, lN_i, hC.1, c_byLot hLt h2 hn, b1_s, q1, b2_s, bnd_e, nI_1]
    have hA2 := hA.add h2 (by omega) (lotD_ok (L := lotN s) h2 hn)
    exact ih (i + 1) (lotN s) (ds ++ [lotD (lotN s) n]) σ' τ2 f' g' (by omega) (by omega) (by rw [List.length_append]; show ds.length + 1 + j ≤ 40; omega) (by omega) (by omega) (h.deck q2 hf2 ⟨n, kd, bs, _, kp, hA2, q3, hM2⟩) hA2 q3 hM2
theorem e_lots {σ τ : St} (h : Rel σ τ) (x y : Int32) : Sim (f5_lots σ x y) (f6_lots τ x y) := by
  obtain ⟨n, kd, bs, ds, kp, hA, hC, hM⟩ := h.2.2.2.2
  have hn6 := hA.2.1
  have hl := hA.2.2.2.2.1.1
  have e1 : (1 : Int32).toInt = 1 := by decide
  have e20 : (20 : Int32).toInt = 20 := by decide
  have hrx := i_rng x
  have hry := i_rng y
  unfold f5_lots f6_lots
  rw [m_in x 1 20 1 20 (by decide) (by decide), b1_s, m_in y 1 2147483646 1 2147483646 (by decide) (by decide), b1_s]
  by_cases a1 : x.toInt < 1
  · rw [if_pos (show x < 1 by rw [i_lt, e1]; exact a1), if_neg (show ¬ (1 ≤ x.toInt ∧ x.toInt ≤ 20) by omega), i00]
    exact Sim.of h _
  rw [if_neg (show ¬ x < 1 by rw [i_lt, e1]; exact a1)]
  by_cases a2 : 20 < x.toInt
  · rw [if_pos (show 20 < x by rw [i_lt, e20]; exact a2), if_neg (show ¬ (1 ≤ x.toInt ∧ x.toInt ≤ 20) by omega), i00]
    exact Sim.of h _
  rw [if_neg (show ¬ 20 < x by rw [i_lt, e20]; exact a2), if_pos (show (1 ≤ x.toInt ∧ x.toInt ≤ 20) by omega), i10]
  by_cases a3 : y.toInt < 1
  · rw [if_pos (show y < 1 by rw [i_lt, e1]; exact a3), if_neg (show ¬ (1 ≤ y.toInt ∧ y.toInt ≤ 2147483646) by omega), i00]
    exact Sim.of h _
  rw [if_neg (show ¬ y < 1 by rw [i_lt, e1]; exact a3)]
  by_cases a4 : y.toInt < 2147483647
  · rw [if_pos (show y.toInt64 < 2147483647 by rw [l_lt, l_of, show (2147483647 : Int64).toInt = 2147483647 from by decide]; exact a4), if_pos (show (1 ≤ y.toInt ∧ y.toInt ≤ 2147483646) by omega), i10, hM.1]
    obtain ⟨m, hm, rfl⟩ : ∃ m : Nat, m < 21 ∧ x = nI m := by
      rcases ix x 21 (by omega) with q | q
      · omega
      · exact q
    obtain ⟨s, hs, rfl⟩ : ∃ s : Nat, s < 2147483647 ∧ y = nI s := by
      rcases ix y 2147483647 (by omega) with q | q
      · omega
      · exact q
    by_cases hn : n = 0
    · subst hn
      rw [c_refD0 hC.1, b1_s, im4, if_pos (by rfl)]
      exact Sim.of h _
    have h2 : 2 ≤ n := by rcases hA.1 with q | q <;> omega
    rw [c_refD hC.1 hC.2.1 (by omega) hn6 hl (by omega), b1_s, if_neg (nI_ne0 (by omega) (by omega)), hM.2.1, nI_add]
    by_cases c4 : ds.length + m ≤ 40
    · rw [if_pos c4, i00, if_pos (show nI (ds.length + m) ≤ 40 from nI_le (b := 40) c4 (by omega)), bnd_e, bnd_e, nI_l (by omega)]
      exact e_lotsL h2 (by omega) m 0 s ds σ τ FU FU (by omega) (by omega) c4 (by rw [FU_e]; omega) (by rw [FU_e]; omega) h hA hC hM
    · rw [if_neg c4, im2, if_neg (show ¬ nI (ds.length + m) ≤ 40 from nI_ge (a := 40) (by omega) (by omega))]
      exact Sim.of h _
  · rw [if_neg (show ¬ y.toInt64 < 2147483647 by rw [l_lt, l_of, show (2147483647 : Int64).toInt = 2147483647 from by decide]; exact a4), if_neg (show ¬ (1 ≤ y.toInt ∧ y.toInt ≤ 2147483646) by omega), i00]
    exact Sim.of h _
