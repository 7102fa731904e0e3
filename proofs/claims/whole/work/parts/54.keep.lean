theorem okds_take {n m : Nat} {ds : List Nat} (h : okds n ds) : okds n (ds.take m) := ⟨by rw [List.length_take]; have := h.1; omega, fun d hd => h.2 d (List.mem_of_mem_take hd)⟩
theorem getD_take {l : List Nat} {m j : Nat} (h : j < m) : (l.take m).getD j 0 = l.getD j 0 := by
  rw [List.getD_eq_getElem?_getD, List.getD_eq_getElem?_getD, List.getElem?_take_of_lt h]
theorem e_undo {σ τ : St} (h : Rel σ τ) (x : Int32) : Sim (f5_undo σ x) (f6_undo τ x) := by
  obtain ⟨n, kd, bs, ds, kp, hA, hC, hM⟩ := h.2.2.2.2
  have hn6 := hA.2.1
  have hl := hA.2.2.2.2.1.1
  obtain ⟨c1, c2, c3, c4, c5, c6, c7, c8⟩ := hC
  obtain ⟨m1, m2, m3, m4, m5, m6, m7⟩ := hM
  have el := i_lit ds.length (by omega)
  unfold f5_undo f6_undo
  simp only [jn_e, bnd_e]
  rw [c2, m2, m_in x 0 ds.length 0 ((nI ds.length).toInt64) (by decide) (by rw [l_of, el]), b1_s]
  by_cases a1 : x.toInt < 0
  · rw [if_pos (show x < 0 by rw [i_lt, i_0]; exact a1), if_neg (show ¬ (0 ≤ x.toInt ∧ x.toInt ≤ ds.length) by omega), i00]
    exact Sim.of h _
  rw [if_neg (show ¬ x < 0 by rw [i_lt, i_0]; exact a1)]
  by_cases a2 : x.toInt ≤ ds.length
  · obtain ⟨m, hm, rfl⟩ : ∃ m : Nat, m < 41 ∧ x = nI m := by
      rcases ix x 41 (by omega) with q | q
      · omega
      · exact q
    rw [if_pos (show nI m ≤ nI ds.length by rw [i_le, el]; exact a2), if_pos (show 0 ≤ (nI m).toInt ∧ (nI m).toInt ≤ ds.length by omega), i10]
    rw [i_lit m (by omega)] at a2
    have hml : m ≤ ds.length := by omega
    have htl : (ds.take m).length = m := by rw [List.length_take]; omega
    obtain ⟨σ', q1, q2, q3, q4, q5, q6⟩ := c_redo (σ := σ) (n := n) (kd := kd) (bs := bs) (es := ds.take m) c1 hn6 (fun i hi => ⟨c3 i hi, hA.2.2.1 i hi⟩) (fun k hk => ⟨c4 k hk, hA.2.2.2.1 k hk⟩) (by omega) (fun j hj => by rw [getD_take (by omega)]; exact c5 j (by omega)) (okds_take hA.2.2.2.2.1).2
    rw [htl] at q1 q4
    rw [q1, b1_s, pk_sub hml]
    have hA' : DA n kd bs (ds.take m) kp := ⟨hA.1, hA.2.1, hA.2.2.1, hA.2.2.2.1, okds_take hA.2.2.2.2.1, hA.2.2.2.2.2.1, fun e => ⟨by rw [(hA.2.2.2.2.2.2 e).1, List.take_nil], (hA.2.2.2.2.2.2 e).2⟩⟩
    have hC' : DC σ' n kd bs (ds.take m) kp := by
      refine ⟨?_, ?_, ?_, ?_, ?_, q6, ?_, ?_⟩
      · rw [q3 7 (by omega) (by omega)]; exact c1
      · rw [htl]; exact q4
      · rw [q2 14 (by omega) (by omega) (by omega) (by omega) (by omega)]; exact c3
      · rw [q2 15 (by omega) (by omega) (by omega) (by omega) (by omega)]; exact c4
      · intro j hj
        rw [q2 20 (by omega) (by omega) (by omega) (by omega) (by omega), getD_take (by omega)]; exact c5 j (by omega)
      · rw [q2 9 (by omega) (by omega) (by omega) (by omega) (by omega)]; exact c7
      · rw [q2 9 (by omega) (by omega) (by omega) (by omega) (by omega), q2 8 (by omega) (by omega) (by omega) (by omega) (by omega)]; exact c8
    have hfD : frD σ σ' := ⟨fun c hc => q2 c (by omega) (by omega) (by omega) (by omega) (by omega), q5⟩
    by_cases a3 : m = ds.length
    · rw [if_pos (show nI (ds.length - m) ≤ 0 by rw [a3, Nat.sub_self]; decide)]
      refine ⟨_, _, _, rfl, rfl, h.deck hfD ⟨fun c hc => by rw [wI_n _ _ _ (by omega)], fun k k1 k2 => by rw [wI_s, upd_n _ _ (by omega)], rfl⟩ ⟨n, kd, bs, ds.take m, kp, hA', hC', ?_⟩⟩
      have et : ds.take m = ds := List.take_of_length_le (by omega)
      refine ⟨m1, ?_, m3, ?_, fun j hj => ?_, m6, m7⟩
      · rw [wI_s, upd_s, htl]
      · rw [et]; exact m4
      · rw [et] at hj ⊢; exact m5 j hj
    · have hcp := m_copies (τ := τ) (a := 8) (b := 6) (i := 25 * m) (j := 0) (m := 25) (by omega) (by show 25 * m + 25 ≤ 1000; omega) (by decide) (by decide) (by decide)
      rw [if_neg (nI_nle (by omega) (by omega)), show (25 : Int32) = nI 25 from rfl, pk_mul, show (0 : Int32) = nI 0 from rfl, hcp, b1_s]
      refine ⟨_, _, _, rfl, rfl, h.deck hfD ⟨fun c hc => by rw [wI_n _ _ _ (by omega), wA_n _ _ (by omega)], fun k k1 k2 => by rw [wI_s, upd_n _ _ (by omega)]; rfl, rfl⟩ ⟨n, kd, bs, ds.take m, kp, hA', hC', ?_⟩⟩
      refine ⟨m1, ?_, m3, ?_, fun j hj => ?_, m6, m7⟩
      · rw [wI_s, upd_s, htl]
      · refine snp_cg (m5 m (by omega)) (fun j hj => ?_) hn6
        rw [wI_n _ _ _ (by omega), wA_s, cpG_in hj]
      · rw [htl] at hj
        rw [List.take_take, Nat.min_eq_left (by omega)]
        exact m5 j (by omega)
  · rw [if_neg (show ¬ x ≤ nI ds.length by rw [i_le, el]; exact a2), if_neg (show ¬ (0 ≤ x.toInt ∧ x.toInt ≤ ds.length) by omega), i00]
    exact Sim.of h _
theorem c_place3 {β : Type} (x : Int32) (a b : β) : (if x < 0 then a else if x < 3 then b else a) = if inB x 3 = 0 then a else b := by
  have e3 : (3 : Int32).toInt = 3 := by decide
  unfold inB
  by_cases c1 : x.toInt < 0
  · rw [if_pos (show x < 0 by rw [i_lt, i_0]; exact c1), if_neg (show ¬ (0 ≤ x.toInt ∧ x.toInt < ((3 : Nat) : Int)) by omega), i00]
  · rw [if_neg (show ¬ x < 0 by rw [i_lt, i_0]; exact c1)]
    by_cases c2 : x.toInt < 3
    · rw [if_pos (show x < 3 by rw [i_lt, e3]; exact c2), if_pos (show (0 ≤ x.toInt ∧ x.toInt < ((3 : Nat) : Int)) by omega), i10]
    · rw [if_neg (show ¬ x < 3 by rw [i_lt, e3]; exact c2), if_neg (show ¬ (0 ≤ x.toInt ∧ x.toInt < ((3 : Nat) : Int)) by omega), i00]
def kpS (kp : Nat → Option (List Nat)) (k : Nat) (e : List Nat) : Nat → Option (List Nat) := fun q => if q = k then some e else kp q
theorem c_keepL {σ : St} {k : Nat} {ds : List Nat} (hs : shf σ 7 40 3) (hk : k < 3) (hl : ds.length ≤ 40) (h9 : σ.1 13 9 = nI ds.length) (hz : σ.1 9 k = nI ds.length) (hv : ∀ j, j < ds.length → σ.1 20 j = nI (ds.getD j 0)) :
    ∃ σ', L5_keep_42 (nI k) (fun σ_9 => some (σ_9.1 13 9, σ_9)) FU 0 σ = some (nI ds.length, σ') ∧ (∀ c, c ≠ 8 → σ'.1 c = σ.1 c) ∧ σ'.2 = σ.2 ∧ (∀ j, j < ds.length → σ'.1 8 (40 * k + j) = nI (ds.getD j 0)) ∧ ∀ j, j < 40 * k ∨ 40 * k + 40 ≤ j → σ'.1 8 j = σ.1 8 j := by
  refine up0 (fun q i s => L5_keep_42 (nI k) (fun σ_9 => some (σ_9.1 13 9, σ_9)) q i s) ds.length (by omega)
    (fun i s => (∀ c, c ≠ 8 → s.1 c = σ.1 c) ∧ s.2 = σ.2 ∧ (∀ j, j < i → s.1 8 (40 * k + j) = nI (ds.getD j 0)) ∧ ∀ j, j < 40 * k ∨ 40 * k + 40 ≤ j → s.1 8 j = σ.1 8 j)
    (fun o => ∃ σ', o = some (nI ds.length, σ') ∧ (∀ c, c ≠ 8 → σ'.1 c = σ.1 c) ∧ σ'.2 = σ.2 ∧ (∀ j, j < ds.length → σ'.1 8 (40 * k + j) = nI (ds.getD j 0)) ∧ ∀ j, j < 40 * k ∨ 40 * k + 40 ≤ j → σ'.1 8 j = σ.1 8 j) ?_ ?_ σ ⟨fun _ _ => rfl, rfl, fun j hj => absurd hj (by omega), fun _ _ => rfl⟩
  · intro q i s hi hs'
    left
    obtain ⟨f1, f2, f3, f4⟩ := hs'
    have hsh : shf s 7 40 3 := ⟨hs.1, hs.2.1, hs.2.2.1, by rw [f1 7 (by omega)]; exact hs.2.2.2.1, hs.2.2.2.2⟩
    have hset := c_set (v := nI (ds.getD i 0)) hsh hk (show s.1 (7 + 2) k = nI ds.length by rw [f1 (7 + 2) (by omega)]; exact hz) (by omega) hi
    refine ⟨wI s 8 (40 * k + i) (nI (ds.getD i 0)), ⟨fun c hc => by rw [wI_n _ _ _ hc]; exact f1 c hc, f2, fun j hj => ?_, fun j hj => ?_⟩, ?_⟩
    · rw [wI_s, upd_a]
      by_cases c : j = i
      · rw [if_pos (by omega), c]
      · rw [if_neg (by omega)]; exact f3 j (by omega)
    · rw [wI_s, upd_n _ _ (by omega)]; exact f4 j hj
    · conv => lhs; unfold L5_keep_42
      rw [f1 13 (by omega), h9, if_neg (nI_ge hi (by omega)), gi_nI (by omega) (by omega), nI_clamp (by omega), f1 20 (by omega), hv i hi, hset, b1_s, bnd_e, nI_1]
  · intro q s hs'
    obtain ⟨f1, f2, f3, f4⟩ := hs'
    refine ⟨s, ?_, f1, f2, f3, f4⟩
    unfold L5_keep_42
    rw [f1 13 (by omega), h9, if_pos (nI_le (Nat.le_refl _) (by omega))]
theorem e_keep {σ τ : St} (h : Rel σ τ) (x : Int32) : Sim (f5_keep σ x) (f6_keep τ x) := by
  obtain ⟨n, kd, bs, ds, kp, hA, hC, hM⟩ := h.2.2.2.2
  have hn6 := hA.2.1
  have hl := hA.2.2.2.2.1.1
  obtain ⟨c1, c2, c3, c4, c5, c6, c7, c8⟩ := hC
  obtain ⟨m1, m2, m3, m4, m5, m6, m7⟩ := hM
  unfold f5_keep f6_keep
  rw [c_place3, m_isPlace, b1_s]
  rcases ix x 3 (by omega) with hx | ⟨k, hk, rfl⟩
  · rw [inB_out hx, i00, i00]
    exact Sim.of h _
  rw [inB_nI hk (by omega), i10, i10, c1, m1]
  by_cases hn : n = 0
  · subst hn
    rw [if_pos (by rfl), if_pos (by rfl)]
    exact Sim.of h _
  rw [if_neg (nI_ne0 (by omega) (by omega)), if_neg (nI_ne0 (by omega) (by omega)), c2, c_make h.sh7 hk hl, b1_s]
  obtain ⟨σ', q1, q2, q3, q4, q5⟩ := c_keepL (σ := wA (wI σ (7 + 2) k (nI ds.length)) (7 + 1) (flF (σ.1 (7 + 1)) (40 * k) ds.length 0)) (k := k) (ds := ds) ⟨h.sh7.1, h.sh7.2.1, h.sh7.2.2.1, h.sh7.2.2.2.1, h.sh7.2.2.2.2⟩ hk hl c2 (by
    show upd (σ.1 9) k (nI ds.length) k = _
    rw [upd_s]) c5
  have hcp1 := m_copies (τ := τ) (a := 6) (b := 9) (i := 0) (j := 1026 * k) (m := 25) (by omega) (by decide) (by show 1026 * k + 25 ≤ 3078; omega) (by decide) (by decide)
  generalize ht1 : wA τ 9 (cpG (τ.1 9) (τ.1 6) 0 (1026 * k) 25) = t1 at hcp1
  generalize ht2 : wI t1 9 (1026 * k + 25) (nI ds.length) = t2
  have hcp2 := m_copies (τ := t2) (a := 8) (b := 9) (i := 0) (j := 1026 * k + 25 + 1) (m := 1000) (by omega) (by decide) (by show 1026 * k + 25 + 1 + 1000 ≤ 3078; omega) (by decide) (by decide)
  have e19 : t1.1 0 9 = nI ds.length := by rw [← ht1]; exact m2
  rw [q1, show (25 : Int32) = nI 25 from rfl, show (1026 : Int32) = nI 1026 from rfl, show (0 : Int32) = nI 0 from rfl, pk_mul, hcp1, b1_s, nI_add, gi_nI (by omega) (by omega), bnd_e, nI_clamp (by omega), e19, ht2, nI_1, show (1000 : Int32) = nI 1000 from rfl, hcp2, b1_s, gi_nI hk (by omega), bnd_e, nI_clamp (by omega)]
  have e29 : t2.1 0 9 = nI ds.length := by rw [← ht2]; exact e19
  rw [show (wI (wA t2 9 (cpG (t2.1 9) (t2.1 8) 0 (1026 * k + 25 + 1) 1000)) 10 k 1).1 0 9 = nI ds.length from e29]
  refine ⟨_, _, _, rfl, rfl, h.deck ⟨fun c hc => ?_, q3⟩ ⟨fun c hc => ?_, fun k _ _ => ?_, ?_⟩ ⟨n, kd, bs, ds, kpS kp k ds, ⟨hA.1, hA.2.1, hA.2.2.1, hA.2.2.2.1, hA.2.2.2.2.1, fun q e he => ?_, fun e => absurd e hn⟩, ⟨?_, ?_, ?_, ?_, ?_, ?_, fun q hq he => ?_, fun q e hq he => ?_⟩, ⟨?_, ?_, ?_, ?_, ?_, fun q hq he => ?_, fun q e hq he => ?_⟩⟩⟩
  · rw [q2 c (by omega), wA_n _ _ (by omega), wI_n _ _ _ (by omega)]
  · rw [wI_n _ _ _ (by omega), wA_n _ _ (by omega), ← ht2, wI_n _ _ _ (by omega), ← ht1, wA_n _ _ (by omega)]
  · rw [wI_n _ _ _ (by omega), wA_n _ _ (by omega), ← ht2, wI_n _ _ _ (by omega), ← ht1, wA_n _ _ (by omega)]
  · rw [wI_2, wA_2, ← ht2, wI_2, ← ht1, wA_2]
  · unfold kpS at he
    by_cases eq : q = k
    · rw [if_pos eq] at he
      cases he
      exact hA.2.2.2.2.1
    · rw [if_neg eq] at he
      exact hA.2.2.2.2.2.1 q e he
  · rw [q2 13 (by omega)]; exact c1
  · rw [q2 13 (by omega)]; exact c2
  · rw [q2 14 (by omega)]; exact c3
  · rw [q2 15 (by omega)]; exact c4
  · rw [q2 20 (by omega)]; exact c5
  · exact ⟨by rw [q2 17 (by omega)]; exact c6.1, by rw [q2 16 (by omega)]; exact c6.2.1, by rw [q2 13 (by omega)]; exact c6.2.2⟩
  · unfold kpS at he
    by_cases eq : q = k
    · rw [if_pos eq] at he
      cases he
    · rw [if_neg eq] at he
      rw [q2 9 (by omega)]
      show upd (σ.1 9) k _ q = _
      rw [upd_n _ _ eq]
      exact c7 q hq he
  · unfold kpS at he
    by_cases eq : q = k
    · rw [if_pos eq] at he
      cases he
      subst eq
      rw [q2 9 (by omega)]
      refine ⟨?_, q4⟩
      show upd (σ.1 9) q _ q = _
      rw [upd_s]
    · rw [if_neg eq] at he
      obtain ⟨u1, u2⟩ := c8 q e hq he
      have hle := (hA.2.2.2.2.2.1 q e he).1
      rw [q2 9 (by omega)]
      refine ⟨?_, fun j hj => ?_⟩
      · show upd (σ.1 9) k _ q = _
        rw [upd_n _ _ eq]
        exact u1
      · have hne := rowne (w := 40) (r := k) (r' := q) (i := j) (n := 40) eq (by omega) (by omega)
        rw [q5 _ (by omega)]
        show flF (σ.1 8) (40 * k) ds.length 0 (40 * q + j) = _
        rw [flF_ne eq (by omega) hl]
        exact u2 j hj
  · rw [wI_n _ _ _ (by omega), wA_n _ _ (by omega), ← ht2, wI_n _ _ _ (by omega), ← ht1, wA_n _ _ (by omega)]; exact m1
  · exact e29
  · rw [wI_n _ _ _ (by omega), wA_n _ _ (by omega), ← ht2, wI_n _ _ _ (by omega), ← ht1, wA_n _ _ (by omega)]; exact m3
  · rw [wI_n _ _ _ (by omega), wA_n _ _ (by omega), ← ht2, wI_n _ _ _ (by omega), ← ht1, wA_n _ _ (by omega)]; exact m4
  · rw [wI_n _ _ _ (by omega), wA_n _ _ (by omega), ← ht2, wI_n _ _ _ (by omega), ← ht1, wA_n _ _ (by omega)]; exact m5
  · unfold kpS at he
    by_cases eq : q = k
    · rw [if_pos eq] at he
      cases he
    · rw [if_neg eq] at he
      rw [wI_s, upd_n _ _ eq, wA_n _ _ (by omega), ← ht2, wI_n _ _ _ (by omega), ← ht1, wA_n _ _ (by omega)]
      exact m6 q hq he
  · have e9 : (wI (wA t2 9 (cpG (t2.1 9) (t2.1 8) 0 (1026 * k + 25 + 1) 1000)) 10 k 1).1 9 = cpG (upd (cpG (τ.1 9) (τ.1 6) 0 (1026 * k) 25) (1026 * k + 25) (nI ds.length)) (τ.1 8) 0 (1026 * k + 25 + 1) 1000 := by
      rw [wI_n _ _ _ (by omega), wA_s]
      congr 1
      · rw [← ht2, wI_s, ← ht1, wA_s]
      · rw [← ht2, wI_n _ _ _ (by omega), ← ht1, wA_n _ _ (by omega)]
    rw [e9, wI_s]
    unfold kpS at he
    by_cases eq : q = k
    · rw [if_pos eq] at he
      cases he
      subst eq
      refine ⟨upd_s _ _ _, ?_, ?_, fun j hj => ?_⟩
      · rw [cpG_out (by omega), upd_s]
      · refine snp_cg m4 (fun j hj => ?_) hn6
        rw [cpG_out (by omega), upd_n _ _ (by omega), cpG_in hj]
      · refine snp_cg (m5 j hj) (fun i hi => ?_) hn6
        rw [show 1026 * q + 26 + 25 * j + i = (1026 * q + 25 + 1) + (25 * j + i) by omega, cpG_in (by omega), Nat.zero_add]
    · rw [if_neg eq] at he
      obtain ⟨u1, u2, u3, u4⟩ := m7 q e hq he
      have hle := (hA.2.2.2.2.2.1 q e he).1
      have same : ∀ p, 1026 * q ≤ p → p < 1026 * q + 1026 → cpG (upd (cpG (τ.1 9) (τ.1 6) 0 (1026 * k) 25) (1026 * k + 25) (nI ds.length)) (τ.1 8) 0 (1026 * k + 25 + 1) 1000 p = τ.1 9 p := fun p p1 p2 => by
        rw [cpG_out (by omega), upd_n _ _ (by omega), cpG_out (by omega)]
      refine ⟨by rw [upd_n _ _ eq, wA_n _ _ (by omega), ← ht2, wI_n _ _ _ (by omega), ← ht1, wA_n _ _ (by omega)]; exact u1, ?_, ?_, fun j hj => ?_⟩
      · rw [same _ (by omega) (by omega)]; exact u2
      · exact snp_cg u3 (fun j hj => same _ (by omega) (by omega)) hn6
      · exact snp_cg (u4 j hj) (fun i hi => same _ (by omega) (by omega)) hn6
