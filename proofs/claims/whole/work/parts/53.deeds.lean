theorem m_doPass {τ : St} {n col : Nat} {kd bs : Nat → Nat} {ds : List Nat} {kp : Nat → Option (List Nat)} (hA : DA n kd bs ds kp) (hM : DM τ n kd bs ds kp) (hl : ds.length < 40) (hc : col < 3) : ∃ τ1 τ2, f6_remembers τ = some τ1 ∧ f6_passes τ1 6 (nI col) = some τ2 ∧ DM τ2 n kd bs (ds ++ [100 * col]) kp ∧ frM τ τ2 := by
  obtain ⟨τ1, e1, r1, r2, r3, r4, r5⟩ := m_rem hM hA.2.1 hl
  obtain ⟨τ2, e2, s1, s2, s3⟩ := m_passes (mD.of hA hM r1 r2) (Or.inl rfl) hc
  refine ⟨τ1, τ2, e1, e2, hM.deed r1 r2 r4 r5 s1 ?_, fun c hc => by rw [s1 c (by omega) (by omega), r1 c (by omega) (by omega)], fun k h1 h2 => by rw [s1 0 (by omega) (by omega), r2 k (by omega)], s2.trans r3⟩
  unfold deed1
  rw [if_pos (by omega), show 100 * col / 100 % 10 = col by omega]
  exact s3
theorem m_doTurn {τ : St} {n : Nat} {kd bs : Nat → Nat} {ds : List Nat} {kp : Nat → Option (List Nat)} (hA : DA n kd bs ds kp) (hM : DM τ n kd bs ds kp) (hl : ds.length < 40) : ∃ τ1 τ2, f6_remembers τ = some τ1 ∧ f6_turns τ1 = some τ2 ∧ DM τ2 n kd bs (ds ++ [1000]) kp ∧ frM τ τ2 := by
  obtain ⟨τ1, e1, r1, r2, r3, r4, r5⟩ := m_rem hM hA.2.1 hl
  obtain ⟨τ2, e2, s1, s2, s3⟩ := m_turns (mD.of hA hM r1 r2)
  refine ⟨τ1, τ2, e1, e2, hM.deed r1 r2 r4 r5 s1 ?_, fun c hc => by rw [s1 c (by omega) (by omega), r1 c (by omega) (by omega)], fun k h1 h2 => by rw [s1 0 (by omega) (by omega), r2 k (by omega)], s2.trans r3⟩
  unfold deed1
  rw [if_neg (by decide), if_pos (by decide)]
  exact s3
theorem m_doLift {τ : St} {n a : Nat} {kd bs : Nat → Nat} {ds : List Nat} {kp : Nat → Option (List Nat)} (hA : DA n kd bs ds kp) (hM : DM τ n kd bs ds kp) (hl : ds.length < 40) (ha : a < n) : ∃ τ1 τ2, f6_remembers τ = some τ1 ∧ f6_lifts τ1 (nI a) = some τ2 ∧ DM τ2 n kd bs (ds ++ [2000 + 100 * a]) kp ∧ frM τ τ2 := by
  have hn := hA.2.1
  obtain ⟨τ1, e1, r1, r2, r3, r4, r5⟩ := m_rem hM hA.2.1 hl
  obtain ⟨τ2, e2, s1, s2, s3⟩ := m_lifts (mD.of hA hM r1 r2) ha
  refine ⟨τ1, τ2, e1, e2, hM.deed r1 r2 r4 r5 s1 ?_, fun c hc => by rw [s1 c (by omega) (by omega), r1 c (by omega) (by omega)], fun k h1 h2 => by rw [s1 0 (by omega) (by omega), r2 k (by omega)], s2.trans r3⟩
  unfold deed1
  rw [if_neg (by omega), if_neg (by omega), if_pos (by omega), show (2000 + 100 * a) / 100 % 10 = a by omega]
  exact s3
theorem m_doPunch {τ : St} {n i c v : Nat} {kd bs : Nat → Nat} {ds : List Nat} {kp : Nat → Option (List Nat)} (hA : DA n kd bs ds kp) (hM : DM τ n kd bs ds kp) (hl : ds.length < 40) (hi : i < n) (hc : c < 3) (hv : v < 10) : ∃ τ1, f6_remembers τ = some τ1 ∧ DM (wI τ1 6 (6 + 3 * i + c) (nI v)) n kd bs (ds ++ [3000 + 100 * i + 10 * c + v]) kp ∧ frM τ (wI τ1 6 (6 + 3 * i + c) (nI v)) ∧ τ1.1 0 4 = nI n := by
  have hn := hA.2.1
  obtain ⟨τ1, e1, r1, r2, r3, r4, r5⟩ := m_rem hM hA.2.1 hl
  obtain ⟨-, -, -, ⟨s1, s2, s3⟩, -⟩ := mD.of hA hM r1 r2
  refine ⟨τ1, e1, hM.deed r1 r2 r4 r5 (fun c h1 h2 => by rw [wI_n _ _ _ h1]) ?_, ⟨fun c hc => by rw [wI_n _ _ _ (by omega), r1 c (by omega) (by omega)], fun k h1 h2 => by rw [wI_n _ _ _ (by omega), r2 k (by omega)], r3⟩, by rw [r2 4 (by omega)]; exact hM.1⟩
  unfold deed1
  rw [if_neg (by omega), if_neg (by omega), if_neg (by omega), show (3000 + 100 * i + 10 * c + v) / 100 % 10 = i by omega, show (3000 + 100 * i + 10 * c + v) / 10 % 10 = c by omega, show (3000 + 100 * i + 10 * c + v) % 10 = v by omega, wI_s]
  refine ⟨fun j hj => ?_, fun k hk => ?_, ?_⟩
  · rw [upd_n _ _ (by omega)]; exact s1 j hj
  · rw [upd_a]
    show _ = nI (updN _ _ _ k)
    unfold updN
    by_cases e : k = 3 * i + c
    · rw [if_pos (by omega), if_pos e]
    · rw [if_neg (by omega), if_neg e]; exact s2 k hk
  · rw [upd_n _ _ (by omega)]; exact s3
theorem DA.add {n d : Nat} {kd bs : Nat → Nat} {ds : List Nat} {kp : Nat → Option (List Nat)} (hA : DA n kd bs ds kp) (h2 : 2 ≤ n) (hl : ds.length < 40) (hd : okd n d) : DA n kd bs (ds ++ [d]) kp := by
  obtain ⟨a1, a2, a3, a4, ⟨a5, a5'⟩, a6, a7⟩ := hA
  refine ⟨a1, a2, a3, a4, ⟨by rw [List.length_append]; show ds.length + 1 ≤ 40; omega, fun e he => ?_⟩, a6, fun e => absurd e (by omega)⟩
  rcases List.mem_append.mp he with h | h
  · exact a5' e h
  · rw [List.mem_singleton.mp h]; exact hd
theorem c_deedOf (a b c d : Nat) : f5_deedOf (nI a) (nI b) (nI c) (nI d) = some (nI (1000 * a + 100 * b + 10 * c + d)) := by
  unfold f5_deedOf
  rw [show (10 : Int32) = nI 10 from rfl, pk_mul, nI_add, pk_mul, nI_add, pk_mul, nI_add, show ((a * 10 + b) * 10 + c) * 10 + d = 1000 * a + 100 * b + 10 * c + d by omega]
theorem c_refD0 {σ : St} (h : σ.1 13 7 = nI 0) (x : Int32) : f5_refusedDeeds σ x = some (-4) := by
  unfold f5_refusedDeeds
  rw [h, if_pos (by rfl)]
theorem c_refD {σ : St} {n len m : Nat} (h : σ.1 13 7 = nI n) (h9 : σ.1 13 9 = nI len) (hn : 0 < n) (hn6 : n ≤ 6) (hl : len ≤ 40) (hm : m ≤ 40) : f5_refusedDeeds σ (nI m) = some (if len + m ≤ 40 then 0 else -2) := by
  unfold f5_refusedDeeds
  rw [h, h9, if_neg (nI_ne0 hn (by omega)), nI_add]
  by_cases c : len + m ≤ 40
  · rw [if_pos (show nI (len + m) ≤ 40 from nI_le (b := 40) c (by omega)), if_pos c]
  · rw [if_neg (show ¬ nI (len + m) ≤ 40 from nI_ge (a := 40) (by omega) (by omega)), if_neg c]
/-- a deed on both sides -/
theorem sim_deed {σ τ τ2 : St} (h : Rel σ τ) {n d : Nat} {kd bs : Nat → Nat} {ds : List Nat} {kp : Nat → Option (List Nat)} (hA : DA n kd bs ds kp) (hC : DC σ n kd bs ds kp) (h2 : 2 ≤ n) (hl : ds.length < 40) (hd : okd n d) (hM : DM τ2 n kd bs (ds ++ [d]) kp) (hf : frM τ τ2) :
    ∃ σ', f1_add σ (nI d) = some (τ2.1 6 0, σ') ∧ Rel σ' τ2 := by
  obtain ⟨σ', q1, q2, q3⟩ := c_add hA hC h2 hl hd
  have e := hM.2.2.2.1.1 0 (by omega)
  rw [Nat.zero_add] at e
  exact ⟨σ', by rw [e]; exact q1, h.deck q2 hf ⟨n, kd, bs, ds ++ [d], kp, hA.add h2 hl hd, q3, hM⟩⟩
theorem e_pass {σ τ : St} (h : Rel σ τ) (x : Int32) : Sim (f5_pass σ x) (f6_pass τ x) := by
  obtain ⟨n, kd, bs, ds, kp, hA, hC, hM⟩ := h.2.2.2.2
  unfold f5_pass f6_pass
  rw [c_isColumn, m_isColumn, b1_s, b1_s]
  rcases ix x 3 (by omega) with hx | ⟨c, hc, rfl⟩
  · rw [inB_out hx, i00, i00]
    exact Sim.of h _
  rw [inB_nI hc (by omega), i10, i10, hM.1, hM.2.1]
  by_cases hn : n = 0
  · subst hn
    rw [c_refD0 hC.1, b1_s, im4, if_pos (by rfl)]
    exact Sim.of h _
  have h2 : 2 ≤ n := by rcases hA.1 with q | q <;> omega
  have hn6 := hA.2.1
  have hl := hA.2.2.2.2.1.1
  rw [show (1 : Int32) = nI 1 from rfl, c_refD hC.1 hC.2.1 (by omega) hn6 hl (by omega), b1_s, if_neg (nI_ne0 (by omega) (by omega))]
  by_cases c4 : ds.length = 40
  · rw [if_neg (show ¬ ds.length + 1 ≤ 40 by omega), im2, if_pos (by rw [c4]; rfl)]
    exact Sim.of h _
  · rw [if_pos (show ds.length + 1 ≤ 40 by omega), i00, if_neg (show ¬ nI ds.length = 40 by rw [show (40 : Int32) = nI 40 from rfl, nI_eq (by omega) (by omega)]; exact c4), show (0 : Int32) = nI 0 from rfl, c_deedOf, b1_s]
    obtain ⟨τ1, τ2, e1, e2, hM2, hf⟩ := m_doPass hA hM (by omega) hc
    obtain ⟨σ', q1, q2⟩ := sim_deed h hA hC h2 (by omega) (d := 100 * c) ⟨by omega, fun _ => by omega, fun _ => by omega, fun _ => by omega⟩ hM2 hf
    rw [e1, b1_s, e2, b1_s, show 1000 * 0 + 100 * c + 10 * 0 + 0 = 100 * c by omega, q1, b2_s]
    exact Sim.of q2 _
theorem e_turn {σ τ : St} (h : Rel σ τ) : Sim (f5_turn σ) (f6_turn τ) := by
  obtain ⟨n, kd, bs, ds, kp, hA, hC, hM⟩ := h.2.2.2.2
  unfold f5_turn f6_turn
  rw [hM.1, hM.2.1]
  by_cases hn : n = 0
  · subst hn
    rw [c_refD0 hC.1, b1_s, im4, if_pos (by rfl)]
    exact Sim.of h _
  have h2 : 2 ≤ n := by rcases hA.1 with q | q <;> omega
  have hn6 := hA.2.1
  have hl := hA.2.2.2.2.1.1
  rw [show (1 : Int32) = nI 1 from rfl, c_refD hC.1 hC.2.1 (by omega) hn6 hl (by omega), b1_s, if_neg (nI_ne0 (by omega) (by omega))]
  by_cases c4 : ds.length = 40
  · rw [if_neg (show ¬ ds.length + 1 ≤ 40 by omega), im2, if_pos (by rw [c4]; rfl)]
    exact Sim.of h _
  · rw [if_pos (show ds.length + 1 ≤ 40 by omega), i00, if_neg (show ¬ nI ds.length = 40 by rw [show (40 : Int32) = nI 40 from rfl, nI_eq (by omega) (by omega)]; exact c4), show (0 : Int32) = nI 0 from rfl, c_deedOf, b1_s]
    obtain ⟨τ1, τ2, e1, e2, hM2, hf⟩ := m_doTurn hA hM (by omega)
    obtain ⟨σ', q1, q2⟩ := sim_deed h hA hC h2 (by omega) (d := 1000) ⟨by decide, fun e => absurd e (by decide), fun e => absurd e (by decide), fun e => absurd e (by decide)⟩ hM2 hf
    rw [e1, b1_s, e2, b1_s, show 1000 * 1 + 100 * 0 + 10 * 0 + 0 = 1000 from rfl, q1, b2_s]
    exact Sim.of q2 _
theorem e_lift {σ τ : St} (h : Rel σ τ) (x : Int32) : Sim (f5_lift σ x) (f6_lift τ x) := by
  obtain ⟨n, kd, bs, ds, kp, hA, hC, hM⟩ := h.2.2.2.2
  unfold f5_lift f6_lift
  rw [hM.1, hM.2.1, hC.1]
  by_cases hn : n = 0
  · subst hn
    rw [if_pos (by rfl), if_pos (by rfl)]
    exact Sim.of h _
  have h2 : 2 ≤ n := by rcases hA.1 with q | q <;> omega
  have hn6 := hA.2.1
  have hl := hA.2.2.2.2.1.1
  have en := i_lit n (by omega)
  have e1' : (1 : Int32).toInt = 1 := by decide
  have hr := i_rng x
  rw [if_neg (nI_ne0 (by omega) (by omega)), if_neg (nI_ne0 (by omega) (by omega)), m_in x 1 ((n : Int) - 1) 1 ((nI n - 1).toInt64) (by decide) (by rw [l_of, i_sub (by omega) (by omega), en, e1']), b1_s]
  by_cases c1 : x.toInt < 1
  · rw [if_pos (show x < 1 by rw [i_lt, e1']; exact c1), if_neg (show ¬ (1 ≤ x.toInt ∧ x.toInt ≤ (n : Int) - 1) by omega), i00]
    exact Sim.of h _
  rw [if_neg (show ¬ x < 1 by rw [i_lt, e1']; exact c1)]
  by_cases c2 : x.toInt < n
  · rw [if_pos (show x < nI n by rw [i_lt, en]; exact c2), if_pos (show (1 ≤ x.toInt ∧ x.toInt ≤ (n : Int) - 1) by omega), i10]
    obtain ⟨a, ha, rfl⟩ : ∃ a : Nat, a < n ∧ x = nI a := by
      rcases ix x n (by omega) with q | q
      · omega
      · exact q
    rw [i_lit a (by omega)] at c1
    rw [show (1 : Int32) = nI 1 from rfl, c_refD hC.1 hC.2.1 (by omega) hn6 hl (by omega), b1_s]
    by_cases c4 : ds.length = 40
    · rw [if_neg (show ¬ ds.length + 1 ≤ 40 by omega), im2, if_pos (by rw [c4]; rfl)]
      exact Sim.of h _
    · rw [if_pos (show ds.length + 1 ≤ 40 by omega), i00, if_neg (show ¬ nI ds.length = 40 by rw [show (40 : Int32) = nI 40 from rfl, nI_eq (by omega) (by omega)]; exact c4), show (0 : Int32) = nI 0 from rfl, show (2 : Int32) = nI 2 from rfl, c_deedOf, b1_s]
      obtain ⟨τ1, τ2, e1, e2, hM2, hf⟩ := m_doLift hA hM (by omega) ha
      obtain ⟨σ', q1, q2⟩ := sim_deed h hA hC h2 (by omega) (d := 2000 + 100 * a) ⟨by omega, fun _ => by omega, fun _ => by omega, fun _ => by omega⟩ hM2 hf
      rw [e1, b1_s, e2, b1_s, show 1000 * 2 + 100 * a + 10 * 0 + 0 = 2000 + 100 * a by omega, q1, b2_s]
      exact Sim.of q2 _
  · rw [if_neg (show ¬ x < nI n by rw [i_lt, en]; exact c2), if_neg (show ¬ (1 ≤ x.toInt ∧ x.toInt ≤ (n : Int) - 1) by omega), i00]
    exact Sim.of h _
theorem c_isCard {σ : St} {n : Nat} (h : σ.1 13 7 = nI n) (hn : n ≤ 6) (x : Int32) : f5_isCard σ x = some (inB x n) := by
  unfold f5_isCard
  rw [h]
  exact t_up n (by omega)
theorem m_isCard {τ : St} {n : Nat} (h : τ.1 0 4 = nI n) (hn : n ≤ 6) (x : Int32) : f6_isCard τ x = some (inB x n) := by
  unfold f6_isCard
  have e1 : (1 : Int32).toInt = 1 := by decide
  have e2 := i_lit n (by omega)
  rw [h, m_inB x n _ (by rw [l_of, i_sub (by omega) (by omega), e2, e1]), b1_s, bz_inB]
theorem c_figureOf {σ : St} {n i c : Nat} {D : Dk} (h : clD σ n D) (hn : n ≤ 6) (hi : i < n) (hc : c < 3) : f1_figureOf σ (nI i) (nI c) = some (nI (D.2.1 (3 * i + c))) := by
  unfold f1_figureOf
  rw [show (3 : Int32) = nI 3 from rfl, pk_mul, nI_add, gi_nI (by omega) (by omega), nI_clamp (by omega), Nat.mul_comm i 3, h.2.1 _ (by omega)]
theorem e_punch {σ τ : St} (h : Rel σ τ) (x y z : Int32) : Sim (f5_punch σ x y z) (f6_punch τ x y z) := by
  obtain ⟨n, kd, bs, ds, kp, hA, hC, hM⟩ := h.2.2.2.2
  have hn6 := hA.2.1
  have hl := hA.2.2.2.2.1.1
  unfold f5_punch f6_punch
  rw [c_isCard hC.1 hn6, m_isCard hM.1 hn6, b1_s, b1_s]
  rcases ix x n (by omega) with hx | ⟨i, hi, rfl⟩
  · rw [inB_out hx, i00, i00]
    exact Sim.of h _
  rw [inB_nI hi (by omega), i10, i10, c_isColumn, m_isColumn, b1_s, b1_s]
  rcases ix y 3 (by omega) with hy | ⟨c, hc, rfl⟩
  · rw [inB_out hy, i00, i00]
    exact Sim.of h _
  have h2 : 2 ≤ n := by rcases hA.1 with q | q <;> omega
  have e10 : (10 : Int32).toInt = 10 := by decide
  rw [inB_nI hc (by omega), i10, i10, m_inB z 10 9 (by decide), b1_s]
  rcases ix z 10 (by omega) with hz | ⟨v, hv, rfl⟩
  · rw [inB_out hz, i00]
    by_cases c1 : z.toInt < 0
    · rw [if_pos (show z < 0 by rw [i_lt, i_0]; exact c1)]
      exact Sim.of h _
    · rw [if_neg (show ¬ z < 0 by rw [i_lt, i_0]; exact c1), if_neg (show ¬ z < 10 by rw [i_lt, e10]; omega)]
      exact Sim.of h _
  have hM4 := hM.2.2.2.1.2.1 (3 * i + c) (by omega)
  rw [show 0 + 6 + (3 * i + c) = 6 + 3 * i + c by omega] at hM4
  have ho := okD_rpl (kd := kd) hA.2.2.2.1 hA.2.2.2.2.1.2
  have hg := ho.2.2.2.1 (3 * i + c) (by omega)
  rw [inB_nI hv (by omega), i10, if_neg (nI_pos (by omega)), if_pos (show nI v < 10 from nI_lt (b := 10) hv (by omega)), c_figureOf hC.2.2.2.2.2.1 hn6 hi hc, b1_s, bnd_e, show (6 : Int32) = nI 6 from rfl, show (3 : Int32) = nI 3 from rfl, pk_mul, nI_add, nI_add, gi_nI (by omega) (by omega), bnd_e, nI_clamp (by omega), hM4]
  by_cases c0 : nI ((rpl n kd bs ds).2.1 (3 * i + c)) = nI v
  · rw [if_pos c0, if_pos c0]
    exact Sim.of h _
  rw [if_neg c0, if_neg c0, show (1 : Int32) = nI 1 from rfl, c_refD hC.1 hC.2.1 (by omega) hn6 hl (by omega), b1_s, hM.2.1]
  by_cases c4 : ds.length = 40
  · rw [if_neg (show ¬ ds.length + 1 ≤ 40 by omega), im2, if_pos (by rw [c4]; rfl)]
    exact Sim.of h _
  · rw [if_pos (show ds.length + 1 ≤ 40 by omega), i00, if_neg (show ¬ nI ds.length = 40 by rw [show (40 : Int32) = nI 40 from rfl, nI_eq (by omega) (by omega)]; exact c4), c_deedOf, b1_s]
    obtain ⟨τ1, e1, hM2, hf, -⟩ := m_doPunch hA hM (by omega) hi hc hv
    obtain ⟨σ', q1, q2⟩ := sim_deed h hA hC h2 (by omega) (d := 3000 + 100 * i + 10 * c + v) ⟨by omega, fun _ => by omega, fun _ => by omega, fun _ => by omega⟩ hM2 hf
    rw [e1, b1_s, gi_nI (by omega) (by omega), bnd_e, show 1000 * 3 + 100 * i + 10 * c + v = 3000 + 100 * i + 10 * c + v by omega, q1, b2_s]
    exact Sim.of q2 _
