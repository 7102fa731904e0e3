/-! sums of chosen cards -/
theorem m_comesTo {τ : St} {n set col : Nat} {kd : Nat → Nat} {D : Dk} (h : mD τ 6 n kd D) (hs : set < 64) (hc : col < 3) (x : Int32) : f6_comesTo τ (nI set) (nI col) x = some (if nI (sS set (fun i => D.2.1 (3 * i + col)) n) = x then 1 else 0) := by
  obtain ⟨h1, h2, h3, h4, h5⟩ := h
  unfold f6_comesTo
  refine up0 (fun q i s => L6_comesTo_6 τ (nI set) (nI col) x (fun (x4_12 : Int32) => (if x4_12 = x then some 1 else some 0)) q s i) n (by omega) (fun i s => s = nI (sS set (fun i => D.2.1 (3 * i + col)) i)) (fun o => o = some (if nI (sS set (fun i => D.2.1 (3 * i + col)) n) = x then 1 else 0)) ?_ ?_ 0 rfl
  · intro q i s hi hs'
    left
    refine ⟨_, rfl, ?_⟩
    subst hs'
    have hv := h4.2.1 (3 * i + col) (by omega)
    rw [Nat.zero_add] at hv
    conv => lhs; unfold L6_comesTo_6
    simp only [jn_e, bnd_e]
    rw [h1, if_neg (nI_ge hi (by omega)), m_has (by omega) (by omega), b1_s, show (6 : Int32) + 3 * nI i + nI col = nI (6 + (3 * i + col)) by rw [show (6 : Int32) = nI 6 from rfl, show (3 : Int32) = nI 3 from rfl, pk_mul, nI_add, nI_add, Nat.add_assoc], gi_nI (by omega) (by omega), nI_clamp (by omega), hv, nI_1, nI_add]
    show _ = L6_comesTo_6 τ (nI set) (nI col) x (fun (x4_12 : Int32) => (if x4_12 = x then some 1 else some 0)) q (nI (sS set (fun i => D.2.1 (3 * i + col)) i + (if set / 2 ^ i % 2 = 1 then D.2.1 (3 * i + col) else 0))) (nI (i + 1))
    by_cases c : set / 2 ^ i % 2 = 1
    · rw [c, if_neg (by decide), if_pos rfl]
    · rw [show set / 2 ^ i % 2 = 0 by omega, if_pos (by rfl), if_neg (by decide), Int32.add_zero]
      rfl
  · intro q s hs'
    subst hs'
    unfold L6_comesTo_6
    rw [h1, if_pos (nI_le (Nat.le_refl _) (by omega))]
    split <;> rfl
theorem sim_sum {σ τ : St} (h : Rel σ τ) {n : Nat} (h1 : σ.1 13 7 = nI n) (h2 : τ.1 0 4 = nI n) (hn : n ≤ 6) {x y : Int32} {B B' : Option (Int32 × St)} (hb : ∀ c t : Nat, c < 3 → t < 55 → 0 < n → x = nI c → y = nI t → Sim B B') :
    Sim (b1 (f5_refusedSum σ x y) fun r => if r = 0 then B else some (r, σ)) (b1 (f6_isColumn x) fun r => if r = 0 then some (-1, τ) else b1 (f6_in y.toInt64 0 54) fun r => if r = 0 then some (-1, τ) else if τ.1 0 4 = 0 then some (-4, τ) else B') := by
  have e54 : (54 : Int32).toInt = 54 := by decide
  unfold f5_refusedSum
  rw [c_isColumn, m_isColumn, b1_s, b1_s]
  rcases ix x 3 (by omega) with hx | ⟨c, hc, rfl⟩
  · rw [inB_out hx, i00, i00, b1_s, im1]
    exact Sim.of h _
  rw [inB_nI hc (by omega), i10, i10, m_inB y 55 54 (by decide), b1_s]
  rcases ix y 55 (by omega) with hy | ⟨t, ht, rfl⟩
  · rw [inB_out hy, i00]
    by_cases c1 : y.toInt < 0
    · rw [if_pos (show y < 0 by rw [i_lt, i_0]; exact c1), b1_s, im1]
      exact Sim.of h _
    · rw [if_neg (show ¬ y < 0 by rw [i_lt, i_0]; exact c1), if_neg (show ¬ y ≤ 54 by rw [i_le, e54]; omega), b1_s, im1]
      exact Sim.of h _
  rw [inB_nI ht (by omega), i10, if_neg (nI_pos (by omega)), if_pos (show nI t ≤ 54 from nI_le (b := 54) (by omega) (by omega)), h1, h2]
  by_cases c0 : n = 0
  · subst c0
    rw [if_pos (by rfl), if_pos (by rfl), b1_s, im4]
    exact Sim.of h _
  · rw [if_neg (nI_ne0 (by omega) (by omega)), if_neg (nI_ne0 (by omega) (by omega)), b1_s, i00]
    exact hb c t hc ht (by omega) rfl rfl
def cU (p : Nat → Prop) [DecidablePred p] : Nat → Nat
  | 0 => 0
  | i + 1 => cU p i + (if p i then 1 else 0)
theorem cU_le (p : Nat → Prop) [DecidablePred p] : ∀ i, cU p i ≤ i
  | 0 => Nat.le_refl _
  | i + 1 => by
    have := cU_le p i
    show cU p i + (if p i then 1 else 0) ≤ i + 1
    split <;> omega
theorem cU_mono (p : Nat → Prop) [DecidablePred p] {i : Nat} : ∀ k, cU p i ≤ cU p (i + k)
  | 0 => Nat.le_refl _
  | k + 1 => by
    have := cU_mono p (i := i) k
    show cU p i ≤ cU p (i + k) + (if p (i + k) then 1 else 0)
    omega
/-- the least of those from i on below N, or none -/
def lst (p : Nat → Prop) (i N : Nat) (v : Int32) : Prop := (v = -9 ∧ ∀ j, i ≤ j → j < N → ¬ p j) ∨ ∃ j, i ≤ j ∧ j < N ∧ p j ∧ v = nI j ∧ ∀ j', i ≤ j' → j' < j → ¬ p j'
theorem lst_eq {p : Nat → Prop} {i N : Nat} {v w : Int32} (h1 : lst p i N v) (h2 : lst p i N w) : v = w := by
  rcases h1 with ⟨a1, a2⟩ | ⟨j, a1, a2, a3, a4, a5⟩ <;> rcases h2 with ⟨b1, b2⟩ | ⟨k, b1, b2, b3, b4, b5⟩
  · rw [a1, b1]
  · exact absurd b3 (a2 k b1 b2)
  · exact absurd a3 (b2 j a1 a2)
  · rcases Nat.lt_trichotomy j k with e | e | e
    · exact absurd a3 (b5 j a1 e)
    · rw [a4, b4, e]
    · exact absurd b3 (a5 k b1 e)
theorem l_div1 (x : Int64) : x / 1 = x := Int64.div_one
theorem c_cd1 (x : Int64) : f5_commonDivisor x 1 = some 1 := by
  unfold f5_commonDivisor
  obtain ⟨q, hq⟩ : ∃ q, FU = q + 1 + 1 := ⟨4998, by rw [FU_e]⟩
  rw [hq]
  unfold L5_commonDivisor_3
  rw [if_neg (by decide), if_neg (by decide), nzl_e (by decide), bnd_e, bnd_e, l_div1, Int64.mul_one, Int64.sub_self]
  unfold L5_commonDivisor_3
  rw [if_neg (by decide), if_pos rfl]
theorem c_tp1 (σ : St) (x : Int64) : f5_tellParts σ x 1 = some (wL (wL σ 0 10 x) 0 11 1) := by
  unfold f5_tellParts
  rw [c_cd1, b1_s, if_neg (by decide), nzl_e (by decide), bnd_e, nzl_e (by decide), bnd_e, l_div1, l_div1]
theorem wL_s (σ : St) (c k : Nat) (v : Int64) : (wL σ c k v).2 c = vp_updL (σ.2 c) k v := by simp [wL]
theorem updL_s (f : Nat → Int64) (k : Nat) (v : Int64) : vp_updL f k v k = v := by simp [vp_updL]
theorem updL_n (f : Nat → Int64) {k j : Nat} (v : Int64) (h : j ≠ k) : vp_updL f k v j = f j := by simp [vp_updL, h]
theorem Rel.parts {σ τ : St} (h : Rel σ τ) (x y : Int64) : Rel (wL (wL σ 0 10 x) 0 11 y) (wL (wL τ 0 13 x) 0 14 y) := by
  refine h.chg h.2.1 h.2.2.1 ⟨h.2.2.2.1.1, ?_, ?_, h.2.2.2.1.2.2.2.1, h.2.2.2.1.2.2.2.2⟩
  · show vp_updL (vp_updL (σ.2 0) 10 x) 11 y 10 = vp_updL (vp_updL (τ.2 0) 13 x) 14 y 13
    rw [updL_n (k := 11) _ _ (by decide), updL_n (k := 14) _ _ (by decide), updL_s, updL_s]
  · show vp_updL (vp_updL (σ.2 0) 10 x) 11 y 11 = vp_updL (vp_updL (τ.2 0) 13 x) 14 y 14
    rw [updL_s, updL_s]
theorem pw6 {n : Nat} (h : n ≤ 6) : 2 ^ n ≤ 64 := Nat.pow_le_pow_right (n := 2) (i := n) (j := 6) (by omega) h
theorem e_sets {σ τ : St} (h : Rel σ τ) (x y : Int32) : Sim (f5_sets σ x y) (f6_sets τ x y) := by
  obtain ⟨n, kd, bs, ds, kp, hA, hC, hM⟩ := h.2.2.2.2
  have hn6 := hA.2.1
  have hc := hC.cx hA
  have hm := hM.mx hA
  generalize rpl n kd bs ds = D at hc hm
  refine sim_sum h hC.1 hM.1 hn6 (fun c t hc3 ht hn0 e1 e2 => ?_)
  subst e1
  subst e2
  have hp := pw6 hn6
  generalize hP : (fun set => nI (sS set (fun i => D.2.1 (3 * i + c)) n) = nI t) = P
  have hD : DecidablePred P := by rw [← hP]; intro set; exact inferInstance
  have hc' : ∀ set, set < 64 → ∃ v, f1_sumOf σ (nI set) (nI c) = some v ∧ (v = nI t ↔ P set) := fun set hs => ⟨_, c_sumOf hc hs hc3, by rw [← hP]⟩
  have hm' : ∀ set, set < 64 → f6_comesTo τ (nI set) (nI c) (nI t) = some (if P set then 1 else 0) := fun set hs => by
    rw [m_comesTo hm hs hc3]
    subst hP
    congr 1
    split <;> rfl
  have cls : ∀ K, ∃ v, L5_sets_23 σ (nI c) (nI t) K FU 0 (-9) 0 = K (nI (cU P (2 ^ n))) v ∧ lst P 0 (2 ^ n) v := fun K => by
    refine up0 (fun q i s => L5_sets_23 σ (nI c) (nI t) K q s.1 s.2 i) (2 ^ n) (by omega) (fun i s => s.1 = nI (cU P i) ∧ lst P 0 i s.2) (fun o => ∃ v, o = K (nI (cU P (2 ^ n))) v ∧ lst P 0 (2 ^ n) v) ?_ ?_ (0, -9) ⟨rfl, Or.inl ⟨rfl, fun j _ hj => by omega⟩⟩
    · intro q i s hi hs
      obtain ⟨v, q1, q2⟩ := hc' i (by omega)
      have hu : L5_sets_23 σ (nI c) (nI t) K (q + 1) s.1 s.2 (nI i) = if v = nI t then (if s.2 = -9 then L5_sets_23 σ (nI c) (nI t) K q (s.1 + 1) (nI i) (nI (i + 1)) else L5_sets_23 σ (nI c) (nI t) K q (s.1 + 1) s.2 (nI (i + 1))) else L5_sets_23 σ (nI c) (nI t) K q s.1 s.2 (nI (i + 1)) := by
        conv => lhs; unfold L5_sets_23
        simp only [jn_e, bnd_e]
        rw [hc.1, n_pow n hn6, if_neg (nI_ge hi (by omega)), q1, b1_s, nI_1]
      left
      by_cases e : v = nI t
      · have pi : P i := q2.mp e
        have ec : cU P (i + 1) = cU P i + 1 := by
          show cU P i + (if P i then 1 else 0) = _
          rw [if_pos pi]
        by_cases e9 : s.2 = -9
        · refine ⟨(s.1 + 1, nI i), ⟨by rw [ec, hs.1, nI_1], Or.inr ⟨i, by omega, by omega, pi, rfl, fun j _ hj => ?_⟩⟩, ?_⟩
          · rcases hs.2 with ⟨_, a⟩ | ⟨j', _, a1, _, a2, _⟩
            · exact a j (by omega) hj
            · exact absurd (a2.symm.trans e9) (nI_ne9 j' (by omega))
          · show L5_sets_23 σ (nI c) (nI t) K (q + 1) s.1 s.2 (nI i) = _
            rw [hu, if_pos e, if_pos e9]
        · refine ⟨(s.1 + 1, s.2), ⟨by rw [ec, hs.1, nI_1], ?_⟩, ?_⟩
          · rcases hs.2 with ⟨a, _⟩ | ⟨j', a0, a1, a3, a2, a4⟩
            · exact absurd a e9
            · exact Or.inr ⟨j', a0, by omega, a3, a2, a4⟩
          · show L5_sets_23 σ (nI c) (nI t) K (q + 1) s.1 s.2 (nI i) = _
            rw [hu, if_pos e, if_neg e9]
      · have pi : ¬ P i := fun q => e (q2.mpr q)
        have ec : cU P (i + 1) = cU P i := by
          show cU P i + (if P i then 1 else 0) = _
          rw [if_neg pi, Nat.add_zero]
        refine ⟨s, ⟨by rw [ec, hs.1], ?_⟩, ?_⟩
        · rcases hs.2 with ⟨a, b⟩ | ⟨j', a0, a1, a3, a2, a4⟩
          · refine Or.inl ⟨a, fun j h1 h2 => ?_⟩
            by_cases ej : j = i
            · rw [ej]; exact pi
            · exact b j h1 (by omega)
          · exact Or.inr ⟨j', a0, by omega, a3, a2, a4⟩
        · show L5_sets_23 σ (nI c) (nI t) K (q + 1) s.1 s.2 (nI i) = _
          rw [hu, if_neg e]
    · intro q s hs
      refine ⟨s.2, ?_, hs.2⟩
      show L5_sets_23 σ (nI c) (nI t) K (q + 1) s.1 s.2 (nI (2 ^ n)) = _
      unfold L5_sets_23
      rw [hc.1, n_pow n hn6, if_pos (nI_le (Nat.le_refl _) (by omega)), hs.1]
  have rfc : ∀ K, ∃ v, L6_sets_47 τ (nI c) (nI t) K FU 0 (-9) (nI (2 ^ n) - 1) = K (nI (cU P (2 ^ n))) v ∧ lst P 0 (2 ^ n) v := fun K => by
    refine dn (fun q i s => L6_sets_47 τ (nI c) (nI t) K q s.1 s.2 i) (fun i s => i ≤ 2 ^ n ∧ s.1 = nI (cU P (2 ^ n) - cU P i) ∧ lst P i (2 ^ n) s.2) (fun o => ∃ v, o = K (nI (cU P (2 ^ n))) v ∧ lst P 0 (2 ^ n) v) ?_ ?_ (2 ^ n) (0, -9) FU (by rw [FU_e]; omega) ⟨Nat.le_refl _, by rw [Nat.sub_self]; rfl, Or.inl ⟨rfl, fun j h1 h2 => by omega⟩⟩
    · intro q i s hs
      obtain ⟨hi, hs1, hs2⟩ := hs
      have hu : L6_sets_47 τ (nI c) (nI t) K (q + 1) s.1 s.2 (nI i) = if (if P i then (1 : Int32) else 0) = 0 then L6_sets_47 τ (nI c) (nI t) K q s.1 s.2 (nI i + (-1)) else L6_sets_47 τ (nI c) (nI t) K q (s.1 + 1) (nI i) (nI i + (-1)) := by
        conv => lhs; unfold L6_sets_47
        simp only [jn_e, bnd_e]
        rw [if_neg (nI_pos (by omega)), hm' i (by omega), b1_s]
      have hmon := cU_mono P (i := i + 1) (2 ^ n - (i + 1))
      rw [show i + 1 + (2 ^ n - (i + 1)) = 2 ^ n by omega] at hmon
      left
      by_cases pi : P i
      · have ec : cU P (i + 1) = cU P i + 1 := by
          show cU P i + (if P i then 1 else 0) = _
          rw [if_pos pi]
        refine ⟨(s.1 + 1, nI i), ⟨by omega, ?_, Or.inr ⟨i, Nat.le_refl _, by omega, pi, rfl, fun j h1 h2 => by omega⟩⟩, ?_⟩
        · show s.1 + 1 = _
          rw [hs1, nI_1, ec, show cU P (2 ^ n) - (cU P i + 1) + 1 = cU P (2 ^ n) - cU P i by omega]
        · show L6_sets_47 τ (nI c) (nI t) K (q + 1) s.1 s.2 (nI i) = _
          rw [hu, if_pos pi, i10]
      · have ec : cU P (i + 1) = cU P i := by
          show cU P i + (if P i then 1 else 0) = _
          rw [if_neg pi, Nat.add_zero]
        refine ⟨s, ⟨by omega, by rw [hs1, ec], ?_⟩, ?_⟩
        · rcases hs2 with ⟨a, b⟩ | ⟨j', a0, a1, a3, a2, a4⟩
          · refine Or.inl ⟨a, fun j h1 h2 => ?_⟩
            by_cases ej : j = i
            · rw [ej]; exact pi
            · exact b j (by omega) h2
          · refine Or.inr ⟨j', by omega, a1, a3, a2, fun j h1 h2 => ?_⟩
            by_cases ej : j = i
            · rw [ej]; exact pi
            · exact a4 j (by omega) h2
        · show L6_sets_47 τ (nI c) (nI t) K (q + 1) s.1 s.2 (nI i) = _
          rw [hu, if_neg pi, i00]
    · intro q s hs
      refine ⟨s.2, ?_, hs.2.2⟩
      show L6_sets_47 τ (nI c) (nI t) K (q + 1) s.1 s.2 (-1) = _
      unfold L6_sets_47
      rw [if_pos (by decide), hs.2.1]
      rfl
  simp only [bnd_e]
  rw [hM.1, n_pow n hn6]
  obtain ⟨v, q1, q2⟩ := cls (fun (x4_17 : Int32) (x5_18 : Int32) => b1 (f5_tellParts (wI σ 0 9 x5_18) (x4_17.toInt64) 1) fun σ_21 => some (1, σ_21))
  obtain ⟨w, r1, r2⟩ := rfc (fun (x3_20 : Int32) (x4_21 : Int32) => b2 (f6_tell (wL (wL τ 0 13 (x3_20.toInt64)) 0 14 1) x4_21) fun r_25 σ_26 => some (r_25, σ_26))
  rw [q1, r1, lst_eq r2 q2, c_tp1, b1_s]
  unfold f6_tell
  rw [bnd_e, b2_s]
  exact Sim.of ((h.parts (nI (cU P (2 ^ n))).toInt64 1).tell v) 1
def aU (p : Nat → Prop) [DecidablePred p] (s : Int32) : Nat → Int32
  | 0 => s
  | i + 1 => if p i then aU p s i &&& nI i else aU p s i
def oU (p : Nat → Prop) [DecidablePred p] : Nat → Int32
  | 0 => 0
  | i + 1 => if p i then oU p i ||| nI i else oU p i
theorem e_sure {σ τ : St} (h : Rel σ τ) (x y : Int32) : Sim (f5_sure σ x y) (f6_sure τ x y) := by
  obtain ⟨n, kd, bs, ds, kp, hA, hC, hM⟩ := h.2.2.2.2
  have hn6 := hA.2.1
  have hc := hC.cx hA
  have hm := hM.mx hA
  generalize rpl n kd bs ds = D at hc hm
  refine sim_sum h hC.1 hM.1 hn6 (fun c t hc3 ht hn0 e1 e2 => ?_)
  subst e1
  subst e2
  have hp := pw6 hn6
  have hp0 : 0 < 2 ^ n := Nat.two_pow_pos n
  generalize hP : (fun set => nI (sS set (fun i => D.2.1 (3 * i + c)) n) = nI t) = P
  have hD : DecidablePred P := by rw [← hP]; intro set; exact inferInstance
  have hc' : ∀ set, set < 64 → ∃ v, f1_sumOf σ (nI set) (nI c) = some v ∧ (v = nI t ↔ P set) := fun set hs => ⟨_, c_sumOf hc hs hc3, by rw [← hP]⟩
  have hm' : ∀ set, set < 64 → f6_comesTo τ (nI set) (nI c) (nI t) = some (if P set then 1 else 0) := fun set hs => by
    rw [m_comesTo hm hs hc3]
    subst hP
    congr 1
    split <;> rfl
  generalize hF : nI (2 ^ n - 1) = F
  have cls : ∀ K, L5_sure_39 σ (nI c) (nI t) F K FU F 0 0 0 = K (aU P F (2 ^ n)) (oU P (2 ^ n)) (if cU P (2 ^ n) = 0 then 0 else 1) := fun K => by
    refine up0 (fun q i s => L5_sure_39 σ (nI c) (nI t) F K q s.1 s.2.1 s.2.2 i) (2 ^ n) (by omega) (fun i s => s = (aU P F i, oU P i, (if cU P i = 0 then 0 else 1))) (fun o => o = K (aU P F (2 ^ n)) (oU P (2 ^ n)) (if cU P (2 ^ n) = 0 then 0 else 1)) ?_ ?_ (F, 0, 0) rfl
    · intro q i s hi hs
      subst hs
      obtain ⟨v, q1, q2⟩ := hc' i (by omega)
      left
      refine ⟨_, rfl, ?_⟩
      show L5_sure_39 σ (nI c) (nI t) F K (q + 1) (aU P F i) (oU P i) (if cU P i = 0 then 0 else 1) (nI i) = L5_sure_39 σ (nI c) (nI t) F K q (if P i then aU P F i &&& nI i else aU P F i) (if P i then oU P i ||| nI i else oU P i) (if cU P i + (if P i then 1 else 0) = 0 then 0 else 1) (nI (i + 1))
      conv => lhs; unfold L5_sure_39
      simp only [jn_e, bnd_e]
      rw [← hF, if_neg (nI_nlt (show i ≤ 2 ^ n - 1 by omega) (by omega)), q1, b1_s, nI_1, hF]
      by_cases e : v = nI t
      · have pi := q2.mp e
        rw [if_pos e, if_pos pi, if_pos pi, if_pos pi, if_neg (show ¬ cU P i + 1 = 0 by omega)]
      · have pi : ¬ P i := fun q => e (q2.mpr q)
        rw [if_neg e, if_neg pi, if_neg pi, if_neg pi]
        rfl
    · intro q s hs
      subst hs
      show L5_sure_39 σ (nI c) (nI t) F K (q + 1) (aU P F (2 ^ n)) (oU P (2 ^ n)) (if cU P (2 ^ n) = 0 then 0 else 1) (nI (2 ^ n)) = _
      unfold L5_sure_39
      rw [← hF, if_pos (nI_lt (show 2 ^ n - 1 < 2 ^ n by omega) (by omega))]
  have rfc : ∀ K, L6_sure_52 τ (nI c) (nI t) F K FU F 0 0 0 = K (aU P F (2 ^ n)) (oU P (2 ^ n)) (nI (cU P (2 ^ n))) := fun K => by
    refine up0 (fun q i s => L6_sure_52 τ (nI c) (nI t) F K q s.1 s.2.1 s.2.2 i) (2 ^ n) (by omega) (fun i s => s = (aU P F i, oU P i, nI (cU P i))) (fun o => o = K (aU P F (2 ^ n)) (oU P (2 ^ n)) (nI (cU P (2 ^ n)))) ?_ ?_ (F, 0, 0) rfl
    · intro q i s hi hs
      subst hs
      left
      refine ⟨_, rfl, ?_⟩
      show L6_sure_52 τ (nI c) (nI t) F K (q + 1) (aU P F i) (oU P i) (nI (cU P i)) (nI i) = L6_sure_52 τ (nI c) (nI t) F K q (if P i then aU P F i &&& nI i else aU P F i) (if P i then oU P i ||| nI i else oU P i) (nI (cU P i + (if P i then 1 else 0))) (nI (i + 1))
      conv => lhs; unfold L6_sure_52
      simp only [jn_e, bnd_e]
      rw [← hF, if_neg (nI_nlt (show i ≤ 2 ^ n - 1 by omega) (by omega)), hm' i (by omega), b1_s, hF]
      by_cases pi : P i
      · rw [if_pos pi, if_pos pi, if_pos pi, if_pos pi, i10, nI_1, nI_1]
      · rw [if_neg pi, if_neg pi, if_neg pi, if_neg pi, i00, Nat.add_zero, nI_1]
    · intro q s hs
      subst hs
      show L6_sure_52 τ (nI c) (nI t) F K (q + 1) (aU P F (2 ^ n)) (oU P (2 ^ n)) (nI (cU P (2 ^ n))) (nI (2 ^ n)) = _
      unfold L6_sure_52
      rw [← hF, if_pos (nI_lt (show 2 ^ n - 1 < 2 ^ n by omega) (by omega))]
  simp only [bnd_e]
  rw [hM.1, hC.1, n_full n hn6, hF, cls, rfc]
  have hle := cU_le P (2 ^ n)
  by_cases e : cU P (2 ^ n) = 0
  · rw [e, if_pos rfl, i00, if_pos (by rfl)]
    exact Sim.found h (k := 4) (by omega)
  · rw [if_neg e, i10, if_neg (nI_ne0 (by omega) (by omega))]
    unfold f6_answer
    rw [bnd_e, b2_s]
    exact Sim.of (h.tell _) _
