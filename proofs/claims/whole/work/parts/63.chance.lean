/-! chances -/
theorem i_l {k : Nat} (h : k < 2147483648) : (nI k).toInt64 = lN k := by
  apply Int64.toInt_inj.mp
  rw [l_of, i_lit k h, lN_toInt (by omega)]
/-- common divisors, as the class and the reference find them -/
theorem c_cdL {k : Int64 → Option Int64} : ∀ (m a b i f : Nat), b < 2 ^ m → a < 2 ^ 62 → b < 2 ^ 62 → i + 2 * m < 200 → 2 * m < f → L5_commonDivisor_3 k f (lN a) (lN b) (nI i) = k (lN (Nat.gcd a b)) := by
  intro m
  induction m with
  | zero =>
    intro a b i f hb ha hb2 hi hf
    obtain ⟨q, rfl⟩ : ∃ q, f = q + 1 := ⟨f - 1, by omega⟩
    have : b = 0 := by rw [Nat.pow_zero] at hb; omega
    subst this
    unfold L5_commonDivisor_3
    rw [show (200 : Int32) = nI 200 from rfl, if_neg (nI_ge (by omega) (by omega)), if_pos (by rfl), Nat.gcd_zero_right]
  | succ m ih =>
    intro a b i f hb ha hb2 hi hf
    obtain ⟨q, rfl⟩ : ∃ q, f = q + 1 + 1 := ⟨f - 2, by omega⟩
    by_cases c : b = 0
    · subst c
      unfold L5_commonDivisor_3
      rw [show (200 : Int32) = nI 200 from rfl, if_neg (nI_ge (by omega) (by omega)), if_pos (by rfl), Nat.gcd_zero_right]
    have hn : ∀ x : Nat, x ≠ 0 → x < 2 ^ 62 → ¬ lN x = 0 := fun x h1 h2 => by
      rw [show (0 : Int64) = lN 0 from rfl, pk_lEQ (by omega) (by omega)]
      exact h1
    have r1 : a % b < b := Nat.mod_lt _ (by omega)
    conv => lhs; unfold L5_commonDivisor_3
    rw [if_neg (show ¬ (200 : Int32) ≤ nI i from nI_ge (b := 200) (by omega) (by omega)), if_neg (hn b c hb2), nzl_e (hn b c hb2), bnd_e, bnd_e, pk_lRem (by omega) (by omega) (by omega), nI_1, Nat.gcd_comm a b, Nat.gcd_rec b a]
    by_cases c2 : a % b = 0
    · rw [c2]
      conv => lhs; unfold L5_commonDivisor_3
      rw [if_neg (show ¬ (200 : Int32) ≤ nI (i + 1) from nI_ge (b := 200) (by omega) (by omega)), if_pos (by rfl), Nat.gcd_zero_left]
    have r2 : b % (a % b) < a % b := Nat.mod_lt _ (by omega)
    have r3 : b % (a % b) + a % b ≤ b := by
      have e1 := Nat.div_add_mod b (a % b)
      have e2 : 1 ≤ b / (a % b) := Nat.div_pos (by omega) (by omega)
      have e3 : a % b * 1 ≤ a % b * (b / (a % b)) := Nat.mul_le_mul_left _ e2
      omega
    conv => lhs; unfold L5_commonDivisor_3
    rw [if_neg (show ¬ (200 : Int32) ≤ nI (i + 1) from nI_ge (b := 200) (by omega) (by omega)), if_neg (hn _ c2 (by omega)), nzl_e (hn _ c2 (by omega)), bnd_e, bnd_e, pk_lRem (by omega) (by omega) (by omega), nI_1]
    rw [ih (a % b) (b % (a % b)) (i + 1 + 1) q (by rw [Nat.pow_succ] at hb; omega) (by omega) (by omega) (by omega) (by omega), Nat.gcd_comm (a % b) (b % (a % b)), ← Nat.gcd_rec (a % b) b]
theorem m_cdL {τ : St} {x y : Int64} {k : Int64 → Option St} : ∀ (m a b f : Nat), b < 2 ^ m → a < 2 ^ 62 → b < 2 ^ 62 → 2 * m < f → L6_tellsPart_6 τ x y k f (lN a) (lN b) = k (lN (Nat.gcd a b)) := by
  intro m
  induction m with
  | zero =>
    intro a b f hb ha hb2 hf
    obtain ⟨q, rfl⟩ : ∃ q, f = q + 1 := ⟨f - 1, by omega⟩
    have : b = 0 := by rw [Nat.pow_zero] at hb; omega
    subst this
    unfold L6_tellsPart_6
    rw [if_pos (by rfl), Nat.gcd_zero_right]
  | succ m ih =>
    intro a b f hb ha hb2 hf
    obtain ⟨q, rfl⟩ : ∃ q, f = q + 1 + 1 := ⟨f - 2, by omega⟩
    by_cases c : b = 0
    · subst c
      unfold L6_tellsPart_6
      rw [if_pos (by rfl), Nat.gcd_zero_right]
    have hn : ∀ x : Nat, x ≠ 0 → x < 2 ^ 62 → ¬ lN x = 0 := fun x h1 h2 => by
      rw [show (0 : Int64) = lN 0 from rfl, pk_lEQ (by omega) (by omega)]
      exact h1
    have r1 : a % b < b := Nat.mod_lt _ (by omega)
    conv => lhs; unfold L6_tellsPart_6
    rw [if_neg (hn b c hb2), nzl_e (hn b c hb2), bnd_e, pk_lRem (by omega) (by omega) (by omega), Nat.gcd_comm a b, Nat.gcd_rec b a]
    by_cases c2 : a % b = 0
    · rw [c2]
      conv => lhs; unfold L6_tellsPart_6
      rw [if_pos (by rfl), Nat.gcd_zero_left]
    have r2 : b % (a % b) < a % b := Nat.mod_lt _ (by omega)
    have r3 : b % (a % b) + a % b ≤ b := by
      have e1 := Nat.div_add_mod b (a % b)
      have e2 : 1 ≤ b / (a % b) := Nat.div_pos (by omega) (by omega)
      have e3 : a % b * 1 ≤ a % b * (b / (a % b)) := Nat.mul_le_mul_left _ e2
      omega
    conv => lhs; unfold L6_tellsPart_6
    rw [if_neg (hn _ c2 (by omega)), nzl_e (hn _ c2 (by omega)), bnd_e, pk_lRem (by omega) (by omega) (by omega)]
    rw [ih (a % b) (b % (a % b)) q (by rw [Nat.pow_succ] at hb; omega) (by omega) (by omega) (by omega), Nat.gcd_comm (a % b) (b % (a % b)), ← Nat.gcd_rec (a % b) b]
theorem Rel.told {σ τ : St} (h : Rel σ τ) {u w : Nat} (hw : 0 < w) (hw2 : w < 2 ^ 31) (hu : u < 2 ^ 62) : ∃ σ' τ', f5_tellParts σ (lN u) (lN w) = some σ' ∧ f6_tellsPart τ (lN u) (lN w) = some τ' ∧ Rel σ' τ' := by
  have hg : 0 < Nat.gcd u w := Nat.gcd_pos_of_pos_right _ hw
  have hg2 : Nat.gcd u w ≤ w := Nat.le_of_dvd hw (Nat.gcd_dvd_right _ _)
  have hn : ¬ lN (Nat.gcd u w) = 0 := by
    rw [show (0 : Int64) = lN 0 from rfl, pk_lEQ (by omega) (by omega)]
    omega
  refine ⟨_, _, ?_, ?_, h.parts (lN u / lN (Nat.gcd u w)) (lN w / lN (Nat.gcd u w))⟩
  · unfold f5_tellParts f5_commonDivisor
    rw [show (0 : Int32) = nI 0 from rfl, c_cdL 31 u w 0 FU hw2 hu (by omega) (by omega) (by rw [FU_e]; omega), b1_s, if_neg (show ¬ lN (Nat.gcd u w) ≤ 0 by rw [show (0 : Int64) = lN 0 from rfl, pk_lLE (by omega) (by omega)]; omega), nzl_e hn, bnd_e, nzl_e hn]
    rfl
  · unfold f6_tellsPart
    rw [m_cdL 31 u w FU hw2 hu (by omega) (by rw [FU_e]; omega), nzl_e hn, bnd_e, nzl_e hn]
    rfl
def wgt (mis p : Nat) : Nat → Nat
  | 0 => 1
  | i + 1 => wgt mis p i * (if mis / 2 ^ i % 2 = 1 then p else 12 - p)
theorem wgt_le {mis p : Nat} (hp : p ≤ 12) : ∀ i, wgt mis p i ≤ 12 ^ i
  | 0 => Nat.le_refl _
  | i + 1 => by
    show wgt mis p i * (if mis / 2 ^ i % 2 = 1 then p else 12 - p) ≤ 12 ^ i * 12
    exact Nat.mul_le_mul (wgt_le hp i) (by split <;> omega)
theorem c_weight {σ : St} {n mis p : Nat} (h : σ.1 13 7 = nI n) (hn : n ≤ 6) (hm : mis < 64) (hp : p ≤ 12) : f5_weightOf σ (nI mis) (nI p) = some (lN (wgt mis p n)) := by
  unfold f5_weightOf
  refine up0 (fun q i s => L5_weightOf_5 σ (nI mis) (nI p) (fun x => some x) q s i) n (by omega) (fun i s => s = lN (wgt mis p i)) (fun o => o = some (lN (wgt mis p n))) ?_ ?_ 1 rfl
  · intro q i s hi hs
    left
    refine ⟨_, rfl, ?_⟩
    subst hs
    conv => lhs; unfold L5_weightOf_5
    simp only [jn_e, bnd_e]
    rw [h, if_neg (nI_ge hi (by omega)), n_bit (by omega) (by omega), nI_1, show (12 : Int32) - nI p = nI (12 - p) from pk_sub (a := 12) hp, i_l (by omega), i_l (by omega), lN_mul, lN_mul]
    show _ = L5_weightOf_5 σ (nI mis) (nI p) (fun x => some x) q (lN (wgt mis p i * (if mis / 2 ^ i % 2 = 1 then p else 12 - p))) (nI (i + 1))
    by_cases c : mis / 2 ^ i % 2 = 1
    · rw [c, if_neg (by decide), if_pos rfl]
    · rw [show mis / 2 ^ i % 2 = 0 by omega, if_pos (by rfl), if_neg (by decide)]
  · intro q s hs
    subst hs
    unfold L5_weightOf_5
    rw [h, if_pos (nI_le (Nat.le_refl _) (by omega))]
theorem m_weigh {τ : St} {n mis p : Nat} (h : τ.1 0 4 = nI n) (hn : n ≤ 6) (hm : mis < 64) (hp : p ≤ 12) : f6_weigh τ (nI mis) (nI p) = some (lN (wgt mis p n)) := by
  unfold f6_weigh
  refine up0 (fun q i s => L6_weigh_5 τ (nI mis) (nI p) (fun x => some x) q s i) n (by omega) (fun i s => s = lN (wgt mis p i)) (fun o => o = some (lN (wgt mis p n))) ?_ ?_ 1 rfl
  · intro q i s hi hs
    left
    refine ⟨_, rfl, ?_⟩
    subst hs
    conv => lhs; unfold L6_weigh_5
    simp only [jn_e, bnd_e]
    rw [h, if_neg (nI_ge hi (by omega)), m_has (by omega) (by omega), b1_s, nI_1, show (12 : Int32) - nI p = nI (12 - p) from pk_sub (a := 12) hp, i_l (by omega), i_l (by omega), lN_mul, lN_mul]
    show _ = L6_weigh_5 τ (nI mis) (nI p) (fun x => some x) q (lN (wgt mis p i * (if mis / 2 ^ i % 2 = 1 then p else 12 - p))) (nI (i + 1))
    by_cases c : mis / 2 ^ i % 2 = 1
    · rw [c, if_neg (by decide), if_pos rfl]
    · rw [show mis / 2 ^ i % 2 = 0 by omega, if_pos (by rfl), if_neg (by decide)]
  · intro q s hs
    subst hs
    unfold L6_weigh_5
    rw [h, if_pos (nI_le (Nat.le_refl _) (by omega))]
theorem c_allW {σ : St} {n : Nat} (h : σ.1 13 7 = nI n) (hn : n ≤ 6) : f5_allWeights σ = some (lN (12 ^ n)) := by
  unfold f5_allWeights
  refine up0 (fun q i s => L5_allWeights_4 σ (fun x => some x) q s i) n (by omega) (fun i s => s = lN (12 ^ i)) (fun o => o = some (lN (12 ^ n))) ?_ ?_ 1 rfl
  · intro q i s hi hs
    left
    refine ⟨_, rfl, ?_⟩
    subst hs
    conv => lhs; unfold L5_allWeights_4
    rw [h, if_neg (nI_ge hi (by omega)), bnd_e, bnd_e, nI_1, show (12 : Int64) = lN 12 from rfl, lN_mul, ← Nat.pow_succ]
  · intro q s hs
    subst hs
    unfold L5_allWeights_4
    rw [h, if_pos (nI_le (Nat.le_refl _) (by omega))]
theorem m_allW {τ : St} {n : Nat} {x1 x2 x3 x4 : Int32} {x5 : Int64} {k : Int64 → Option (Int32 × St)} (h : τ.1 0 4 = nI n) (hn : n ≤ 6) : L6_chance_38 τ x1 x2 x3 x4 x5 k FU 1 0 = k (lN (12 ^ n)) := by
  refine up0 (fun q i s => L6_chance_38 τ x1 x2 x3 x4 x5 k q s i) n (by omega) (fun i s => s = lN (12 ^ i)) (fun o => o = k (lN (12 ^ n))) ?_ ?_ 1 rfl
  · intro q i s hi hs
    left
    refine ⟨_, rfl, ?_⟩
    subst hs
    conv => lhs; unfold L6_chance_38
    rw [h, if_neg (nI_ge hi (by omega)), bnd_e, bnd_e, nI_1, show (12 : Int64) = lN 12 from rfl, lN_mul, ← Nat.pow_succ]
  · intro q s hs
    subst hs
    unfold L6_chance_38
    rw [h, if_pos (nI_le (Nat.le_refl _) (by omega))]
theorem p12 {n : Nat} (h : n ≤ 6) : 12 ^ n ≤ 2985984 ∧ 0 < 12 ^ n := ⟨Nat.pow_le_pow_right (n := 12) (i := n) (j := 6) (by omega) h, Nat.pow_pos (by omega)⟩
/-- the sum over all misread sets -/
def chS (g : Nat → Nat) (w : Nat → Nat) : Nat → Nat
  | 0 => 0
  | m + 1 => chS g w m + w m * g m
theorem chS_le {g w : Nat → Nat} {W : Nat} (hg : ∀ m, g m ≤ 6) (hw : ∀ m, w m ≤ W) : ∀ m, chS g w m ≤ m * (W * 6)
  | 0 => by rw [Nat.zero_mul]; exact Nat.le_refl _
  | m + 1 => by
    have h1 := chS_le hg hw m
    have h2 := Nat.mul_le_mul (hw m) (hg m)
    show chS g w m + w m * g m ≤ (m + 1) * (W * 6)
    rw [Nat.add_mul, Nat.one_mul]
    omega
theorem plc_0 {l : List Nat} {i : Nat} (h : i ∈ l) : plc l i = 0 ↔ l.getD 0 0 = i := by
  obtain ⟨p1, p2, p3⟩ := plc_at h
  constructor
  · intro e
    rw [e] at p2
    exact p2
  · intro e
    refine plc_eq l 0 (by omega) e (fun j hj => absurd hj (Nat.not_lt_zero _))
/-- the reference's sum -/
theorem m_chance {τ : St} {n i col p md : Nat} {kd : Nat → Nat} {D : Dk} {x7 : Int64} (h : mD τ 6 n kd D) (hi : i < n) (hc : col < 3) (hp : p ≤ 12) {g : Nat → Nat} (hmd : (md = 0 ∧ ∀ m, g m = if plc (pas kd D col m) i = 0 then 1 else 0) ∨ (md = 1 ∧ ∀ m, g m = plc (pas kd D col m) i)) {K : Int64 → St → Option (Int32 × St)} :
    ∃ τ', L6_chance_64 (nI i) (nI col) (nI p) (nI md) x7 K FU 0 0 τ = K (lN (chS g (fun m => wgt m p n) (2 ^ n))) τ' ∧ frA τ τ' := by
  have hn6 := h.2.1
  have hp6 := pw6 hn6
  refine up0 (fun q m s => L6_chance_64 (nI i) (nI col) (nI p) (nI md) x7 K q s.1 m s.2) (2 ^ n) (by omega) (fun m s => s.1 = lN (chS g (fun m => wgt m p n) m) ∧ frA τ s.2) (fun o => ∃ τ', o = K (lN (chS g (fun m => wgt m p n) (2 ^ n))) τ' ∧ frA τ τ') ?_ ?_ (0, τ) ⟨rfl, frA.rf _⟩
  · intro q m s hm hs
    obtain ⟨s1, s2⟩ := s
    obtain ⟨e, fr⟩ := hs
    dsimp only at e fr ⊢
    subst e
    have h1 := h.fr fr
    obtain ⟨τ1, e1, f1, g1⟩ := h1.aside
    obtain ⟨τ2, e2, f2, g2⟩ := g1.fallA hc (mis := m) (by omega)
    have ho := okD_pas (kd := kd) h.2.2.2.2 hc (mis := m)
    have hmem := full_mem ho.1 ho.2.1 ho.2.2.1 hi
    have e3 := m_placeOf (τ := τ2) (a := 7) (i := i) (l := pas kd D col m) rfl hn6 ho.1 ho.2.2.1 g2 hmem
    have h2 : τ2.1 0 4 = nI n := by rw [f2.1 0 (by omega)]; exact g1.1
    have hpl : plc (pas kd D col m) i < (pas kd D col m).length := (plc_at hmem).1
    have hlen : (pas kd D col m).length = n := ho.1
    left
    refine ⟨(lN (chS g (fun m => wgt m p n) (m + 1)), τ2), ⟨rfl, (fr.tr f1).tr f2⟩, ?_⟩
    conv => lhs; unfold L6_chance_64
    simp only [jn_e, bnd_e]
    rw [h1.1, n_pow n hn6, if_neg (nI_ge hm (by omega)), e1, b1_s, e2, b1_s, e3, b1_s, m_weigh h2 hn6 (by omega) hp, b1_s, nI_1]
    show _ = L6_chance_64 (nI i) (nI col) (nI p) (nI md) x7 K q (lN (chS g (fun m => wgt m p n) m + wgt m p n * g m)) (nI (m + 1)) τ2
    rcases hmd with ⟨rfl, hg⟩ | ⟨rfl, hg⟩
    · rw [if_pos (by rfl), hg m]
      by_cases c : plc (pas kd D col m) i = 0
      · rw [c, if_pos (by rfl), if_pos rfl, show (1 : Int32).toInt64 = lN 1 from by decide, lN_mul, lN_add]
      · rw [if_neg (nI_ne0 (by omega) (by omega)), if_neg c, show (0 : Int32).toInt64 = lN 0 from by decide, lN_mul, lN_add]
    · rw [if_neg (by decide), hg m, i_l (by omega), lN_mul, lN_add]
  · intro q s hs
    obtain ⟨s1, s2⟩ := s
    obtain ⟨e, fr⟩ := hs
    dsimp only at e fr ⊢
    subst e
    refine ⟨s2, ?_, fr⟩
    unfold L6_chance_64
    rw [(h.fr fr).1, n_pow n hn6, if_pos (nI_le (Nat.le_refl _) (by omega))]
theorem c_isChance {σ : St} {n : Nat} (h : σ.1 13 7 = nI n) (hn : n ≤ 6) (x y z : Int32) : f5_isChance σ x y z = some (if inB x n = 0 then 0 else if inB y 3 = 0 then 0 else inB z 13) := by
  have e12 : (12 : Int32).toInt = 12 := by decide
  unfold f5_isChance
  rw [c_isCard h hn, b1_s, c_isColumn, b1_s]
  by_cases c1 : inB x n = 0
  · rw [if_pos c1, if_pos c1]
  rw [if_neg c1, if_neg c1]
  by_cases c2 : inB y 3 = 0
  · rw [if_pos c2, if_pos c2]
  rw [if_neg c2, if_neg c2]
  unfold inB
  by_cases c3 : z.toInt < 0
  · rw [if_pos (show z < 0 by rw [i_lt, i_0]; exact c3), if_neg (by omega)]
  rw [if_neg (show ¬ z < 0 by rw [i_lt, i_0]; exact c3)]
  by_cases c4 : 12 < z.toInt
  · rw [if_pos (show 12 < z by rw [i_lt, e12]; exact c4), if_neg (by omega)]
  · rw [if_neg (show ¬ 12 < z by rw [i_lt, e12]; exact c4), if_pos (by omega)]
/-- class and reference refuse alike and sum alike -/
theorem e_chance {σ τ : St} (h : Rel σ τ) (x y z : Int32) (md : Nat) {B : Option (Int32 × St)} (hB : ∀ n kd D i col p, CX σ n kd D → mD τ 6 n kd D → i < n → col < 3 → p ≤ 12 → x = nI i → y = nI col → z = nI p → ∃ g σ', frS σ σ' ∧ ((md = 0 ∧ ∀ m, g m = if plc (pas kd D col m) i = 0 then 1 else 0) ∨ (md = 1 ∧ ∀ m, g m = plc (pas kd D col m) i)) ∧ (∀ m, g m ≤ 6) ∧ B = b1 (f5_tellParts σ' (lN (chS g (fun m => wgt m p n) (2 ^ n))) (lN (12 ^ n))) fun σ => some (1, σ)) :
    Sim (b1 (f5_isChance σ x y z) fun r => if r = 0 then some (-1, σ) else B) (f6_chance τ x y z (nI md)) := by
  obtain ⟨n, kd, bs, ds, kp, hA, hC, hM⟩ := h.2.2.2.2
  have hn6 := hA.2.1
  have hc := hC.cx hA
  have hm := hM.mx hA
  generalize rpl n kd bs ds = D at hc hm
  unfold f6_chance
  rw [c_isChance hC.1 hn6, b1_s, m_isCard hM.1 hn6, b1_s, m_isColumn, b1_s, m_inB z 13 12 (by decide), b1_s]
  rcases ix x n (by omega) with hx | ⟨i, hi, rfl⟩
  · rw [inB_out hx, i00, i00, i00]
    exact Sim.of h _
  rw [inB_nI hi (by omega), i10, i10]
  rcases ix y 3 (by omega) with hy | ⟨col, hc3, rfl⟩
  · rw [inB_out hy, i00, i00, i00]
    exact Sim.of h _
  rw [inB_nI hc3 (by omega), i10, i10]
  rcases ix z 13 (by omega) with hz | ⟨p, hp, rfl⟩
  · rw [inB_out hz, i00, i00]
    exact Sim.of h _
  rw [inB_nI hp (by omega), i10, i10, m_allW hm.1 hn6]
  obtain ⟨g, σ', f, hg, hg6, e⟩ := hB n kd D i col p hc hm hi hc3 (by omega) rfl rfl rfl
  obtain ⟨τ', e', f'⟩ := m_chance (x7 := lN (12 ^ n)) (K := fun (x5_32 : Int64) (σ_33 : St) => b1 (f6_tellsPart σ_33 x5_32 (lN (12 ^ n))) fun σ_35 => some (1, σ_35)) hm hi hc3 (show p ≤ 12 by omega) hg
  have hp12 := p12 hn6
  have hle := chS_le (g := g) (w := fun m => wgt m p n) (W := 2985984) hg6 (fun m => Nat.le_trans (wgt_le (by omega) n) hp12.1) (2 ^ n)
  have hp6 := pw6 hn6
  have hle2 : 2 ^ n * (2985984 * 6) ≤ 64 * (2985984 * 6) := Nat.mul_le_mul_right _ hp6
  obtain ⟨σ2, τ2, q1, q2, q3⟩ := (h.scr f f').told (u := chS g (fun m => wgt m p n) (2 ^ n)) (w := 12 ^ n) hp12.2 (by omega) (by omega)
  rw [e, e', q1, q2, b1_s, b1_s]
  exact Sim.of q3 _
theorem e_mid {σ τ : St} (h : Rel σ τ) (x y z : Int32) : Sim (f5_mid σ x y z) (f6_mid τ x y z) := by
  have key := e_chance h x y z 1 (B := L5_mid_18 x y z (fun (x4_17 : Int64) (σ_18 : St) => b1 (f5_allWeights σ_18) fun r_20 => b1 (f5_tellParts σ_18 x4_17 r_20) fun σ_22 => some (1, σ_22)) FU 0 0 σ) ?_
  · obtain ⟨r, σ', τ', e1, e2, e3⟩ := key
    refine ⟨r, σ', τ', e1, ?_, e3⟩
    unfold f6_mid
    rw [show (1 : Int32) = nI 1 from rfl, e2, b2_s]
  · intro n kd D i col p hc hm hi hc3 hp e1 e2 e3
    subst e1
    subst e2
    subst e3
    have hn6 := hc.2.1
    have hp6 := pw6 hn6
    have ho := fun m => okD_pas (kd := kd) hc.2.2.2.2 hc3 (mis := m)
    have hmem := fun m => full_mem (ho m).1 (ho m).2.1 (ho m).2.2.1 hi
    have hpl : ∀ m, plc (pas kd D col m) i ≤ 6 := fun m => by
      have h1 : plc (pas kd D col m) i < (pas kd D col m).length := (plc_at (hmem m)).1
      have h2 : (pas kd D col m).length = n := (ho m).1
      omega
    have main : ∃ σ', L5_mid_18 (nI i) (nI col) (nI p) (fun (x4_17 : Int64) (σ_18 : St) => b1 (f5_allWeights σ_18) fun r_20 => b1 (f5_tellParts σ_18 x4_17 r_20) fun σ_22 => some (1, σ_22)) FU 0 0 σ = b1 (f5_tellParts σ' (lN (chS (fun m => plc (pas kd D col m) i) (fun m => wgt m p n) (2 ^ n))) (lN (12 ^ n))) (fun σ => some (1, σ)) ∧ frS σ σ' := by
      refine up0 (fun q m s => L5_mid_18 (nI i) (nI col) (nI p) (fun (x4_17 : Int64) (σ_18 : St) => b1 (f5_allWeights σ_18) fun r_20 => b1 (f5_tellParts σ_18 x4_17 r_20) fun σ_22 => some (1, σ_22)) q s.1 m s.2) (2 ^ n) (by omega) (fun m s => s.1 = lN (chS (fun m => plc (pas kd D col m) i) (fun m => wgt m p n) m) ∧ frS σ s.2) (fun o => ∃ σ', o = b1 (f5_tellParts σ' (lN (chS (fun m => plc (pas kd D col m) i) (fun m => wgt m p n) (2 ^ n))) (lN (12 ^ n))) (fun σ => some (1, σ)) ∧ frS σ σ') ?_ ?_ (0, σ) ⟨rfl, frS.rf _⟩
      · intro q m s hm' hs
        obtain ⟨s1, s2⟩ := s
        obtain ⟨e, fr⟩ := hs
        dsimp only at e fr ⊢
        subst e
        have h1 := hc.fr fr
        obtain ⟨σ1, e1, f1, g1⟩ := h1.once hc3 (mis := m) (by omega)
        have h2 := h1.fr f1
        have e2 := c_placeIn (σ := σ1) (a := 24) (i := i) (l := pas kd D col m) rfl hn6 (ho m).1 (ho m).2.2.1 g1 (hmem m)
        have hpm := hpl m
        left
        refine ⟨(lN (chS (fun m => plc (pas kd D col m) i) (fun m => wgt m p n) (m + 1)), σ1), ⟨rfl, fr.tr f1⟩, ?_⟩
        conv => lhs; unfold L5_mid_18
        simp only [bnd_e]
        rw [h1.1, n_pow n hn6, if_neg (nI_ge hm' (by omega)), e1, b2_s, h2.1, e2, b1_s, c_weight h2.1 hn6 (by omega) hp, b1_s, i_l (by omega), lN_mul, lN_add, nI_1, Nat.mul_comm]
        rfl
      · intro q s hs
        obtain ⟨s1, s2⟩ := s
        obtain ⟨e, fr⟩ := hs
        dsimp only at e fr ⊢
        subst e
        refine ⟨s2, ?_, fr⟩
        have h1 := hc.fr fr
        unfold L5_mid_18
        rw [h1.1, n_pow n hn6, if_pos (nI_le (Nat.le_refl _) (by omega)), c_allW h1.1 hn6, b1_s]
    obtain ⟨σ', e, f⟩ := main
    exact ⟨fun m => plc (pas kd D col m) i, σ', f, Or.inr ⟨rfl, fun m => rfl⟩, hpl, e⟩
theorem e_odds {σ τ : St} (h : Rel σ τ) (x y z : Int32) : Sim (f5_odds σ x y z) (f6_odds τ x y z) := by
  have key := e_chance h x y z 0 (B := L5_odds_18 x y z (fun (x4_17 : Int64) (σ_18 : St) => b1 (f5_allWeights σ_18) fun r_20 => b1 (f5_tellParts σ_18 x4_17 r_20) fun σ_22 => some (1, σ_22)) FU 0 0 σ) ?_
  · obtain ⟨r, σ', τ', e1, e2, e3⟩ := key
    refine ⟨r, σ', τ', e1, ?_, e3⟩
    unfold f6_odds
    rw [show f6_chance τ x y z 0 = f6_chance τ x y z (nI 0) from rfl, e2, b2_s]
  · intro n kd D i col p hc hm hi hc3 hp e1 e2 e3
    subst e1
    subst e2
    subst e3
    have hn6 := hc.2.1
    have hp6 := pw6 hn6
    have ho := fun m => okD_pas (kd := kd) hc.2.2.2.2 hc3 (mis := m)
    have hmem := fun m => full_mem (ho m).1 (ho m).2.1 (ho m).2.2.1 hi
    have hpl : ∀ m, (if plc (pas kd D col m) i = 0 then 1 else 0) ≤ 6 := fun m => by
      split <;> omega
    have main : ∃ σ', L5_odds_18 (nI i) (nI col) (nI p) (fun (x4_17 : Int64) (σ_18 : St) => b1 (f5_allWeights σ_18) fun r_20 => b1 (f5_tellParts σ_18 x4_17 r_20) fun σ_22 => some (1, σ_22)) FU 0 0 σ = b1 (f5_tellParts σ' (lN (chS (fun m => if plc (pas kd D col m) i = 0 then 1 else 0) (fun m => wgt m p n) (2 ^ n))) (lN (12 ^ n))) (fun σ => some (1, σ)) ∧ frS σ σ' := by
      refine up0 (fun q m s => L5_odds_18 (nI i) (nI col) (nI p) (fun (x4_17 : Int64) (σ_18 : St) => b1 (f5_allWeights σ_18) fun r_20 => b1 (f5_tellParts σ_18 x4_17 r_20) fun σ_22 => some (1, σ_22)) q s.1 m s.2) (2 ^ n) (by omega) (fun m s => s.1 = lN (chS (fun m => if plc (pas kd D col m) i = 0 then 1 else 0) (fun m => wgt m p n) m) ∧ frS σ s.2) (fun o => ∃ σ', o = b1 (f5_tellParts σ' (lN (chS (fun m => if plc (pas kd D col m) i = 0 then 1 else 0) (fun m => wgt m p n) (2 ^ n))) (lN (12 ^ n))) (fun σ => some (1, σ)) ∧ frS σ σ') ?_ ?_ (0, σ) ⟨rfl, frS.rf _⟩
      · intro q m s hm' hs
        obtain ⟨s1, s2⟩ := s
        obtain ⟨e, fr⟩ := hs
        dsimp only at e fr ⊢
        subst e
        have h1 := hc.fr fr
        obtain ⟨σ1, e1, f1, g1⟩ := h1.once hc3 (mis := m) (by omega)
        have h2 := h1.fr f1
        have hx := (ho m).2.2.1 _ (getD_m (l := pas kd D col m) (i := 0) (by have h2 : (pas kd D col m).length = n := (ho m).1; omega))
        left
        refine ⟨(lN (chS (fun m => if plc (pas kd D col m) i = 0 then 1 else 0) (fun m => wgt m p n) (m + 1)), σ1), ⟨rfl, fr.tr f1⟩, ?_⟩
        conv => lhs; unfold L5_odds_18
        simp only [jn_e, bnd_e]
        rw [h1.1, n_pow n hn6, if_neg (nI_ge hm' (by omega)), e1, b2_s, g1 0 (by omega), c_weight h2.1 hn6 (by omega) hp, b1_s, lN_add, nI_1]
        show _ = L5_odds_18 (nI i) (nI col) (nI p) (fun (x4_17 : Int64) (σ_18 : St) => b1 (f5_allWeights σ_18) fun r_20 => b1 (f5_tellParts σ_18 x4_17 r_20) fun σ_22 => some (1, σ_22)) q (lN (chS (fun m => if plc (pas kd D col m) i = 0 then 1 else 0) (fun m => wgt m p n) m + wgt m p n * (if plc (pas kd D col m) i = 0 then 1 else 0))) (nI (m + 1)) σ1
        by_cases c : plc (pas kd D col m) i = 0
        · rw [if_pos (show nI ((pas kd D col m).getD 0 0) = nI i by rw [(plc_0 (hmem m)).mp c]), if_pos c, Nat.mul_one]
        · rw [if_neg (show ¬ nI ((pas kd D col m).getD 0 0) = nI i by
            rw [nI_eq (by omega) (by omega)]
            exact fun e => c ((plc_0 (hmem m)).mpr e)), if_neg c, Nat.mul_zero]
          rfl
      · intro q s hs
        obtain ⟨s1, s2⟩ := s
        obtain ⟨e, fr⟩ := hs
        dsimp only at e fr ⊢
        subst e
        refine ⟨s2, ?_, fr⟩
        have h1 := hc.fr fr
        unfold L5_odds_18
        rw [h1.1, n_pow n hn6, if_pos (nI_le (Nat.le_refl _) (by omega)), c_allW h1.1 hn6, b1_s]
    obtain ⟨σ', e, f⟩ := main
    exact ⟨fun m => if plc (pas kd D col m) i = 0 then 1 else 0, σ', f, Or.inl ⟨rfl, fun m => rfl⟩, hpl, e⟩
