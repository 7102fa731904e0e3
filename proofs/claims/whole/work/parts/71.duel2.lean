/-! the duel as the reference plays it: all games, from their ends -/
def mvL (kd : Nat → Nat) : Nat → Nat → Dk → Dk
  | 0, _, E => E
  | j + 1, x, E => mvL kd j (x / 4) (mvD kd E (x % 4))
theorem mvL_ok {n : Nat} {kd : Nat → Nat} : ∀ (j x : Nat) {E : Dk}, okD n E → okD n (mvL kd j x E)
  | 0, _, _, h => h
  | j + 1, x, _, h => mvL_ok j (x / 4) (mvD_ok h (x % 4)).1
theorem mvL_s {kd : Nat → Nat} : ∀ (k x c : Nat) (E : Dk), x < 4 ^ k → c < 4 → mvL kd (k + 1) (x + 4 ^ k * c) E = mvD kd (mvL kd k x E) c
  | 0, x, c, E, hx, hc => by
    have : x = 0 := by rw [Nat.pow_zero] at hx; omega
    subst this
    show mvD kd E ((0 + 4 ^ 0 * c) % 4) = mvD kd E c
    rw [show (0 + 4 ^ 0 * c) % 4 = c by rw [Nat.pow_zero]; omega]
  | k + 1, x, c, E, hx, hc => by
    show mvL kd (k + 1) ((x + 4 ^ (k + 1) * c) / 4) (mvD kd E ((x + 4 ^ (k + 1) * c) % 4)) = mvD kd (mvL kd k (x / 4) (mvD kd E (x % 4))) c
    rw [Nat.pow_succ] at hx ⊢
    have e : 4 ^ k * 4 * c = 4 * (4 ^ k * c) := by rw [Nat.mul_comm (4 ^ k) 4, Nat.mul_assoc]
    rw [e, show (x + 4 * (4 ^ k * c)) / 4 = x / 4 + 4 ^ k * c by omega, show (x + 4 * (4 ^ k * c)) % 4 = x % 4 by omega]
    exact mvL_s k (x / 4) c _ (by omega) hc
def frB (τ τ' : St) : Prop := (∀ c, c ≠ 7 → c ≠ 14 → τ'.1 c = τ.1 c) ∧ τ'.2 = τ.2
theorem frB.rf (σ : St) : frB σ σ := ⟨fun _ _ _ => rfl, rfl⟩
theorem frB.tr {σ σ' σ'' : St} (h : frB σ σ') (g : frB σ' σ'') : frB σ σ'' := ⟨fun c h1 h2 => (g.1 c h1 h2).trans (h.1 c h1 h2), g.2.trans h.2⟩
theorem frB.a {σ σ' : St} (h : frB σ σ') : frA σ σ' := ⟨fun c hc => h.1 c (by omega) (by omega), h.2⟩
theorem mD.asideB {τ : St} {n : Nat} {kd : Nat → Nat} {D : Dk} (h : mD τ 6 n kd D) : ∃ τ', f6_laysAside τ = some τ' ∧ frB τ τ' ∧ mD τ' 7 n kd D := by
  obtain ⟨τ', e, f, m⟩ := h.aside
  refine ⟨τ', e, ?_, m⟩
  have hcp := m_copies (τ := τ) (a := 6) (b := 7) (i := 0) (j := 0) (m := 25) (by decide) (by decide) (by decide) (by decide) (by decide)
  replace hcp : f6_copies τ 6 0 7 0 25 = _ := hcp
  unfold f6_laysAside at e
  rw [hcp, b1_s] at e
  rw [← Option.some.inj e]
  exact ⟨fun c h1 h2 => wA_n _ _ h1, rfl⟩
theorem mD.passB {τ : St} {n : Nat} {kd : Nat → Nat} {D : Dk} (h : mD τ 7 n kd D) {col : Nat} (hc : col < 3) : ∃ τ', f6_passes τ 7 (nI col) = some τ' ∧ frB τ τ' ∧ mD τ' 7 n kd (psD kd D col) := by
  obtain ⟨τ', e, f1, f2, f3⟩ := m_passes h (Or.inr rfl) hc
  refine ⟨τ', e, ⟨f1, f2⟩, ?_⟩
  obtain ⟨h1, h2, h3, h4, h5⟩ := h
  refine ⟨by rw [f1 0 (by omega) (by omega)]; exact h1, h2, fun i hi => by rw [f1 5 (by omega) (by omega)]; exact h3 i hi, f3, okD_pas h5 hc⟩
theorem m_lead {τ : St} {n a b T x : Nat} {kd : Nat → Nat} {D : Dk} (h : mD τ 6 n kd D) (ha : a < n) (hb : b < n) (hx : x < 2 ^ 31) (hT : T ≤ 6) : ∃ r τ', f6_leadBy τ (nI a) (nI b) (nI x) (nI T) = some (r, τ') ∧ frB τ τ' ∧ r.toInt = ldI a b (mvL kd T x D) := by
  obtain ⟨τ1, e1, f1, m1⟩ := h.asideB
  unfold f6_leadBy
  rw [e1, b1_s]
  have main : ∀ (j i x f : Nat) (s : St) (E : Dk), i + j = T → j < f → x < 2 ^ 31 → mD s 7 n kd E → ∃ r s', L6_leadBy_10 (nI a) (nI b) (nI T) (fun (σ_15 : St) => b1 (f6_placeOf σ_15 7 (nI b)) fun r_17 => b1 (f6_placeOf σ_15 7 (nI a)) fun r_19 => some (r_17 - r_19, σ_15)) f (nI x) (nI i) s = some (r, s') ∧ frB s s' ∧ r.toInt = ldI a b (mvL kd j x E) := by
    intro j
    induction j with
    | zero =>
      intro i x f s E h1 h2 hx hm
      obtain ⟨q, rfl⟩ : ∃ q, f = q + 1 := ⟨f - 1, by omega⟩
      have l1 := plc_lt hm.2.2.2.2 ha
      have l2 := plc_lt hm.2.2.2.2 hb
      have hn := hm.2.1
      refine ⟨nI (plc E.1 b) - nI (plc E.1 a), s, ?_, frB.rf _, ?_⟩
      · unfold L6_leadBy_10
        rw [if_pos (nI_le (by omega) (by omega)), hm.placeOf (Or.inr rfl) hb, b1_s, hm.placeOf (Or.inr rfl) ha, b1_s]
      · rw [pk_sub_toInt (by omega) (by omega)]
        rfl
    | succ j ih =>
      intro i x f s E h1 h2 hx hm
      obtain ⟨q, rfl⟩ : ∃ q, f = q + 1 := ⟨f - 1, by omega⟩
      have hd : x / 4 ≤ x := Nat.div_le_self _ _
      by_cases c3 : x % 4 < 3
      · obtain ⟨s1, e2, f2, m2⟩ := hm.passB c3
        have em : psD kd E (x % 4) = mvD kd E (x % 4) := by unfold mvD; rw [if_pos c3]
        rw [em] at m2
        obtain ⟨r, s', e3, f3, g3⟩ := ih (i + 1) (x / 4) q s1 _ (by omega) (by omega) (by omega) m2
        refine ⟨r, s', ?_, f2.tr f3, g3⟩
        conv => lhs; unfold L6_leadBy_10
        simp only [jn_e, bnd_e]
        rw [if_neg (nI_ge (a := i) (b := T) (by omega) (by omega)), show (4 : Int32) = nI 4 from rfl, pk_rem (by omega) (by omega) (by omega), if_neg (show ¬ (3 : Int32) ≤ nI (x % 4) from nI_ge (b := 3) c3 (by omega)), e2, b1_s, pk_div (by omega) (by omega) (by omega), nI_1]
        exact e3
      · have em : mvD kd E (x % 4) = E := by unfold mvD; rw [if_neg c3]
        obtain ⟨r, s', e3, f3, g3⟩ := ih (i + 1) (x / 4) q s E (by omega) (by omega) (by omega) hm
        refine ⟨r, s', ?_, f3, ?_⟩
        · conv => lhs; unfold L6_leadBy_10
          simp only [jn_e, bnd_e]
          rw [if_neg (nI_ge (a := i) (b := T) (by omega) (by omega)), show (4 : Int32) = nI 4 from rfl, pk_rem (by omega) (by omega) (by omega), if_pos (show (3 : Int32) ≤ nI (x % 4) from nI_le (a := 3) (by omega) (by omega)), pk_div (by omega) (by omega) (by omega), nI_1]
          exact e3
        · rw [g3]
          show _ = ldI a b (mvL kd j (x / 4) (mvD kd E (x % 4)))
          rw [em]
  obtain ⟨r, s', e2, f2, g2⟩ := main T 0 x FU τ1 D (by omega) (by rw [FU_e]; omega) hx m1
  exact ⟨r, s', e2, f1.tr f2, g2⟩
theorem p4_le {m : Nat} (h : m ≤ 6) : 4 ^ m ≤ 4096 := Nat.pow_le_pow_right (n := 4) (i := m) (j := 6) (by omega) h
theorem m_pow4 {τ : St} {x1 x2 : Int32} {t : Nat} {k : Int32 → Option (Int32 × St)} (ht : t ≤ 3) : L6_duel_41 τ x1 x2 (nI t) k FU 1 0 = k (nI (4 ^ (2 * t))) := by
  refine up0 (fun q i s => L6_duel_41 τ x1 x2 (nI t) k q s i) (2 * t) (by omega) (fun i s => s = nI (4 ^ i)) (fun o => o = k (nI (4 ^ (2 * t)))) ?_ ?_ 1 rfl
  · intro q i s hi hs
    subst hs
    left
    refine ⟨_, rfl, ?_⟩
    conv => lhs; unfold L6_duel_41
    rw [show (2 : Int32) = nI 2 from rfl, pk_mul, if_neg (nI_ge hi (by omega)), bnd_e, bnd_e, show (4 : Int32) = nI 4 from rfl, pk_mul, ← Nat.pow_succ, nI_1]
  · intro q s hs
    subst hs
    unfold L6_duel_41
    rw [show (2 : Int32) = nI 2 from rfl, pk_mul, if_pos (nI_le (Nat.le_refl _) (by omega))]
/-- the table of games after T - k levels -/
def tab (s : St) (kd : Nat → Nat) (a b T k : Nat) (D : Dk) : Prop := ∀ x, x < 4 ^ k → (s.1 15 x).toInt = val kd a b (T - k) k (mvL kd k x D)
def frE (τ τ' : St) : Prop := (∀ c, c ≠ 7 → c ≠ 14 → c ≠ 15 → τ'.1 c = τ.1 c) ∧ τ'.2 = τ.2
theorem frE.a {σ σ' : St} (h : frE σ σ') : frA σ σ' := ⟨fun c hc => h.1 c (by omega) (by omega) (by omega), h.2⟩
theorem m_fillT {τ : St} {n a b t : Nat} {kd : Nat → Nat} {D : Dk} {K : St → Option (Int32 × St)} (h : mD τ 6 n kd D) (ha : a < n) (hb : b < n) (ht : t ≤ 3) : ∃ s', L6_duel_64 (nI a) (nI b) (nI t) (nI (4 ^ (2 * t))) K FU 0 τ = K s' ∧ frE τ s' ∧ tab s' kd a b (2 * t) (2 * t) D := by
  have hP := p4_le (m := 2 * t) (by omega)
  refine up0 (fun q x s => L6_duel_64 (nI a) (nI b) (nI t) (nI (4 ^ (2 * t))) K q x s) (4 ^ (2 * t)) (by omega) (fun x s => frE τ s ∧ ∀ y, y < x → (s.1 15 y).toInt = ldI a b (mvL kd (2 * t) y D)) (fun o => ∃ s', o = K s' ∧ frE τ s' ∧ tab s' kd a b (2 * t) (2 * t) D) ?_ ?_ τ ⟨⟨fun _ _ _ _ => rfl, rfl⟩, fun y hy => absurd hy (Nat.not_lt_zero _)⟩
  · intro q x s hx hs
    obtain ⟨fr, hy⟩ := hs
    obtain ⟨r, s1, e1, f1, g1⟩ := m_lead (T := 2 * t) (x := x) (h.fr fr.a) ha hb (by omega) (by omega)
    left
    refine ⟨wI s1 15 x r, ⟨⟨fun c h1 h2 h3 => by rw [wI_n _ _ _ h3, f1.1 c h1 h2]; exact fr.1 c h1 h2 h3, f1.2.trans fr.2⟩, fun y hyx => ?_⟩, ?_⟩
    · rw [wI_s, upd_a]
      by_cases e : y = x
      · rw [if_pos e, e]
        exact g1
      · rw [if_neg e, f1.1 15 (by omega) (by omega)]
        exact hy y (by omega)
    · conv => lhs; unfold L6_duel_64
      rw [if_neg (nI_ge hx (by omega)), show (2 : Int32) = nI 2 from rfl, pk_mul, e1, b2_s, gi_nI (by omega) (by omega), bnd_e, bnd_e, nI_clamp (by omega), nI_1]
  · intro q s hs
    refine ⟨s, ?_, hs.1, fun x hx => ?_⟩
    · unfold L6_duel_64
      rw [if_pos (nI_le (Nat.le_refl _) (by omega))]
    · rw [Nat.sub_self]
      exact hs.2 x hx
def pl (k : Nat) : Int32 := if k % 2 = 0 then 0 else 1
theorem m_best {s : St} {k x : Nat} {V : Nat → Int} {K : Int32 → Option (Int32 × St)} (hk : k ≤ 5) (hx : x < 4 ^ k) (hv : ∀ c, c < 4 → (s.1 15 (x + 4 ^ k * c)).toInt = V c) : ∃ r, L6_duel_132 s (nI (4 ^ k)) (pl k) (nI x) K FU (s.1 15 x) 1 = K r ∧ r.toInt = if k % 2 = 0 then max (max (max (V 0) (V 1)) (V 2)) (V 3) else min (min (min (V 0) (V 1)) (V 2)) (V 3) := by
  have hP := p4_le (m := k + 1) (by omega)
  rw [Nat.pow_succ] at hP
  have hb : ∀ c, c < 4 → 4 ^ k * c ≤ 4 ^ k * 3 := fun c hc => Nat.mul_le_mul_left _ (by omega)
  have hst : ∀ (q c : Nat) (v : Int32), 1 ≤ c → c < 4 → ∃ v', L6_duel_132 s (nI (4 ^ k)) (pl k) (nI x) K (q + 1) v (nI c) = L6_duel_132 s (nI (4 ^ k)) (pl k) (nI x) K q v' (nI (c + 1)) ∧ v'.toInt = if k % 2 = 0 then max v.toInt (V c) else min v.toInt (V c) := fun q c v h1 h4 => by
    have hbc := hb c h4
    have hvc := hv c h4
    refine ⟨if (if s.1 15 (x + 4 ^ k * c) ≤ v then (0 : Int32) else 1) = pl k then v else s.1 15 (x + 4 ^ k * c), ?_, ?_⟩
    · conv => lhs; unfold L6_duel_132
      simp only [jn_e, bnd_e]
      rw [if_neg (show ¬ (4 : Int32) ≤ nI c from nI_ge (b := 4) h4 (by omega)), pk_mul, nI_add, gi_nI (by omega) (by omega), nI_clamp (by omega), nI_1]
      generalize s.1 15 (x + 4 ^ k * c) = w
      by_cases e : w ≤ v
      · rw [if_pos e, if_pos e]
        by_cases e' : (0 : Int32) = pl k
        · rw [if_pos e', if_pos e']
        · rw [if_neg e', if_neg e']
      · rw [if_neg e, if_neg e]
        by_cases e' : (1 : Int32) = pl k
        · rw [if_pos e', if_pos e']
        · rw [if_neg e', if_neg e']
    · generalize s.1 15 (x + 4 ^ k * c) = w at hvc
      unfold pl
      rw [← hvc]
      by_cases par : k % 2 = 0
      · rw [if_pos par, if_pos par]
        by_cases e : w ≤ v
        · rw [if_pos e, if_pos rfl]
          rw [i_le] at e
          omega
        · rw [if_neg e, if_neg (by decide)]
          rw [i_le] at e
          omega
      · rw [if_neg par, if_neg par]
        by_cases e : w ≤ v
        · rw [if_pos e, if_neg (by decide)]
          rw [i_le] at e
          omega
        · rw [if_neg e, if_pos rfl]
          rw [i_le] at e
          omega
  obtain ⟨q, hq⟩ : ∃ q, FU = q + 1 + 1 + 1 + 1 := ⟨4996, by rw [FU_e]⟩
  obtain ⟨v1, a1, a2⟩ := hst (q + 1 + 1 + 1) 1 (s.1 15 x) (by omega) (by omega)
  obtain ⟨v2, b1', b2'⟩ := hst (q + 1 + 1) 2 v1 (by omega) (by omega)
  obtain ⟨v3, c1, c2⟩ := hst (q + 1) 3 v2 (by omega) (by omega)
  have h0 := hv 0 (by omega)
  rw [Nat.mul_zero, Nat.add_zero] at h0
  refine ⟨v3, ?_, ?_⟩
  · rw [hq]
    refine (show L6_duel_132 s (nI (4 ^ k)) (pl k) (nI x) K (q + 1 + 1 + 1 + 1) (s.1 15 x) 1 = _ from a1).trans (b1'.trans (c1.trans ?_))
    unfold L6_duel_132
    exact if_pos (show (4 : Int32) ≤ nI (3 + 1) by decide)
  · rw [c2, b2', a2, h0]
    by_cases par : k % 2 = 0
    · rw [if_pos par, if_pos par, if_pos par, if_pos par]
    · rw [if_neg par, if_neg par, if_neg par, if_neg par]
theorem m_level {τ : St} {a b T k : Nat} {kd : Nat → Nat} {D : Dk} {K : St → Option (Int32 × St)} {s0 : St} (hk : k < T) (hT : T ≤ 6) (fr : frE τ s0) (ht : tab s0 kd a b T (k + 1) D) : ∃ s', L6_duel_113 (nI (4 ^ k)) (pl k) K FU 0 s0 = K s' ∧ frE τ s' ∧ tab s' kd a b T k D := by
  have hP := p4_le (m := k + 1) (by omega)
  rw [Nat.pow_succ] at hP
  refine up0 (fun q x s => L6_duel_113 (nI (4 ^ k)) (pl k) K q x s) (4 ^ k) (by omega) (fun x s => frE τ s ∧ (∀ y, y < x → (s.1 15 y).toInt = val kd a b (T - k) k (mvL kd k y D)) ∧ ∀ y, x ≤ y → s.1 15 y = s0.1 15 y) (fun o => ∃ s', o = K s' ∧ frE τ s' ∧ tab s' kd a b T k D) ?_ ?_ s0 ⟨fr, fun y hy => absurd hy (Nat.not_lt_zero _), fun _ _ => rfl⟩
  · intro q x s hx hs
    obtain ⟨u1, u2, u3⟩ := hs
    obtain ⟨r, e1, e2⟩ := m_best (s := s) (k := k) (x := x) (V := fun c => val kd a b (T - (k + 1)) (k + 1) (mvD kd (mvL kd k x D) c)) (K := fun (x7_42 : Int32) => gi (nI x) 4096 (bnd (wI s 15 (nI x).toNatClampNeg x7_42) fun σ_43 => bnd (nI x + 1) fun x6_44 => L6_duel_113 (nI (4 ^ k)) (pl k) K q x6_44 σ_43)) (by omega) hx (fun c hc => by
      have hb : 4 ^ k * c ≤ 4 ^ k * 3 := Nat.mul_le_mul_left _ (by omega)
      rw [u3 _ (by omega), ht (x + 4 ^ k * c) (by rw [Nat.pow_succ]; omega), mvL_s k x c D hx hc])
    left
    refine ⟨wI s 15 x r, ⟨⟨fun c h1 h2 h3 => by rw [wI_n _ _ _ h3]; exact u1.1 c h1 h2 h3, u1.2⟩, fun y hy => ?_, fun y hy => ?_⟩, ?_⟩
    · rw [wI_s, upd_a]
      by_cases e : y = x
      · rw [if_pos e, e, e2, show T - k = T - (k + 1) + 1 by omega]
        rfl
      · rw [if_neg e]
        exact u2 y (by omega)
    · rw [wI_s, upd_n _ _ (by omega)]
      exact u3 y (by omega)
    · conv => lhs; unfold L6_duel_113
      rw [if_neg (nI_ge hx (by omega)), gi_nI (by omega) (by omega), bnd_e]
      conv => lhs; arg 7; rw [nI_clamp (show x < 2 ^ 31 by omega)]
      refine e1.trans ?_
      rw [gi_nI (by omega) (by omega), bnd_e, bnd_e, nI_clamp (by omega), nI_1]
  · intro q s hs
    refine ⟨s, ?_, hs.1, hs.2.1⟩
    unfold L6_duel_113
    rw [if_pos (nI_le (Nat.le_refl _) (by omega))]
theorem m_levels {τ : St} {a b T : Nat} {kd : Nat → Nat} {D : Dk} {K : St → Option (Int32 × St)} (hT : T ≤ 6) : ∀ (k f : Nat) (s : St) (y : Int32), k ≤ T → k < f → (0 < k → y = pl (k - 1)) → frE τ s → tab s kd a b T k D → ∃ s', L6_duel_98 K f (nI (4 ^ k)) y s = K s' ∧ frE τ s' ∧ tab s' kd a b T 0 D := by
  intro k
  induction k with
  | zero =>
    intro f s y hk hf hy fr ht
    obtain ⟨q, rfl⟩ : ∃ q, f = q + 1 := ⟨f - 1, by omega⟩
    refine ⟨s, ?_, fr, ht⟩
    unfold L6_duel_98
    exact if_pos (show nI (4 ^ 0) ≤ (1 : Int32) by decide)
  | succ k ih =>
    intro f s y hk hf hy fr ht
    obtain ⟨q, rfl⟩ : ∃ q, f = q + 1 := ⟨f - 1, by omega⟩
    have hP := p4_le (m := k + 1) (by omega)
    have hP0 : 0 < 4 ^ k := Nat.pow_pos (by omega)
    have hPs : 4 ^ (k + 1) = 4 ^ k * 4 := Nat.pow_succ ..
    have hy' : y = pl k := hy (by omega)
    subst hy'
    have flip : ∀ (F : Int32 → Option (Int32 × St)), (if pl k = 0 then F 1 else F 0) = F (pl (k + 1)) := fun F => by
      unfold pl
      by_cases par : k % 2 = 0
      · rw [if_pos par, if_pos rfl, if_neg (by omega)]
      · rw [if_neg par, if_neg (by decide), if_pos (by omega)]
    obtain ⟨s1, e1, f1, t1⟩ := m_level (K := fun (σ_46 : St) => if pl k = 0 then L6_duel_98 K q (nI (4 ^ k)) 1 σ_46 else L6_duel_98 K q (nI (4 ^ k)) 0 σ_46) (by omega) hT fr ht
    obtain ⟨s2, e2, f2, t2⟩ := ih q s1 (pl (k + 1)) (by omega) (by omega) (fun h0 => by
      unfold pl
      by_cases par : k % 2 = 0
      · rw [if_neg (by omega), if_neg (by omega)]
      · rw [if_pos (by omega), if_pos (by omega)]) f1 t1
    refine ⟨s2, ?_, f2, t2⟩
    conv => lhs; unfold L6_duel_98
    simp only [jn_e, bnd_e]
    rw [if_neg (show ¬ nI (4 ^ (k + 1)) ≤ (1 : Int32) from nI_ge (a := 1) (by omega) (by omega)), show (4 : Int32) = nI 4 from rfl, pk_div (by omega) (by omega) (by omega), show 4 ^ (k + 1) / 4 = 4 ^ k by omega]
    refine e1.trans ?_
    exact (flip (fun y => L6_duel_98 K q (nI (4 ^ k)) y s1)).trans e2
theorem e_duel {σ τ : St} (h : Rel σ τ) (x y z : Int32) : Sim (f5_duel σ x y z) (f6_duel τ x y z) := by
  obtain ⟨n, kd, bs, ds, kp, hA, hC, hM⟩ := h.2.2.2.2
  have hn6 := hA.2.1
  have hc := hC.cx hA
  have hm := hM.mx hA
  generalize rpl n kd bs ds = D at hc hm
  have e3 : (3 : Int32).toInt = 3 := by decide
  unfold f5_duel f6_duel
  rw [c_isCard hC.1 hn6, m_isCard hM.1 hn6, b1_s, b1_s]
  rcases ix x n (by omega) with hx | ⟨a, ha, rfl⟩
  · rw [inB_out hx, i00, i00]
    exact Sim.of h _
  rw [inB_nI ha (by omega), i10, i10, c_isCard hC.1 hn6, m_isCard hM.1 hn6, b1_s, b1_s]
  rcases ix y n (by omega) with hy | ⟨b, hb, rfl⟩
  · rw [inB_out hy, i00, i00]
    exact Sim.of h _
  rw [inB_nI hb (by omega), i10, i10]
  by_cases ab : nI a = nI b
  · rw [if_pos ab, if_pos ab]
    exact Sim.of h _
  rw [if_neg ab, if_neg ab, m_inB z 4 3 (by decide), b1_s]
  rcases ix z 4 (by omega) with hz | ⟨t, ht, rfl⟩
  · rw [inB_out hz, i00]
    by_cases c1 : z.toInt < 0
    · rw [if_pos (show z < 0 by rw [i_lt, i_0]; exact c1)]
      exact Sim.of h _
    · rw [if_neg (show ¬ z < 0 by rw [i_lt, i_0]; exact c1), if_neg (show ¬ z ≤ 3 by rw [i_le, e3]; omega)]
      exact Sim.of h _
  rw [inB_nI ht (by omega), i10, if_neg (nI_pos (by omega)), if_pos (show nI t ≤ 3 from nI_le (b := 3) (by omega) (by omega)), m_pow4 (by omega)]
  obtain ⟨r, s', e1, f1, g1⟩ := c_duelOf hc ha hb (show t ≤ 3 by omega)
  obtain ⟨s1, e2, f2, t1⟩ := m_fillT (K := fun (σ_21 : St) => L6_duel_98 (fun (σ_52 : St) => b2 (f6_tell σ_52 (σ_52.1 15 0)) fun r_54 σ_55 => some (r_54, σ_55)) FU (nI (4 ^ (2 * t))) 1 σ_21) hm ha hb (show t ≤ 3 by omega)
  obtain ⟨s2, e4, f3, t2⟩ := m_levels (τ := τ) (K := fun (σ_52 : St) => b2 (f6_tell σ_52 (σ_52.1 15 0)) fun r_54 σ_55 => some (r_54, σ_55)) (T := 2 * t) (by omega) (2 * t) FU s1 1 (Nat.le_refl _) (by rw [FU_e]; omega) (fun h0 => by unfold pl; rw [if_neg (by omega)]) f2 t1
  have hfin : s2.1 15 0 = r := by
    rw [i_eq, g1, t2 0 (by decide)]
    rfl
  rw [e1, b2_s, bnd_e, e2, e4, hfin]
  unfold f6_tell
  rw [bnd_e, b2_s]
  exact Sim.of ((h.scr f1 f3.a).tell r) 1
