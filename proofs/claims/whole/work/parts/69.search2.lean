/-! the search as the reference makes it: rows of columns by number -/
def dgs : Nat → Nat → List Nat
  | 0, _ => []
  | m + 1, x => (x / 3 ^ m % 3) :: dgs m x
def runL (kd : Nat → Nat) (E : Dk) (l : List Nat) : Dk := l.foldl (psD kd) E
def goX (kd : Nat → Nat) (goal : Dk → Bool) (m : Nat) (E : Dk) (x : Nat) : Bool := goal (runL kd E (dgs m x))
theorem dgs_add (m c x : Nat) : ∀ j, j ≤ m → dgs j (c * 3 ^ m + x) = dgs j x
  | 0, _ => rfl
  | j + 1, h => by
    show ((c * 3 ^ m + x) / 3 ^ j % 3) :: dgs j (c * 3 ^ m + x) = (x / 3 ^ j % 3) :: dgs j x
    rw [dgs_add m c x j (by omega)]
    have e : c * 3 ^ m = 3 ^ j * (3 * (c * 3 ^ (m - j - 1))) := by
      rw [show 3 ^ m = 3 ^ j * (3 * 3 ^ (m - j - 1)) by
        rw [Nat.mul_comm 3 (3 ^ (m - j - 1)), ← Nat.pow_succ, ← Nat.pow_add]
        congr 1
        omega, Nat.mul_left_comm c, Nat.mul_left_comm c]
    rw [e, Nat.mul_add_div (Nat.pow_pos (by omega)), Nat.add_comm, Nat.add_mul_mod_self_left]
theorem dgs_s {m c x : Nat} (hc : c < 3) (hx : x < 3 ^ m) : dgs (m + 1) (c * 3 ^ m + x) = c :: dgs m x := by
  show ((c * 3 ^ m + x) / 3 ^ m % 3) :: dgs m (c * 3 ^ m + x) = c :: dgs m x
  rw [dgs_add m c x m (Nat.le_refl _), Nat.mul_comm c, Nat.mul_add_div (Nat.pow_pos (by omega)), Nat.div_eq_of_lt hx, Nat.add_zero, Nat.mod_eq_of_lt hc]
theorem fnd_spec {kd : Nat → Nat} {goal : Dk → Bool} : ∀ (m : Nat) (E : Dk), (fnd kd goal m E = none ∧ ∀ x, x < 3 ^ m → goX kd goal m E x = false) ∨ ∃ x, x < 3 ^ m ∧ fnd kd goal m E = some (dgs m x) ∧ goX kd goal m E x = true ∧ ∀ y, y < x → goX kd goal m E y = false
  | 0, E => by
    unfold fnd
    cases e : goal E with
    | false =>
      left
      refine ⟨rfl, fun x _ => e⟩
    | true =>
      right
      exact ⟨0, by decide, rfl, e, fun y hy => absurd hy (Nat.not_lt_zero _)⟩
  | m + 1, E => by
    have hP : 0 < 3 ^ m := Nat.pow_pos (by omega)
    have hy : ∀ y, y < 3 ^ (m + 1) → y / 3 ^ m < 3 ∧ 3 ^ m * (y / 3 ^ m) + y % 3 ^ m = y ∧ y % 3 ^ m < 3 ^ m ∧ goX kd goal (m + 1) E y = goX kd goal m (psD kd E (y / 3 ^ m)) (y % 3 ^ m) := fun y hy => by
      have h1 : y / 3 ^ m < 3 := by
        rw [Nat.div_lt_iff_lt_mul hP, Nat.mul_comm, ← Nat.pow_succ]
        exact hy
      have h2 := Nat.div_add_mod y (3 ^ m)
      have h3 := Nat.mod_lt y hP
      refine ⟨h1, h2, h3, ?_⟩
      have h4 : dgs (m + 1) y = (y / 3 ^ m) :: dgs m (y % 3 ^ m) := by
        have := dgs_s h1 h3
        rw [Nat.mul_comm, h2] at this
        exact this
      unfold goX
      rw [h4]
      rfl
    have key : ∀ c, c < 3 → (∀ c', c' < c → fnd kd goal m (psD kd E c') = none ∧ ∀ x, x < 3 ^ m → goX kd goal m (psD kd E c') x = false) → (∃ x, x < 3 ^ m ∧ fnd kd goal m (psD kd E c) = some (dgs m x) ∧ goX kd goal m (psD kd E c) x = true ∧ ∀ y, y < x → goX kd goal m (psD kd E c) y = false) → ∃ x, x < 3 ^ (m + 1) ∧ fnd kd goal (m + 1) E = some (dgs (m + 1) x) ∧ goX kd goal (m + 1) E x = true ∧ ∀ y, y < x → goX kd goal (m + 1) E y = false := by
      rintro c hc hn ⟨x, x1, x2, x3, x4⟩
      have hlt : c * 3 ^ m + x < 3 ^ (m + 1) := by
        rw [Nat.pow_succ]
        rcases (show c = 0 ∨ c = 1 ∨ c = 2 by omega) with rfl | rfl | rfl <;> omega
      refine ⟨c * 3 ^ m + x, hlt, ?_, ?_, fun y hyx => ?_⟩
      · rw [dgs_s hc x1]
        exact fnd_some hc (fun c' h => (hn c' h).1) x2
      · unfold goX
        rw [dgs_s hc x1]
        exact x3
      · obtain ⟨h1, h2, h3, h4⟩ := hy y (by omega)
        rw [h4]
        generalize y / 3 ^ m = c' at h1 h2 h4
        generalize y % 3 ^ m = y' at h2 h3 h4
        rcases Nat.lt_trichotomy c' c with e | e | e
        · exact (hn c' e).2 y' h3
        · subst e
          refine x4 y' ?_
          rw [Nat.mul_comm] at h2
          omega
        · exfalso
          generalize 3 ^ m = P at *
          have : P * (c + 1) ≤ P * c' := Nat.mul_le_mul_left _ e
          rw [Nat.mul_add, Nat.mul_one, Nat.mul_comm P c] at this
          omega
    rcases fnd_spec m (psD kd E 0) with n0 | s0
    · rcases fnd_spec m (psD kd E 1) with n1 | s1
      · rcases fnd_spec m (psD kd E 2) with n2 | s2
        · left
          have hall : ∀ c, c < 3 → fnd kd goal m (psD kd E c) = none ∧ ∀ x, x < 3 ^ m → goX kd goal m (psD kd E c) x = false := fun c hc => by
            rcases (show c = 0 ∨ c = 1 ∨ c = 2 by omega) with rfl | rfl | rfl
            · exact n0
            · exact n1
            · exact n2
          refine ⟨fnd_none (fun c hc => (hall c hc).1), fun y hyl => ?_⟩
          obtain ⟨h1, h2, h3, h4⟩ := hy y hyl
          rw [h4]
          exact (hall _ h1).2 _ h3
        · right
          refine key 2 (by omega) (fun c' h => ?_) s2
          rcases (show c' = 0 ∨ c' = 1 by omega) with rfl | rfl
          · exact n0
          · exact n1
      · right
        refine key 1 (by omega) (fun c' h => ?_) s1
        rw [show c' = 0 by omega]
        exact n0
    · right
      exact key 0 (by omega) (fun c' h => absurd h (Nat.not_lt_zero _)) s0
theorem dgs_get (x : Nat) : ∀ (m j : Nat), j < m → (dgs m x).getD j 0 = x / 3 ^ (m - 1 - j) % 3
  | 0, _, h => absurd h (Nat.not_lt_zero _)
  | m + 1, 0, _ => rfl
  | m + 1, j + 1, h => by
    show (dgs m x).getD j 0 = _
    rw [dgs_get x m j (by omega), show m + 1 - 1 - (j + 1) = m - 1 - j by omega]
theorem p3_le {m : Nat} (h : m ≤ 5) : 3 ^ m ≤ 243 := Nat.pow_le_pow_right (n := 3) (i := m) (j := 5) (by omega) h
theorem m_runL {n x : Nat} {kd : Nat → Nat} {x1 x2 x3 x4 x5 : Int32} {K : St → Option (Int32 × St)} (hx : x < 2 ^ 31) : ∀ (m f : Nat) (s : St) (E : Dk), m ≤ 5 → m < f → mD s 7 n kd E → ∃ s', L6_firstRow_33 x1 x2 x3 x4 x5 (nI x) K f (nI (3 ^ m / 3)) s = K s' ∧ frA s s' ∧ mD s' 7 n kd (runL kd E (dgs m x)) := by
  intro m
  induction m with
  | zero =>
    intro f s E hm hf h
    obtain ⟨q, rfl⟩ : ∃ q, f = q + 1 := ⟨f - 1, by omega⟩
    refine ⟨s, ?_, frA.rf _, h⟩
    unfold L6_firstRow_33
    exact if_pos (by decide)
  | succ m ih =>
    intro f s E hm hf h
    obtain ⟨q, rfl⟩ : ∃ q, f = q + 1 := ⟨f - 1, by omega⟩
    have hP : 0 < 3 ^ m := Nat.pow_pos (by omega)
    have hP2 := p3_le (m := m) (by omega)
    have hd : x / 3 ^ m ≤ x := Nat.div_le_self _ _
    obtain ⟨s1, e1, f1, m1⟩ := h.passA (col := x / 3 ^ m % 3) (Nat.mod_lt _ (by omega))
    obtain ⟨s2, e2, f2, m2⟩ := ih q s1 _ (by omega) (by omega) m1
    refine ⟨s2, ?_, f1.tr f2, m2⟩
    conv => lhs; unfold L6_firstRow_33
    rw [show 3 ^ (m + 1) / 3 = 3 ^ m by rw [Nat.pow_succ]; omega, if_neg (nI_nle hP (by omega)), nz_e (nI_ne0 (by omega) (by omega)), pk_div hx hP (by omega), show (3 : Int32) = nI 3 from rfl, pk_rem (by omega) (by omega) (by omega), e1, b1_s, bnd_e, pk_div (by omega) (by omega) (by omega)]
    exact e2
/-- the row that was found is written down from its end -/
theorem m_writeL {r d x : Nat} {x5 : Int32} {K : St → Option (Int32 × St)} {s0 : St} (hr : r < 6) (hd : d ≤ 5) (hx : x < 2 ^ 31) : ∃ s', L6_firstRow_110 (nI r) x5 K FU (nI x) (nI d - 1) s0 = K s' ∧ (∀ c, c ≠ 2 → s'.1 c = s0.1 c) ∧ s'.2 = s0.2 ∧ (∀ i, i < d → s'.1 2 (40 * r + i) = nI ((dgs d x).getD i 0)) ∧ ∀ p, (p < 40 * r ∨ 40 * r + d ≤ p) → s'.1 2 p = s0.1 2 p := by
  refine dn (fun q i s => L6_firstRow_110 (nI r) x5 K q s.1 i s.2) (fun m s => m ≤ d ∧ s.1 = nI (x / 3 ^ (d - m)) ∧ (∀ c, c ≠ 2 → s.2.1 c = s0.1 c) ∧ s.2.2 = s0.2 ∧ (∀ i, m ≤ i → i < d → s.2.1 2 (40 * r + i) = nI (x / 3 ^ (d - 1 - i) % 3)) ∧ ∀ p, (p < 40 * r ∨ 40 * r + d ≤ p) → s.2.1 2 p = s0.1 2 p) (fun o => ∃ s', o = K s' ∧ (∀ c, c ≠ 2 → s'.1 c = s0.1 c) ∧ s'.2 = s0.2 ∧ (∀ i, i < d → s'.1 2 (40 * r + i) = nI ((dgs d x).getD i 0)) ∧ ∀ p, (p < 40 * r ∨ 40 * r + d ≤ p) → s'.1 2 p = s0.1 2 p) ?_ ?_ d (nI x, s0) FU (by rw [FU_e]; omega) ⟨Nat.le_refl _, by rw [Nat.sub_self, Nat.pow_zero, Nat.div_one], fun _ _ => rfl, rfl, fun i h1 h2 => by omega, fun _ _ => rfl⟩
  · intro q i s hs
    obtain ⟨v, s⟩ := s
    obtain ⟨u0, u1, u2, u3, u4, u5⟩ := hs
    dsimp only at u0 u1 u2 u3 u4 u5 ⊢
    subst u1
    have hle : x / 3 ^ (d - (i + 1)) ≤ x := Nat.div_le_self _ _
    left
    refine ⟨(nI (x / 3 ^ (d - i)), wI s 2 (40 * r + i) (nI (x / 3 ^ (d - (i + 1)) % 3))), ⟨by omega, rfl, fun c hc => by rw [wI_n _ _ _ hc]; exact u2 c hc, u3, fun j h1 h2 => ?_, fun p hp => ?_⟩, ?_⟩
    · rw [wI_s, upd_a]
      by_cases e : j = i
      · rw [if_pos (by omega), e, show d - 1 - i = d - (i + 1) by omega]
      · rw [if_neg (by omega)]
        exact u4 j (by omega) h2
    · rw [wI_s, upd_n _ _ (by omega)]
      exact u5 p hp
    · conv => lhs; unfold L6_firstRow_110
      rw [if_neg (nI_pos (by omega)), m_idx, gi_nI (by omega) (by omega), bnd_e, bnd_e, bnd_e, nI_clamp (by omega), show (3 : Int32) = nI 3 from rfl, pk_rem (by omega) (by omega) (by omega), pk_div (by omega) (by omega) (by omega), Nat.div_div_eq_div_mul, ← Nat.pow_succ, show (d - (i + 1)).succ = d - i by omega]
  · intro q s hs
    obtain ⟨v, s⟩ := s
    obtain ⟨u0, u1, u2, u3, u4, u5⟩ := hs
    dsimp only at u0 u1 u2 u3 u4 u5 ⊢
    refine ⟨s, ?_, u2, u3, fun i hi => by rw [u4 i (by omega) hi, dgs_get x d i hi], u5⟩
    unfold L6_firstRow_110
    exact if_pos (by decide)
noncomputable def tstM (τ : St) (x1 x2 : Int32) (A B : Option (Int32 × St)) : Option (Int32 × St) :=
  (if x1 = ((-9)) then
  b1 (f6_isOrdered τ 7 x2) fun r_35 =>
  (if r_35 = 0 then
  B
  else
  A)
  else
  gi x2 25 (
  (if (τ.1 7 x2.toNatClampNeg) = x1 then
  A
  else
  B)))
def goalM (τ : St) (n : Nat) (kd : Nat → Nat) (x1 x2 : Int32) (goal : Dk → Bool) : Prop := ∀ (s : St) (E : Dk) (A B : Option (Int32 × St)), frA τ s → mD s 7 n kd E → tstM s x1 x2 A B = if goal E = true then A else B
def filM (τ τ' : St) (r d : Nat) (l : List Nat) : Prop := ∃ τ1, frA τ τ1 ∧ (∀ c, c ≠ 1 → c ≠ 2 → τ'.1 c = τ1.1 c) ∧ τ'.2 = τ1.2 ∧ τ'.1 1 = upd (τ1.1 1) r (nI d) ∧ (∀ r' i, r' < 6 → r' ≠ r → i < 40 → τ'.1 2 (40 * r' + i) = τ1.1 2 (40 * r' + i)) ∧ ∀ i, i < d → τ'.1 2 (40 * r + i) = nI (l.getD i 0)
theorem m_row16 {τ s0 : St} {n r d : Nat} {kd : Nat → Nat} {D : Dk} {x1 x2 : Int32} {goal : Dk → Bool} {K : St → Option (Int32 × St)} (hm : mD τ 6 n kd D) (hG : goalM τ n kd x1 x2 goal) (hr : r < 6) (hd : d ≤ 5) (f0 : frA τ s0) :
    (∃ s', fnd kd goal d D = none ∧ L6_firstRow_16 x1 x2 (nI r) (nI (3 ^ d)) (nI d) K FU 0 s0 = K s' ∧ frA τ s') ∨ ∃ s' l, fnd kd goal d D = some l ∧ L6_firstRow_16 x1 x2 (nI r) (nI (3 ^ d)) (nI d) K FU 0 s0 = some (nI d, s') ∧ filM τ s' r d l := by
  have hP := p3_le hd
  refine up0 (fun q x s => L6_firstRow_16 x1 x2 (nI r) (nI (3 ^ d)) (nI d) K q x s) (3 ^ d) (by omega) (fun x s => frA τ s ∧ ∀ y, y < x → goX kd goal d D y = false) (fun o => (∃ s', fnd kd goal d D = none ∧ o = K s' ∧ frA τ s') ∨ ∃ s' l, fnd kd goal d D = some l ∧ o = some (nI d, s') ∧ filM τ s' r d l) ?_ ?_ s0 ⟨f0, fun y hy => absurd hy (Nat.not_lt_zero _)⟩
  · intro q x s hx hs
    obtain ⟨fr, hn⟩ := hs
    obtain ⟨s1, e1, f1, m1⟩ := (hm.fr fr).aside
    obtain ⟨s2, e2, f2, m2⟩ := m_runL (x := x) (x1 := x1) (x2 := x2) (x3 := nI r) (x4 := nI (3 ^ d)) (x5 := nI d) (K := fun σ_15 => tstM σ_15 x1 x2 (b1 (f6_lays σ_15 (nI r) (nI d)) fun σ_24 => bnd (nI d - 1) fun x8_25 => L6_firstRow_110 (nI r) (nI d) (fun (σ_33 : St) => some (nI d, σ_33)) FU (nI x) x8_25 σ_24) (bnd (nI x + 1) fun x6_19 => L6_firstRow_16 x1 x2 (nI r) (nI (3 ^ d)) (nI d) K q x6_19 σ_15)) (by omega) d FU s1 D hd (by rw [FU_e]; omega) m1
    have fr2 := (fr.tr f1).tr f2
    have hst : L6_firstRow_16 x1 x2 (nI r) (nI (3 ^ d)) (nI d) K (q + 1) (nI x) s = if goX kd goal d D x = true then (b1 (f6_lays s2 (nI r) (nI d)) fun σ_24 => bnd (nI d - 1) fun x8_25 => L6_firstRow_110 (nI r) (nI d) (fun (σ_33 : St) => some (nI d, σ_33)) FU (nI x) x8_25 σ_24) else L6_firstRow_16 x1 x2 (nI r) (nI (3 ^ d)) (nI d) K q (nI (x + 1)) s2 := by
      conv => lhs; unfold L6_firstRow_16
      simp only [jn_e]
      rw [if_neg (nI_ge hx (by omega)), e1, b1_s, bnd_e, show (3 : Int32) = nI 3 from rfl, pk_div (by omega) (by omega) (by omega)]
      refine e2.trans ?_
      rw [hG s2 _ _ _ fr2 m2, bnd_e, nI_1]
      rfl
    cases eg : goX kd goal d D x with
    | false =>
      left
      refine ⟨s2, ⟨fr2, fun y hy => ?_⟩, by rw [hst, eg]; rfl⟩
      by_cases e : y = x
      · rw [e]; exact eg
      · exact hn y (by omega)
    | true =>
      right
      right
      have ef : fnd kd goal d D = some (dgs d x) := by
        rcases fnd_spec (kd := kd) (goal := goal) d D with ⟨_, a⟩ | ⟨x', a1, a2, a3, a4⟩
        · rw [a x hx] at eg
          cases eg
        · rcases Nat.lt_trichotomy x x' with e | e | e
          · rw [a4 x e] at eg
            cases eg
          · rw [e]; exact a2
          · rw [hn x' e] at a3
            cases a3
      obtain ⟨s3, e3, g1, g2, g3, g4⟩ := m_writeL (r := r) (d := d) (x := x) (x5 := nI d) (K := fun (σ_33 : St) => some (nI d, σ_33)) (s0 := wA (wI s2 1 r (nI d)) 2 (flF (s2.1 2) (40 * r) 40 0)) hr hd (by omega)
      refine ⟨s3, _, ef, ?_, s2, fr2, fun c h1 h2 => ?_, g2, ?_, fun r' i h1 h2 h3 => ?_, g3⟩
      · rw [hst, eg, if_pos rfl, m_lays hr, b1_s, bnd_e, e3]
      · rw [g1 c h2, wA_n _ _ h2, wI_n _ _ _ h1]
      · rw [g1 1 (by omega), wA_n _ _ (by omega), wI_s]
      · rw [g4 _ (rowne h2 h3 (by omega)), wA_s]
        exact flF_ne h2 h3 (Nat.le_refl _)
  · intro q s hs
    obtain ⟨fr, hn⟩ := hs
    left
    refine ⟨s, ?_, ?_, fr⟩
    · rcases fnd_spec (kd := kd) (goal := goal) d D with ⟨a, _⟩ | ⟨x', a1, a2, a3, a4⟩
      · exact a
      · rw [hn x' a1] at a3
        cases a3
    · unfold L6_firstRow_16
      rw [if_pos (nI_le (Nat.le_refl _) (by omega))]
theorem m_first {τ : St} {n r : Nat} {kd : Nat → Nat} {D : Dk} {x1 x2 : Int32} {goal : Dk → Bool} (hm : mD τ 6 n kd D) (hG : goalM τ n kd x1 x2 goal) (hr : r < 6) :
    (∃ s', srch kd goal D 6 0 = none ∧ f6_firstRow τ x1 x2 (nI r) = some (-9, s') ∧ frA τ s') ∨ ∃ s' d l, srch kd goal D 6 0 = some (d, l) ∧ f6_firstRow τ x1 x2 (nI r) = some (nI d, s') ∧ filM τ s' r d l := by
  unfold f6_firstRow
  have main : ∀ (j i f : Nat) (s : St), i + j = 6 → j < f → frA τ s → (∃ s', srch kd goal D j i = none ∧ L6_firstRow_6 x1 x2 (nI r) (fun σ_41 => some (-9, σ_41)) f (nI (3 ^ i)) (nI i) s = some (-9, s') ∧ frA τ s') ∨ ∃ s' d l, srch kd goal D j i = some (d, l) ∧ L6_firstRow_6 x1 x2 (nI r) (fun σ_41 => some (-9, σ_41)) f (nI (3 ^ i)) (nI i) s = some (nI d, s') ∧ filM τ s' r d l := by
    intro j
    induction j with
    | zero =>
      intro i f s h1 h2 fr
      obtain ⟨q, rfl⟩ : ∃ q, f = q + 1 := ⟨f - 1, by omega⟩
      rw [Nat.add_zero] at h1
      subst h1
      left
      refine ⟨s, rfl, ?_, fr⟩
      unfold L6_firstRow_6
      exact if_pos (show (6 : Int32) ≤ nI 6 by decide)
    | succ j ih =>
      intro i f s h1 h2 fr
      obtain ⟨q, rfl⟩ : ∃ q, f = q + 1 := ⟨f - 1, by omega⟩
      have hst : L6_firstRow_6 x1 x2 (nI r) (fun σ_41 => some (-9, σ_41)) (q + 1) (nI (3 ^ i)) (nI i) s = L6_firstRow_16 x1 x2 (nI r) (nI (3 ^ i)) (nI i) (fun σ_37 => L6_firstRow_6 x1 x2 (nI r) (fun σ_41 => some (-9, σ_41)) q (nI (3 ^ (i + 1))) (nI (i + 1)) σ_37) FU 0 s := by
        conv => lhs; unfold L6_firstRow_6
        simp only [bnd_e]
        rw [if_neg (show ¬ (6 : Int32) ≤ nI i from nI_ge (b := 6) (by omega) (by omega)), show (3 : Int32) = nI 3 from rfl, pk_mul, ← Nat.pow_succ, nI_1]
      rw [hst]
      rcases m_row16 (K := fun σ_37 => L6_firstRow_6 x1 x2 (nI r) (fun σ_41 => some (-9, σ_41)) q (nI (3 ^ (i + 1))) (nI (i + 1)) σ_37) hm hG hr (show i ≤ 5 by omega) fr with ⟨s', a1, a2, a3⟩ | ⟨s', l, a1, a2, a3⟩
      · rw [a2]
        simp only [srch, a1]
        exact ih (i + 1) q s' (by omega) (by omega) a3
      · right
        refine ⟨s', i, l, ?_, a2, a3⟩
        simp only [srch, a1]
  exact main 6 0 FU τ rfl (by rw [FU_e]; omega) (frA.rf _)
/-- both seek alike -/
theorem e_seek {σ σ1 τ : St} (h : Rel σ τ) {n r : Nat} {kd : Nat → Nat} {D : Dk} {x1 x2 : Int32} {goal : Dk → Bool} (hc : CX σ n kd D) (hm : mD τ 6 n kd D) (f1 : frS σ σ1) (hG : goalC σ1 n D goal) (hG2 : goalM τ n kd x1 x2 goal) (hr : r < 6) :
    Sim (b2 (f5_soughtInto σ1 (nI r)) fun r σ => some (r, σ)) (b2 (f6_firstRow τ x1 x2 (nI r)) fun r σ => some (r, σ)) := by
  obtain ⟨s', fr, q⟩ := c_seek (hc.fr f1) hG
  unfold f5_soughtInto
  rcases q with ⟨a1, a2⟩ | ⟨d, l, a0, a1, a2, a3, a4⟩
  · rcases m_first hm hG2 hr with ⟨t', b1', b2', b3⟩ | ⟨t', d', l', b1', _⟩
    · rw [a2, b2', b2_s, b2_s, if_pos rfl, b2_s]
      exact Sim.of (h.scr (f1.tr fr.1) b3) _
    · rw [a1] at b1'
      cases b1'
  · rcases m_first hm hG2 hr with ⟨t', b1', b2', b3⟩ | ⟨t', d', l', b1', b2', b3⟩
    · rw [a2] at b1'
      cases b1'
    · rw [a2] at b1'
      obtain ⟨rfl, rfl⟩ := Prod.mk.inj (Option.some.inj b1')
      obtain ⟨τ1, g0, g1, g2, g3, g4, g5⟩ := b3
      have hR := h.scr (f1.tr fr.1) g0
      obtain ⟨σ2, e4, u1, u2, u3, u4, u5⟩ := c_fill (σ := s') (r := r) (m := d) (a := 23) hR.sh1 hr (by show d ≤ 5; omega) (by omega) (by decide) (by decide)
      rw [a3, b2', b2_s, b2_s, if_neg (nI_ne9 d (by omega)), e4, b1_s, b2_s]
      refine Sim.of (hR.fill hr (show d ≤ 40 by omega) u1 u2 u3 u5 g1 g2 g3 g4 (fun i hi => ?_)) _
      rw [u4 i hi, a4 i hi, g5 i hi]
theorem e_fewest {σ τ : St} (h : Rel σ τ) (x y z : Int32) : Sim (f5_fewest σ x y z) (f6_fewest τ x y z) := by
  obtain ⟨n, kd, bs, ds, kp, hA, hC, hM⟩ := h.2.2.2.2
  have hn6 := hA.2.1
  have hc := hC.cx hA
  have hm := hM.mx hA
  generalize rpl n kd bs ds = D at hc hm
  unfold f5_fewest f6_fewest
  rw [c_isCard hC.1 hn6, m_isCard hM.1 hn6, b1_s, b1_s, hM.1]
  rcases ix x n (by omega) with hx | ⟨i, hi, rfl⟩
  · rw [inB_out hx, i00, i00]
    exact Sim.of h _
  rw [inB_nI hi (by omega), i10, i10, c_isCard hC.1 hn6, b1_s, m_place y (m := n) (by omega), b1_s]
  rcases ix y n (by omega) with hy | ⟨q, hq, rfl⟩
  · rw [inB_out hy, i00, i00]
    exact Sim.of h _
  rw [inB_nI hq (by omega), i10, i10, c_isRow, m_isRow, b1_s, b1_s]
  rcases ix z 6 (by omega) with hz | ⟨r, hr, rfl⟩
  · rw [inB_out hz, i00, i00]
    exact Sim.of h _
  rw [inB_nI hr (by omega), i10, i10]
  unfold f4_wantPlace
  simp only [bnd_e]
  rw [b1_s]
  refine e_seek (goal := fun E => decide (E.1.getD q 0 = i)) h hc hm ⟨fun c hc' => by rw [wI_n _ _ _ (by omega), wI_n _ _ _ (by omega), wI_n _ _ _ (by omega)], rfl⟩ ?_ ?_ hr
  · intro σ' E d fr hd ho hf hl
    show tst σ' (nI d) (nI E.2.2) = some (bI (decide (E.1.getD q 0 = i)), σ')
    have e2 : σ'.1 21 2 = 1 := by rw [fr.2]; rfl
    have e3 : σ'.1 21 3 = nI i := by rw [fr.2]; rfl
    have e4 : σ'.1 21 4 = nI q := by rw [fr.2]; rfl
    have hlt := ho.2.2.1 _ (getD_m (l := E.1) (i := q) (by rw [ho.1]; exact hq))
    unfold tst
    rw [e2, e3, e4, i10, gi_nI hd (by omega), gi_nI (by omega) (by omega), nI_clamp (by omega), nI_clamp (by omega), hl q hq]
    by_cases e : E.1.getD q 0 = i
    · rw [if_pos (by rw [e]), decide_eq_true e]
      rfl
    · rw [if_neg (by rw [nI_eq (by omega) (by omega)]; exact e), decide_eq_false e]
      rfl
  · intro s E A B fr hs
    show tstM s (nI i) (nI q) A B = if decide (E.1.getD q 0 = i) = true then A else B
    have hlt := hs.2.2.2.2.2.2.1 _ (getD_m (l := E.1) (i := q) (by rw [hs.2.2.2.2.1]; exact hq))
    have hl := hs.2.2.2.1.1 q hq
    rw [Nat.zero_add] at hl
    unfold tstM
    rw [if_neg (nI_ne9 i (by omega)), gi_nI (by omega) (by omega), nI_clamp (by omega), hl]
    by_cases e : E.1.getD q 0 = i
    · rw [if_pos (by rw [e]), decide_eq_true e, if_pos rfl]
    · rw [if_neg (by rw [nI_eq (by omega) (by omega)]; exact e), decide_eq_false e, if_neg (by decide)]
def srtB (kd : Nat → Nat) (E : Dk) (col i : Nat) : Bool := decide (i = 0 ∨ pkt kd E.2.1 E.2.2 col (E.1.getD (i - 1) 0) ≤ pkt kd E.2.1 E.2.2 col (E.1.getD i 0))
theorem pkt_le {n : Nat} {kd : Nat → Nat} {E : Dk} (h : okD n E) {col i : Nat} (hc : col < 3) (hi : i < n) : pkt kd E.2.1 E.2.2 col (E.1.getD i 0) ≤ 10 :=
  rdg_le (fun c hc' => h.2.2.2.1 _ (by have := h.2.2.1 _ (getD_m (l := E.1) (i := i) (by rw [h.1]; exact hi)); omega)) hc
theorem e_order {σ τ : St} (h : Rel σ τ) (x y : Int32) : Sim (f5_order σ x y) (f6_order τ x y) := by
  obtain ⟨n, kd, bs, ds, kp, hA, hC, hM⟩ := h.2.2.2.2
  have hn6 := hA.2.1
  have hc := hC.cx hA
  have hm := hM.mx hA
  generalize rpl n kd bs ds = D at hc hm
  unfold f5_order f6_order
  rw [c_isColumn, m_isColumn, b1_s, b1_s]
  rcases ix x 3 (by omega) with hx | ⟨col, hcol, rfl⟩
  · rw [inB_out hx, i00, i00]
    exact Sim.of h _
  rw [inB_nI hcol (by omega), i10, i10, c_isRow, m_isRow, b1_s, b1_s]
  rcases ix y 6 (by omega) with hy | ⟨r, hr, rfl⟩
  · rw [inB_out hy, i00, i00]
    exact Sim.of h _
  rw [inB_nI hr (by omega), i10, i10, hC.1, hM.1]
  by_cases c0 : n = 0
  · subst c0
    rw [if_pos (by rfl), if_pos (by rfl)]
    exact Sim.of h _
  rw [if_neg (nI_ne0 (by omega) (by omega)), if_neg (nI_ne0 (by omega) (by omega))]
  unfold f4_wantOrder
  simp only [bnd_e]
  rw [b1_s]
  refine e_seek (goal := fun E => allB (srtB kd E col) n) h hc hm ⟨fun c hc' => by rw [wI_n _ _ _ (by omega), wI_n _ _ _ (by omega)], rfl⟩ ?_ ?_ hr
  · intro σ' E d fr hd ho hf hl
    show tst σ' (nI d) (nI E.2.2) = some (bI (allB (srtB kd E col) n), σ')
    have e2 : σ'.1 21 2 = 0 := by rw [fr.2]; rfl
    have e5 : σ'.1 21 5 = nI col := by rw [fr.2]; rfl
    have f1 : frS σ σ' := ⟨fun c hc' => by rw [fr.1.1 c hc', wI_n _ _ _ (by omega), wI_n _ _ _ (by omega)], fr.1.2⟩
    have hcx : CX σ' n kd D := hc.fr f1
    have hio : f4_inOrder σ' (24 + d) (nI E.2.2) = some (bI (allB (srtB kd E col) n)) := by
      unfold f4_inOrder
      refine up0 (fun q i s => L4_inOrder_6 σ' (24 + d) (nI E.2.2) (some 1) q s i) n (by omega) (fun i s => s = nI (if i = 0 then 0 else pkt kd E.2.1 E.2.2 col (E.1.getD (i - 1) 0)) ∧ allB (srtB kd E col) i = true) (fun o => o = some (bI (allB (srtB kd E col) n))) ?_ ?_ 0 ⟨rfl, rfl⟩
      · intro q i s hi hs
        obtain ⟨hs1, hs2⟩ := hs
        subst hs1
        have hlt := ho.2.2.1 _ (getD_m (l := E.1) (i := i) (by rw [ho.1]; exact hi))
        have hrb := c_readsBehind hcx hlt hcol ho.2.2.2.2
        rw [← hf] at hrb
        have hpk := pkt_le (kd := kd) ho hcol hi
        have hpk2 : (if i = 0 then 0 else pkt kd E.2.1 E.2.2 col (E.1.getD (i - 1) 0)) ≤ 10 := by
          split
          · omega
          · exact pkt_le (kd := kd) ho hcol (by omega)
        have hu : L4_inOrder_6 σ' (24 + d) (nI E.2.2) (some 1) (q + 1) (nI (if i = 0 then 0 else pkt kd E.2.1 E.2.2 col (E.1.getD (i - 1) 0))) (nI i) = if nI (if i = 0 then 0 else pkt kd E.2.1 E.2.2 col (E.1.getD (i - 1) 0)) ≤ nI (pkt kd E.2.1 E.2.2 col (E.1.getD i 0)) then L4_inOrder_6 σ' (24 + d) (nI E.2.2) (some 1) q (nI (pkt kd E.2.1 E.2.2 col (E.1.getD i 0))) (nI (i + 1)) else some 0 := by
          conv => lhs; unfold L4_inOrder_6
          rw [hcx.1, if_neg (nI_ge hi (by omega)), lnC_lies hd, gi_nI (by omega) (by omega), nI_clamp (by omega), hl i hi, e5, hrb, b1_s, bnd_e, nI_1]
        by_cases e : (if i = 0 then 0 else pkt kd E.2.1 E.2.2 col (E.1.getD (i - 1) 0)) ≤ pkt kd E.2.1 E.2.2 col (E.1.getD i 0)
        · left
          refine ⟨nI (pkt kd E.2.1 E.2.2 col (E.1.getD i 0)), ⟨by rw [if_neg (by omega)]; rfl, ?_⟩, ?_⟩
          · show (allB (srtB kd E col) i && srtB kd E col i) = true
            rw [hs2, Bool.true_and]
            unfold srtB
            rw [decide_eq_true_iff]
            by_cases e0 : i = 0
            · exact Or.inl e0
            · rw [if_neg e0] at e
              exact Or.inr e
          · rw [hu, if_pos (nI_le e (by omega))]
        · right
          rw [hu, if_neg (nI_ge (by omega) (by omega)), allB_f (i := i) ?_ n hi]
          · rfl
          · unfold srtB
            rw [decide_eq_false_iff_not]
            intro q'
            rcases q' with e0 | e0
            · rw [if_pos e0] at e
              omega
            · by_cases e1 : i = 0
              · rw [if_pos e1] at e
                omega
              · rw [if_neg e1] at e
                exact e e0
      · intro q s hs
        rw [hs.2]
        unfold L4_inOrder_6
        rw [hcx.1, if_pos (nI_le (Nat.le_refl _) (by omega))]
        rfl
    unfold tst
    rw [e2, i00, gi_nI hd (by omega), nI_clamp (by omega), hio, b1_s]
    cases allB (srtB kd E col) n
    · exact bz_0 _
    · exact bz_1 _
  · intro s E A B fr hs
    show tstM s (-9) (nI col) A B = if allB (srtB kd E col) n = true then A else B
    have ho := hs.2.2.2.2
    have hl : ∀ i, i < n → s.1 7 i = nI (E.1.getD i 0) := fun i hi => by
      have := hs.2.2.2.1.1 i hi
      rw [Nat.zero_add] at this
      exact this
    have hio : f6_isOrdered s 7 (nI col) = some (bI (allB (srtB kd E col) n)) := by
      unfold f6_isOrdered
      refine up (fun q i st => L6_isOrdered_5 s 7 (nI col) (fun x => bz x (some x)) q st i) n (fun i st => 1 ≤ i ∧ st = bI (allB (srtB kd E col) i)) (fun o => o = some (bI (allB (srtB kd E col) n))) ?_ ?_ (n - 1) 1 1 FU (by omega) (by rw [FU_e]; omega) ⟨Nat.le_refl _, rfl⟩
      · intro q i st hi hs'
        obtain ⟨h1, rfl⟩ := hs'
        have hlt := ho.2.2.1 _ (getD_m (l := E.1) (i := i) (by rw [ho.1]; exact hi))
        have hlt2 := ho.2.2.1 _ (getD_m (l := E.1) (i := i - 1) (by rw [ho.1]; omega))
        have hpk := pkt_le (kd := kd) ho hcol hi
        have hpk2 := pkt_le (kd := kd) (i := i - 1) ho hcol (by omega)
        left
        refine ⟨_, ⟨by omega, rfl⟩, ?_⟩
        conv => lhs; unfold L6_isOrdered_5
        simp only [jn_e, bnd_e]
        rw [hs.1, if_neg (nI_ge hi (by omega)), show nI i - 1 = nI (i - 1) from pk_sub (b := 1) h1, show lnM 7 = 25 from rfl, gi_nI (by omega) (by omega), nI_clamp (by omega), hl _ (by omega), m_readOn hs (Or.inr rfl) hlt2 hcol, b1_s, gi_nI (by omega) (by omega), nI_clamp (by omega), hl i hi, m_readOn hs (Or.inr rfl) hlt hcol, b1_s, nI_1]
        show _ = L6_isOrdered_5 s 7 (nI col) (fun x => bz x (some x)) q (bI (allB (srtB kd E col) i && srtB kd E col i)) (nI (i + 1))
        cases allB (srtB kd E col) i
        · rw [show bI false = 0 from rfl, i00, Bool.false_and]
          rfl
        · rw [show bI true = 1 from rfl, i10, Bool.true_and]
          unfold srtB
          by_cases e : pkt kd E.2.1 E.2.2 col (E.1.getD i 0) < pkt kd E.2.1 E.2.2 col (E.1.getD (i - 1) 0)
          · rw [if_pos (nI_lt e (by omega)), decide_eq_false (by omega)]
            rfl
          · rw [if_neg (nI_nlt (by omega) (by omega)), decide_eq_true (by omega)]
            rfl
      · intro q st hs'
        obtain ⟨h1, rfl⟩ := hs'
        unfold L6_isOrdered_5
        rw [hs.1, if_pos (nI_le (Nat.le_refl _) (by omega))]
        cases allB (srtB kd E col) n
        · exact bz_0 _
        · exact bz_1 _
    unfold tstM
    rw [if_pos rfl, hio, b1_s]
    cases allB (srtB kd E col) n
    · rw [show bI false = 0 from rfl, i00, if_neg (by decide)]
    · rw [show bI true = 1 from rfl, i10, if_pos rfl]
