/-! reading a text -/
def kOf (x : Int32) : Int32 := if x = 99 then 0 else if x = 100 then 3 else if x = 109 then 5 else if x = 116 then 4 else if x = 119 then 2 else if x = 120 then 1 else -9
theorem m_kindOf (x : Int32) : f6_kindOf x = some (kOf x) := by
  unfold f6_kindOf kOf
  repeat (first | rfl | (split))
theorem kOf_sLet : ∀ i, i < 6 → kOf (sLet i) = nI i := by decide
theorem kOf_none {x : Int32} (h : ∀ j, j < 6 → ¬ sLet j = x) : kOf x = -9 := by
  have h0 : ¬ x = 99 := fun e => h 0 (by omega) e.symm
  have h1 : ¬ x = 120 := fun e => h 1 (by omega) e.symm
  have h2 : ¬ x = 119 := fun e => h 2 (by omega) e.symm
  have h3 : ¬ x = 100 := fun e => h 3 (by omega) e.symm
  have h4 : ¬ x = 116 := fun e => h 4 (by omega) e.symm
  have h5 : ¬ x = 109 := fun e => h 5 (by omega) e.symm
  unfold kOf
  rw [if_neg h0, if_neg h3, if_neg h5, if_neg h4, if_neg h2, if_neg h1]
theorem kOf_cases (x : Int32) : kOf x = -9 ∨ ∃ a, a < 6 ∧ kOf x = nI a := by
  unfold kOf
  repeat (first | exact Or.inl rfl | exact Or.inr ⟨0, by omega, rfl⟩ | exact Or.inr ⟨1, by omega, rfl⟩ | exact Or.inr ⟨2, by omega, rfl⟩ | exact Or.inr ⟨3, by omega, rfl⟩ | exact Or.inr ⟨4, by omega, rfl⟩ | exact Or.inr ⟨5, by omega, rfl⟩ | split)
theorem nI_ne9 (p : Nat) (h : p < 2147483648) : ¬ nI p = -9 := by
  intro e
  have := congrArg Int32.toInt e
  rw [i_lit p h, show (-9 : Int32).toInt = -9 from by decide] at this
  omega
theorem c_kindBy (σ : St) (x : Int32) : f2_kindBy σ x = some (kOf x) := by
  unfold f2_kindBy
  refine up0 (fun q i (_ : Unit) => L2_kindBy_2 σ x (some (-9)) q i) 6 (by omega) (fun i _ => ∀ j, j < i → ¬ sLet j = x) (fun o => o = some (kOf x)) ?_ ?_ () (fun j hj => absurd hj (by omega))
  · intro q i _ hi hP
    by_cases c : sLet i = x
    · right
      unfold L2_kindBy_2
      rw [show (6 : Int32) = nI 6 from rfl, if_neg (nI_ge hi (by omega)), gi_nI hi (by omega), nI_clamp (by omega), if_pos c, ← c, kOf_sLet i hi]
    · left
      refine ⟨(), fun j hj => ?_, ?_⟩
      · by_cases e : j = i
        · rw [e]; exact c
        · exact hP j (by omega)
      · conv => lhs; unfold L2_kindBy_2
        rw [show (6 : Int32) = nI 6 from rfl, if_neg (nI_ge hi (by omega)), gi_nI hi (by omega), nI_clamp (by omega), if_neg c, bnd_e, nI_1]
  · intro q _ hP
    unfold L2_kindBy_2
    rw [show (6 : Int32) = nI 6 from rfl, if_pos (nI_le (Nat.le_refl _) (by omega)), kOf_none hP]
def AG (σ0 τ0 σ τ : St) : Prop := (∀ c, c ≠ 10 → c ≠ 11 → c ≠ 12 → σ.1 c = σ0.1 c) ∧ σ.2 = σ0.2 ∧ (∀ c, c ≠ 0 → c ≠ 12 → c ≠ 13 → τ.1 c = τ0.1 c) ∧ (∀ k, k ≠ 17 → τ.1 0 k = τ0.1 0 k) ∧ τ.2 = τ0.2
def RG (σ0 τ0 : St) (a b : Nat) (σ τ : St) : Prop := AG σ0 τ0 σ τ ∧ (∀ i, i < a → σ.1 11 i = τ.1 12 i ∧ ∃ q, q < 6 ∧ σ.1 11 i = nI q) ∧ (∀ k, k < b → σ.1 12 k = τ.1 13 k ∧ ∃ q, q ≤ 9 ∧ σ.1 12 k = nI q)
def RQ (σ0 τ0 : St) (x y : Option (Int32 × St)) : Prop := ∃ r σ τ, x = some (r, σ) ∧ y = some (r, τ) ∧ AG σ0 τ0 σ τ ∧ (r = -9 → ∃ s, 2 ≤ s ∧ s ≤ 6 ∧ σ.1 10 2 = nI s ∧ τ.1 0 17 = nI s ∧ RG σ0 τ0 s (3 * s) σ τ)
theorem RQ.at {σ0 τ0 σ τ : St} (h : AG σ0 τ0 σ τ) (p : Nat) (hp : p < 2147483648) : RQ σ0 τ0 (some (nI p, σ)) (some (nI p, τ)) := ⟨_, _, _, rfl, rfl, h, fun e => absurd e (nI_ne9 p hp)⟩
def kRC (n : Nat) : Int32 → St → Option (Int32 × St) := fun x4 σ => (if x4 < 3 then some (nI n, σ) else (if 2 ≤ (σ.1 10 2) then some ((-9), σ) else some (nI n, σ)))
def kRM (n : Nat) : St → Option (Int32 × St) := fun σ => (if 2 ≤ (σ.1 0 17) then some ((-9), σ) else some (nI n, σ))
theorem digit {x : Int32} : (¬ x - 48 < 0 ∧ x - 48 < 10 ↔ 48 ≤ x.toInt ∧ x.toInt ≤ 57) ∧ (48 ≤ x.toInt ∧ x.toInt ≤ 57 → ∃ q : Nat, q ≤ 9 ∧ x - 48 = nI q) := by
  have e48 : (48 : Int32).toInt = 48 := by decide
  have e10 : (10 : Int32).toInt = 10 := by decide
  have hr := i_rng x
  have hfw : 48 ≤ x.toInt ∧ x.toInt ≤ 57 → (x - 48).toInt = x.toInt - 48 := fun h => by
    rw [i_sub (by omega) (by omega), e48]
  refine ⟨⟨fun h => ?_, fun h => ?_⟩, fun h => ?_⟩
  · obtain ⟨h1, h2⟩ := h
    rw [i_lt, i_0] at h1
    rw [i_lt, e10] at h2
    by_cases c : -2147483648 ≤ x.toInt - 48
    · rw [i_sub (by omega) (by omega), e48] at h1 h2
      omega
    · have e : (x - 48).toInt = x.toInt - 48 + 4294967296 := by
        rw [Int32.toInt_sub, e48]
        rw [show ((2 : Nat) ^ 32) = 4294967296 from rfl, ← Int.add_bmod_right (x.toInt - 48) 4294967296]
        exact Int.bmod_eq_of_le (by omega) (by omega)
      rw [e] at h1 h2
      omega
  · have e := hfw h
    exact ⟨by rw [i_lt, i_0, e]; omega, by rw [i_lt, e10, e]; omega⟩
  · have e := hfw h
    refine ⟨(x.toInt - 48).toNat, by omega, ?_⟩
    rw [i_eq, e, i_lit _ (by omega)]
    omega
/-- three figures of a card -/
theorem rd_dig {σ0 τ0 : St} {t n : Nat} (h0 : shf σ0 4 60 4) (ht : t < 4) (hn : n ≤ 60) (hs : σ0.1 6 t = nI n) (hc : ∀ i, i < n → σ0.1 5 (60 * t + i) = τ0.1 4 (60 * t + i)) {s : Nat} (hs6 : s < 6) {kk : Int32 → St → Option (Int32 × St)} :
    ∀ (j c p : Nat) (σ τ : St) (fc fm : Nat), c + j = 3 → 1 ≤ p → p ≤ n → n < p + fc → j < fm → σ.1 10 2 = nI (s + 1) → τ.1 0 17 = nI s → RG σ0 τ0 (s + 1) (3 * s + c) σ τ →
    (∀ (σ τ : St) (fc : Nat), p + j ≤ n → n < p + j + fc → σ.1 10 2 = nI (s + 1) → τ.1 0 17 = nI s → RG σ0 τ0 (s + 1) (3 * s + 3) σ τ → RQ σ0 τ0 (L2_faultOf_17 (nI t) (nI n) (kRC n) fc 3 (nI (p + j)) σ) (kk (nI (p + j - 1)) τ)) →
    RQ σ0 τ0 (L2_faultOf_17 (nI t) (nI n) (kRC n) fc (nI c) (nI p) σ) (L6_reads_77 (nI t) (nI n) kk fm (nI (p - 1)) (nI c) τ) := by
  intro j
  induction j with
  | zero =>
    intro c p σ τ fc fm hcj hp1 hp hfc hfm e1 e2 hG hk
    obtain ⟨q, rfl⟩ : ∃ q, fm = q + 1 := ⟨fm - 1, by omega⟩
    have hc3 : c = 3 := by omega
    subst hc3
    have := hk σ τ fc (by omega) (by omega) e1 e2 hG
    conv => rhs; unfold L6_reads_77
    rw [if_pos (by decide)]
    exact this
  | succ j ih =>
    intro c p σ τ fc fm hcj hp1 hp hfc hfm e1 e2 hG hk
    obtain ⟨q, rfl⟩ : ∃ q, fm = q + 1 := ⟨fm - 1, by omega⟩
    obtain ⟨f, rfl⟩ : ∃ f, fc = f + 1 := ⟨fc - 1, by omega⟩
    have hG0 := hG
    obtain ⟨⟨g1, g2, g3, g4, g5⟩, gk, gf⟩ := hG
    have hsh : shf σ 4 60 4 := ⟨h0.1, h0.2.1, h0.2.2.1, by rw [g1 4 (by omega) (by omega) (by omega)]; exact h0.2.2.2.1, h0.2.2.2.2⟩
    conv => rhs; unfold L6_reads_77
    conv => lhs; unfold L2_faultOf_17
    rw [if_neg (show ¬ (3 : Int32) ≤ nI c from nI_ge (b := 3) (by omega) (by omega)), bnd_e, show nI (p - 1) + 1 = nI p by rw [nI_1, show p - 1 + 1 = p by omega]]
    by_cases cp : p = n
    · subst cp
      rw [if_pos (nI_le (Nat.le_refl _) (by omega)), if_pos rfl]
      unfold kRC
      rw [if_pos (show nI c < (3 : Int32) from nI_lt (b := 3) (by omega) (by omega))]
      exact RQ.at hG0.1 p (by omega)
    · have hlt : p < n := by omega
      have hs' : σ.1 (4 + 2) t = nI n := by rw [show σ.1 (4 + 2) = σ0.1 6 from g1 6 (by omega) (by omega) (by omega)]; exact hs
      rw [if_neg (nI_ge hlt (by omega)), c_get hsh ht hs' hn hlt, b1_s, if_neg (by rw [nI_eq (by omega) (by omega)]; exact cp)]
      simp only [jn_e, bnd_e]
      rw [if_neg (show ¬ (3 : Int32) ≤ nI c from nI_ge (b := 3) (by omega) (by omega)), m_idx60, gi_nI (by omega) (by omega), nI_clamp (by omega)]
      have ev : σ.1 (4 + 1) (60 * t + p) = τ.1 4 (60 * t + p) := by
        rw [show σ.1 (4 + 1) = σ0.1 5 from g1 5 (by omega) (by omega) (by omega), show τ.1 4 = τ0.1 4 from g3 4 (by omega) (by omega) (by omega)]
        exact hc p hlt
      rw [ev]
      generalize τ.1 4 (60 * t + p) = v
      rw [m_in v 48 57 48 57 (by decide) (by decide), b1_s]
      obtain ⟨d1, d2⟩ := digit (x := v)
      by_cases cd : 48 ≤ v.toInt ∧ v.toInt ≤ 57
      · obtain ⟨w, hw, ew⟩ := d2 cd
        obtain ⟨a1, a2⟩ := d1.mpr cd
        rw [if_neg a1, if_pos a2, if_pos cd, i10, ew, e1, show nI (s + 1) - 1 = nI s from nI_pred s, show (3 : Int32) = nI 3 from rfl, pk_mul, nI_add, gi_nI (by omega) (by omega), nI_clamp (by omega), nI_1, nI_1, gi_nI (by omega) (by omega), e2, pk_mul, nI_add, gi_nI (by omega) (by omega), nI_clamp (by omega), show s * 3 + c = 3 * s + c by omega]
        have := ih (c + 1) (p + 1) (wI σ 12 (3 * s + c) (nI w)) (wI τ 13 (3 * s + c) (nI w)) f q (by omega) (by omega) (by omega) (by omega) (by omega) e1 e2 ?_ ?_
        · exact this
        · refine ⟨⟨fun c' q1 q2 q3 => ?_, g2, fun c' q1 q2 q3 => ?_, g4, g5⟩, gk, fun k hk' => ?_⟩
          · rw [wI_n _ _ _ q3]; exact g1 c' q1 q2 q3
          · rw [wI_n _ _ _ q3]; exact g3 c' q1 q2 q3
          · rw [wI_s, wI_s, upd_a, upd_a]
            by_cases ek : k = 3 * s + c
            · rw [if_pos ek, if_pos ek]
              exact ⟨rfl, w, hw, rfl⟩
            · rw [if_neg ek, if_neg ek]
              exact gf k (by omega)
        · intro σ' τ' fc' q1 q2 q3 q4 q5
          have := hk σ' τ' fc' (by omega) (by omega) q3 q4 q5
          rw [show p + 1 + j = p + (j + 1) by omega]
          exact this
      · rw [if_neg cd, i00]
        by_cases a1 : v - 48 < 0
        · rw [if_pos a1]
          exact RQ.at hG0.1 p (by omega)
        · rw [if_neg a1]
          by_cases a2 : v - 48 < 10
          · exact absurd (d1.mp ⟨a1, a2⟩) cd
          · rw [if_neg a2]
            exact RQ.at hG0.1 p (by omega)
theorem rd_all {σ0 τ0 : St} {t n : Nat} (h0 : shf σ0 4 60 4) (ht : t < 4) (hn : n ≤ 60) (hs : σ0.1 6 t = nI n) (hc : ∀ i, i < n → σ0.1 5 (60 * t + i) = τ0.1 4 (60 * t + i)) :
    ∀ (m p s : Nat) (σ τ : St) (fc fm : Nat), n - p ≤ m → p ≤ n → n < p + fc → n < p + fm → s ≤ 6 → σ.1 10 2 = nI s → τ.1 0 17 = nI s → RG σ0 τ0 s (3 * s) σ τ →
    RQ σ0 τ0 (L2_faultOf_17 (nI t) (nI n) (kRC n) fc 3 (nI p) σ) (L6_reads_14 (nI t) (nI n) (kRM n) fm (nI p) τ) := by
  intro m
  induction m with
  | zero =>
    intro p s σ τ fc fm hm hp hfc hfm hs6 e1 e2 hG
    obtain ⟨q, rfl⟩ : ∃ q, fm = q + 1 := ⟨fm - 1, by omega⟩
    obtain ⟨f, rfl⟩ : ∃ f, fc = f + 1 := ⟨fc - 1, by omega⟩
    have : p = n := by omega
    subst this
    unfold L2_faultOf_17 L6_reads_14
    rw [if_pos (nI_le (Nat.le_refl _) (by omega)), if_pos (nI_le (Nat.le_refl _) (by omega))]
    unfold kRC kRM
    rw [if_neg (by decide), e1, e2]
    by_cases c : 2 ≤ s
    · rw [if_pos (show (2 : Int32) ≤ nI s from nI_le (a := 2) c (by omega)), if_pos (show (2 : Int32) ≤ nI s from nI_le (a := 2) c (by omega))]
      exact ⟨_, _, _, rfl, rfl, hG.1, fun _ => ⟨s, c, hs6, e1, e2, hG⟩⟩
    · rw [if_neg (show ¬ (2 : Int32) ≤ nI s from nI_ge (b := 2) (by omega) (by omega)), if_neg (show ¬ (2 : Int32) ≤ nI s from nI_ge (b := 2) (by omega) (by omega))]
      exact RQ.at hG.1 p (by omega)
  | succ m ih =>
    intro p s σ τ fc fm hm hp hfc hfm hs6 e1 e2 hG
    by_cases cp : p = n
    · exact ih p s σ τ fc fm (by omega) hp hfc hfm hs6 e1 e2 hG
    have hlt : p < n := by omega
    obtain ⟨q, rfl⟩ : ∃ q, fm = q + 1 := ⟨fm - 1, by omega⟩
    obtain ⟨f, rfl⟩ : ∃ f, fc = f + 1 := ⟨fc - 1, by omega⟩
    have hG0 := hG
    obtain ⟨⟨g1, g2, g3, g4, g5⟩, gk, gf⟩ := hG
    have hsh : shf σ 4 60 4 := ⟨h0.1, h0.2.1, h0.2.2.1, by rw [g1 4 (by omega) (by omega) (by omega)]; exact h0.2.2.2.1, h0.2.2.2.2⟩
    have hs' : σ.1 (4 + 2) t = nI n := by rw [show σ.1 (4 + 2) = σ0.1 6 from g1 6 (by omega) (by omega) (by omega)]; exact hs
    have ev : σ.1 (4 + 1) (60 * t + p) = τ.1 4 (60 * t + p) := by
      rw [show σ.1 (4 + 1) = σ0.1 5 from g1 5 (by omega) (by omega) (by omega), show τ.1 4 = τ0.1 4 from g3 4 (by omega) (by omega) (by omega)]
      exact hc p hlt
    conv => rhs; unfold L6_reads_14
    conv => lhs; unfold L2_faultOf_17
    simp only [jn_e, bnd_e]
    rw [if_neg (nI_ge hlt (by omega)), if_neg (nI_ge hlt (by omega)), c_get hsh ht hs' hn hlt, b1_s, if_pos (by decide), m_idx60, gi_nI (by omega) (by omega), nI_clamp (by omega), ev, nI_1]
    generalize τ.1 4 (60 * t + p) = v
    by_cases cb : v = 32
    · rw [if_pos cb, if_pos cb]
      exact ih (p + 1) s σ τ f q (by omega) (by omega) (by omega) (by omega) hs6 e1 e2 hG0
    · rw [if_neg cb, if_neg cb, c_kindBy, b1_s, m_kindOf, b1_s, b1_s, e1, e2]
      by_cases c6 : s = 6
      · subst c6
        rw [if_pos (show nI 6 = 6 from rfl), if_neg (show ¬ nI 6 < 6 by decide)]
        by_cases ck : kOf v = -9
        · rw [if_pos ck]
          exact RQ.at hG0.1 p (by omega)
        · rw [if_neg ck]
          exact RQ.at hG0.1 p (by omega)
      · rw [if_neg (show ¬ nI s = 6 by rw [show (6 : Int32) = nI 6 from rfl, nI_eq (by omega) (by omega)]; exact c6), if_pos (show nI s < 6 from nI_lt (b := 6) (by omega) (by omega))]
        rcases kOf_cases v with ck | ⟨a, ha, ck⟩
        · rw [if_pos ck, if_pos ck]
          exact RQ.at hG0.1 p (by omega)
        · rw [ck, if_neg (nI_ne9 a (by omega)), if_neg (nI_ne9 a (by omega)), gi_nI (by omega) (by omega), gi_nI (by omega) (by omega), nI_clamp (by omega), show (wI σ 11 s (nI a)).1 10 2 = nI s from e1, nI_1]
          have key := rd_dig h0 ht hn hs hc (s := s) (by omega) (kk := fun x3 σ28 => L6_reads_14 (nI t) (nI n) (kRM n) q (x3 + 1) (wI σ28 0 17 (σ28.1 0 17 + 1))) 3 0 (p + 1) (wI (wI σ 11 s (nI a)) 10 2 (nI (s + 1))) (wI τ 12 s (nI a)) f FU (by omega) (by omega) (by omega) (by omega) (by rw [FU_e]; omega) rfl e2 ?_ ?_
          · rw [show p + 1 - 1 = p by omega] at key
            exact key
          · refine ⟨⟨fun c' q1 q2 q3 => ?_, g2, fun c' q1 q2 q3 => ?_, g4, g5⟩, fun i hi => ?_, gf⟩
            · rw [wI_n _ _ _ q1, wI_n _ _ _ q2]; exact g1 c' q1 q2 q3
            · rw [wI_n _ _ _ q2]; exact g3 c' q1 q2 q3
            · show upd (σ.1 11) s (nI a) i = upd (τ.1 12) s (nI a) i ∧ ∃ q, q < 6 ∧ upd (σ.1 11) s (nI a) i = nI q
              rw [upd_a, upd_a]
              by_cases ei : i = s
              · rw [if_pos ei, if_pos ei]
                exact ⟨rfl, a, ha, rfl⟩
              · rw [if_neg ei, if_neg ei]
                exact gk i (by omega)
          · intro σ' τ' fc' q1 q2 q3 q4 q5
            rw [q4, nI_1, nI_1, show p + 1 + 3 - 1 + 1 = p + 1 + 3 by omega]
            refine ih (p + 1 + 3) (s + 1) σ' (wI τ' 0 17 (nI (s + 1))) fc' q (by omega) (by omega) (by omega) (by omega) (by omega) q3 rfl ?_
            obtain ⟨⟨u1, u2, u3, u4, u5⟩, uk, uf⟩ := q5
            refine ⟨⟨u1, u2, fun c' q1 q2 q3 => ?_, fun k hk => ?_, u5⟩, uk, fun k hk => uf k (by omega)⟩
            · rw [wI_n _ _ _ q1]; exact u3 c' q1 q2 q3
            · rw [wI_s, upd_n _ _ hk]; exact u4 k hk
theorem AG.rel {σ τ σ' τ' : St} (h : Rel σ τ) (g : AG σ τ σ' τ') : Rel σ' τ' := by
  obtain ⟨g1, g2, g3, g4, g5⟩ := g
  have e := fun c (h1 : c ≠ 10) (h2 : c ≠ 11) (h3 : c ≠ 12) => g1 c h1 h2 h3
  have f := fun c (h1 : c ≠ 0) (h2 : c ≠ 12) (h3 : c ≠ 13) => g3 c h1 h2 h3
  refine h.chg ?_ ?_ ?_ (e 1 (by omega) (by omega) (by omega)) (e 4 (by omega) (by omega) (by omega)) (e 7 (by omega) (by omega) (by omega)) (e 8 (by omega) (by omega) (by omega)) (e 9 (by omega) (by omega) (by omega)) (e 13 (by omega) (by omega) (by omega)) (e 14 (by omega) (by omega) (by omega)) (e 15 (by omega) (by omega) (by omega)) (e 16 (by omega) (by omega) (by omega)) (e 17 (by omega) (by omega) (by omega)) (e 20 (by omega) (by omega) (by omega)) (g4 4 (by omega)) (g4 9 (by omega)) (f 5 (by omega) (by omega) (by omega)) (f 6 (by omega) (by omega) (by omega)) (f 8 (by omega) (by omega) (by omega)) (f 9 (by omega) (by omega) (by omega)) (f 10 (by omega) (by omega) (by omega))
  · rw [e 3 (by omega) (by omega) (by omega), e 2 (by omega) (by omega) (by omega), f 1 (by omega) (by omega) (by omega), f 2 (by omega) (by omega) (by omega)]
    exact h.2.1
  · rw [e 6 (by omega) (by omega) (by omega), e 5 (by omega) (by omega) (by omega), f 3 (by omega) (by omega) (by omega), f 4 (by omega) (by omega) (by omega)]
    exact h.2.2.1
  · obtain ⟨t1, t2, t3, t4, t5⟩ := h.2.2.2.1
    refine ⟨?_, ?_, ?_, ?_, fun k hk => ?_⟩
    · rw [e 0 (by omega) (by omega) (by omega), g4 12 (by omega)]; exact t1
    · rw [g2, g5]; exact t2
    · rw [g2, g5]; exact t3
    · rw [e 0 (by omega) (by omega) (by omega), g4 15 (by omega)]; exact t4
    · rw [e 34 (by omega) (by omega) (by omega), f 11 (by omega) (by omega) (by omega)]; exact t5 k hk
theorem e_reads {σ τ : St} (h : Rel σ τ) {t n : Nat} (ht : t < 4) (hn : n ≤ 60) (hs : σ.1 6 t = nI n) (hs2 : τ.1 3 t = nI n) (hc : ∀ i, i < n → σ.1 5 (60 * t + i) = τ.1 4 (60 * t + i)) : RQ σ τ (f2_faultOf σ (nI t)) (f6_reads τ (nI t)) := by
  unfold f2_faultOf f6_reads
  rw [c_sizeOf h.sh4 ht, b1_s, show σ.1 (4 + 2) t = nI n from hs, bnd_e, gi_nI ht (by omega), bnd_e, bnd_e, nI_clamp (by omega), hs2]
  refine rd_all h.sh4 ht hn hs hc n 0 0 (wI σ 10 2 0) (wI τ 0 17 0) FU FU (by omega) (by omega) (by rw [FU_e]; omega) (by rw [FU_e]; omega) (by omega) rfl rfl ⟨⟨fun c q1 q2 q3 => ?_, rfl, fun c q1 q2 q3 => ?_, fun k hk => ?_, rfl⟩, fun i hi => absurd hi (by omega), fun i hi => absurd hi (by omega)⟩
  · rw [wI_n _ _ _ q1]
  · rw [wI_n _ _ _ q1]
  · rw [wI_s, upd_n _ _ hk]
theorem e_fault {σ τ : St} (h : Rel σ τ) (x : Int32) : Sim (f5_fault σ x) (f6_fault τ x) := by
  unfold f5_fault f6_fault
  refine sim_refText h (B := fun σ3 => b2 (f2_faultOf σ3 x) fun r_5 σ_6 => some (r_5, σ_6)) (fun r n hr hn hx s1 s2 hc => ?_)
  subst hx
  obtain ⟨v, σ', τ', q1, q2, q3, -⟩ := e_reads h hr hn s1 s2 hc
  rw [q1, q2, b2_s, b2_s]
  exact Sim.of (q3.rel h) _
