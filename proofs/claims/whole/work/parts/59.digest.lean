/-! counts -/
def sN (f : Nat → Nat) : Nat → Nat
  | 0 => 0
  | n + 1 => sN f n + f n
def sS (set : Nat) (f : Nat → Nat) : Nat → Nat
  | 0 => 0
  | n + 1 => sS set f n + (if set / 2 ^ n % 2 = 1 then f n else 0)
theorem sS_le {set : Nat} {f : Nat → Nat} : ∀ {n : Nat}, (∀ i, i < n → f i ≤ 9) → sS set f n ≤ 9 * n
  | 0, _ => Nat.le_refl _
  | n + 1, h => by
    have h1 := sS_le (set := set) (n := n) (fun i hi => h i (by omega))
    have h2 := h n (by omega)
    show sS set f n + (if set / 2 ^ n % 2 = 1 then f n else 0) ≤ 9 * (n + 1)
    split <;> omega
theorem sN_le {f : Nat → Nat} : ∀ {n : Nat}, (∀ i, i < n → f i ≤ 9) → sN f n ≤ 9 * n
  | 0, _ => Nat.le_refl _
  | n + 1, h => by
    have h1 := sN_le (n := n) (fun i hi => h i (by omega))
    have h2 := h n (by omega)
    show sN f n + f n ≤ 9 * (n + 1)
    omega
theorem c_sumOf {σ : St} {n set col : Nat} {kd : Nat → Nat} {D : Dk} (h : CX σ n kd D) (hs : set < 64) (hc : col < 3) : f1_sumOf σ (nI set) (nI col) = some (nI (sS set (fun i => D.2.1 (3 * i + col)) n)) := by
  obtain ⟨h1, h2, h3, h4, h5⟩ := h
  unfold f1_sumOf
  refine up0 (fun q i s => L1_sumOf_5 σ (nI set) (nI col) (fun x => some x) q s i) n (by omega) (fun i s => s = nI (sS set (fun i => D.2.1 (3 * i + col)) i)) (fun o => o = some (nI (sS set (fun i => D.2.1 (3 * i + col)) n))) ?_ ?_ 0 rfl
  · intro q i s hi hs'
    left
    refine ⟨_, rfl, ?_⟩
    subst hs'
    conv => lhs; unfold L1_sumOf_5
    simp only [jn_e, bnd_e]
    rw [h1, if_neg (nI_ge hi (by omega)), n_bit (by omega) (by omega), c_figureOf h4 h2 hi hc, b1_s, nI_1, nI_add]
    show _ = L1_sumOf_5 σ (nI set) (nI col) (fun x => some x) q (nI (sS set (fun i => D.2.1 (3 * i + col)) i + (if set / 2 ^ i % 2 = 1 then D.2.1 (3 * i + col) else 0))) (nI (i + 1))
    by_cases c : set / 2 ^ i % 2 = 1
    · rw [c, if_neg (by decide), if_pos rfl]
    · rw [show set / 2 ^ i % 2 = 0 by omega, if_pos (by rfl), if_neg (by decide)]; rfl
  · intro q s hs'
    subst hs'
    unfold L1_sumOf_5
    rw [h1, if_pos (nI_le (Nat.le_refl _) (by omega))]
theorem n_full : ∀ n, n ≤ 6 → ((1 : Int32) <<< (nI n &&& 31)) - 1 = nI (2 ^ n - 1) := by decide
theorem n_pow : ∀ n, n ≤ 6 → (1 : Int32) <<< (nI n &&& 31) = nI (2 ^ n) := by decide
theorem full_bit : ∀ n, n ≤ 6 → ∀ i, i < n → (2 ^ n - 1) / 2 ^ i % 2 = 1 := by decide
theorem sS_full {f : Nat → Nat} {set : Nat} : ∀ {n : Nat}, (∀ i, i < n → set / 2 ^ i % 2 = 1) → sS set f n = sN f n
  | 0, _ => rfl
  | n + 1, h => by
    show sS set f n + (if set / 2 ^ n % 2 = 1 then f n else 0) = sN f n + f n
    rw [sS_full (fun i hi => h i (by omega)), if_pos (h n (by omega))]
theorem sN_3 (f : Nat → Nat) : ∀ n, sN (fun i => f (3 * i)) n + sN (fun i => f (3 * i + 1)) n + sN (fun i => f (3 * i + 2)) n = sN f (3 * n)
  | 0 => rfl
  | n + 1 => by
    have h := sN_3 f n
    show sN (fun i => f (3 * i)) n + f (3 * n) + (sN (fun i => f (3 * i + 1)) n + f (3 * n + 1)) + (sN (fun i => f (3 * i + 2)) n + f (3 * n + 2)) = sN f (3 * n) + f (3 * n) + f (3 * n + 1) + f (3 * n + 2)
    omega
theorem c_sumOfAll {σ : St} {n : Nat} {kd : Nat → Nat} {D : Dk} (h : CX σ n kd D) : f1_sumOfAll σ = some (nI (sN D.2.1 (3 * n))) := by
  have h0 := h
  obtain ⟨h1, h2, h3, h4, h5⟩ := h
  have hlt : 2 ^ n - 1 < 64 := by
    have : 2 ^ n ≤ 2 ^ 6 := Nat.pow_le_pow_right (by omega) h2
    omega
  unfold f1_sumOfAll
  obtain ⟨q, hq⟩ : ∃ q, FU = q + 1 + 1 + 1 + 1 := ⟨4996, by rw [FU_e]⟩
  have e : ∀ col, col < 3 → f1_sumOf σ ((1 <<< ((σ.1 13 7) &&& 31)) - 1) (nI col) = some (nI (sN (fun i => D.2.1 (3 * i + col)) n)) := fun col hc => by
    rw [h1, n_full n h2, c_sumOf h0 hlt hc, sS_full (full_bit n h2)]
  rw [hq]
  have e0 := e 0 (by omega)
  have e1 := e 1 (by omega)
  have e2 := e 2 (by omega)
  conv => lhs; unfold L1_sumOfAll_4
  rw [if_neg (by decide), show (0 : Int32) = nI 0 from rfl, e0, b1_s, bnd_e, bnd_e, nI_1, nI_add]
  conv => lhs; unfold L1_sumOfAll_4
  rw [if_neg (by decide), e1, b1_s, bnd_e, bnd_e, nI_1, nI_add]
  conv => lhs; unfold L1_sumOfAll_4
  rw [if_neg (by decide), e2, b1_s, bnd_e, bnd_e, nI_1, nI_add]
  conv => lhs; unfold L1_sumOfAll_4
  rw [if_pos (by decide), ← sN_3 D.2.1 n, Nat.zero_add]
  rfl
theorem m_figuresAll {τ : St} {n : Nat} {kd : Nat → Nat} {D : Dk} (h : mD τ 6 n kd D) : f6_figuresAll τ = some (nI (sN D.2.1 (3 * n))) := by
  obtain ⟨h1, h2, h3, h4, h5⟩ := h
  unfold f6_figuresAll
  refine up0 (fun q i s => L6_figuresAll_4 τ (fun x => some x) q s i) (3 * n) (by omega) (fun i s => s = nI (sN D.2.1 i)) (fun o => o = some (nI (sN D.2.1 (3 * n)))) ?_ ?_ 0 rfl
  · intro q i s hi hs
    left
    refine ⟨_, rfl, ?_⟩
    subst hs
    have hv := h4.2.1 i hi
    rw [Nat.zero_add] at hv
    conv => lhs; unfold L6_figuresAll_4
    rw [h1, show (3 : Int32) = nI 3 from rfl, pk_mul, if_neg (nI_ge hi (by omega)), show (6 : Int32) = nI 6 from rfl, nI_add, gi_nI (by omega) (by omega), bnd_e, bnd_e, nI_clamp (by omega), hv, nI_add, nI_1]
    rfl
  · intro q s hs
    subst hs
    unfold L6_figuresAll_4
    rw [h1, show (3 : Int32) = nI 3 from rfl, pk_mul, if_pos (nI_le (Nat.le_refl _) (by omega))]
def kI' (kd : Nat → Nat) (a b : Nat) : Nat → Int32
  | 0 => 0
  | n + 1 => kI' kd a b n + (if kd n = a ∨ kd n = b then 1 else 0)
theorem c_manyOf {σ : St} {n w : Nat} {kd : Nat → Nat} {D : Dk} (h : CX σ n kd D) (hw : w = 2 ∨ w = 3) : f1_manyOf σ (nI w) = some (kI' kd w (w + 2) n) := by
  obtain ⟨h1, h2, h3, h4, h5⟩ := h
  unfold f1_manyOf
  refine up0 (fun q i s => L1_manyOf_4 σ (nI w) (fun x => some x) q s i) n (by omega) (fun i s => s = kI' kd w (w + 2) i) (fun o => o = some (kI' kd w (w + 2) n)) ?_ ?_ 0 rfl
  · intro q i s hi hs
    left
    refine ⟨_, rfl, ?_⟩
    subst hs
    conv => lhs; unfold L1_manyOf_4
    simp only [jn_e, bnd_e]
    rw [h1, if_neg (nI_ge hi (by omega)), gi_nI (by omega) (by omega), nI_clamp (by omega), (h3 i hi).1, c_isOf σ (h3 i hi).2 (by omega) (by omega), b1_s, nI_1]
    show _ = L1_manyOf_4 σ (nI w) (fun x => some x) q (kI' kd w (w + 2) i + (if kd i = w ∨ kd i = w + 2 then 1 else 0)) (nI (i + 1))
    by_cases c : kd i = w ∨ kd i = w + 2
    · rw [if_pos (show kd i = w ∨ (kd i = 4 ∧ w = 2) ∨ (kd i = 5 ∧ w = 3) by omega), if_pos c, i10]
    · rw [if_neg (show ¬ (kd i = w ∨ (kd i = 4 ∧ w = 2) ∨ (kd i = 5 ∧ w = 3)) by omega), if_neg c, i00, Int32.add_zero]
  · intro q s hs
    subst hs
    unfold L1_manyOf_4
    rw [h1, if_pos (nI_le (Nat.le_refl _) (by omega))]
theorem m_of {τ : St} {n a b : Nat} {kd : Nat → Nat} {D : Dk} (h : mD τ 6 n kd D) (ha : a < 6) (hb : b < 6) : f6_of τ (nI a) (nI b) = some (kI' kd a b n) := by
  obtain ⟨h1, h2, h3, h4, h5⟩ := h
  unfold f6_of
  refine up0 (fun q i s => L6_of_5 τ (nI a) (nI b) (fun x => some x) q s i) n (by omega) (fun i s => s = kI' kd a b i) (fun o => o = some (kI' kd a b n)) ?_ ?_ 0 rfl
  · intro q i s hi hs
    left
    refine ⟨_, rfl, ?_⟩
    subst hs
    have hk := (h3 i hi).2
    conv => lhs; unfold L6_of_5
    simp only [jn_e, bnd_e]
    rw [h1, if_neg (nI_ge hi (by omega)), gi_nI (by omega) (by omega), gi_nI (by omega) (by omega), nI_clamp (by omega), (h3 i hi).1, nI_1]
    show _ = L6_of_5 τ (nI a) (nI b) (fun x => some x) q (kI' kd a b i + (if kd i = a ∨ kd i = b then 1 else 0)) (nI (i + 1))
    by_cases c1 : kd i = a
    · rw [if_pos (show nI (kd i) = nI a by rw [c1]), if_pos (Or.inl c1)]
    · rw [if_neg (show ¬ nI (kd i) = nI a by rw [nI_eq (by omega) (by omega)]; exact c1)]
      by_cases c2 : kd i = b
      · rw [if_pos (show nI (kd i) = nI b by rw [c2]), if_pos (Or.inr c2)]
      · rw [if_neg (show ¬ nI (kd i) = nI b by rw [nI_eq (by omega) (by omega)]; exact c2), if_neg (show ¬ (kd i = a ∨ kd i = b) by omega)]
  · intro q s hs
    subst hs
    unfold L6_of_5
    rw [h1, if_pos (nI_le (Nat.le_refl _) (by omega))]
def hI (f : Nat → Int32) : Nat → Int32
  | 0 => 0
  | n + 1 => hI f n + (if 0 ≤ (f n).toInt then 1 else 0)
theorem hI_cg {f g : Nat → Int32} : ∀ {n : Nat}, (∀ i, i < n → f i = g i) → hI f n = hI g n
  | 0, _ => rfl
  | n + 1, h => by
    show hI f n + _ = hI g n + _
    rw [hI_cg (fun i hi => h i (by omega)), h n (by omega)]
theorem c_held {σ : St} {c w N : Nat} (h : shf σ c w N) : f3_held σ c = some (hI (σ.1 (c + 2)) N) := by
  obtain ⟨h1, h2, h3, h4, h5, h6⟩ := h
  unfold f3_held
  refine up0 (fun q i s => L3_held_4 σ c (fun x => some x) q s i) N (by omega) (fun i s => s = hI (σ.1 (c + 2)) i) (fun o => o = some (hI (σ.1 (c + 2)) N)) ?_ ?_ 0 rfl
  · intro q i s hi hs
    left
    refine ⟨_, rfl, ?_⟩
    subst hs
    conv => lhs; unfold L3_held_4
    simp only [jn_e, bnd_e]
    rw [h3, oN, if_neg (nI_ge hi (by omega)), gi_nI (by omega) (by omega), nI_clamp (by omega), nI_1]
    show _ = L3_held_4 σ c (fun x => some x) q (hI (σ.1 (c + 2)) i + (if 0 ≤ (σ.1 (c + 2) i).toInt then 1 else 0)) (nI (i + 1))
    by_cases e : (σ.1 (c + 2) i).toInt < 0
    · rw [if_pos (show σ.1 (c + 2) i < 0 by rw [i_lt, i_0]; exact e), if_neg (by omega), Int32.add_zero]
    · rw [if_neg (show ¬ σ.1 (c + 2) i < 0 by rw [i_lt, i_0]; exact e), if_pos (by omega)]
  · intro q s hs
    subst hs
    unfold L3_held_4
    rw [h3, oN, if_pos (nI_le (Nat.le_refl _) (by omega))]
theorem m_there {τ : St} {a N : Nat} (ha : lnM a = N) (hN : N ≤ 6) : f6_there τ a (nI N) = some (hI (τ.1 a) N) := by
  unfold f6_there
  refine up0 (fun q i s => L6_there_4 τ a (nI N) (fun x => some x) q s i) N (by omega) (fun i s => s = hI (τ.1 a) i) (fun o => o = some (hI (τ.1 a) N)) ?_ ?_ 0 rfl
  · intro q i s hi hs
    left
    refine ⟨_, rfl, ?_⟩
    subst hs
    conv => lhs; unfold L6_there_4
    simp only [jn_e, bnd_e]
    rw [if_neg (nI_ge hi (by omega)), ha, gi_nI (by omega) (by omega), nI_clamp (by omega), nI_1]
    show _ = L6_there_4 τ a (nI N) (fun x => some x) q (hI (τ.1 a) i + (if 0 ≤ (τ.1 a i).toInt then 1 else 0)) (nI (i + 1))
    by_cases e : 0 ≤ (τ.1 a i).toInt
    · rw [if_pos (show 0 ≤ τ.1 a i by rw [i_le, i_0]; exact e), if_pos e]
    · rw [if_neg (show ¬ 0 ≤ τ.1 a i by rw [i_le, i_0]; exact e), if_neg e]
  · intro q s hs
    subst hs
    unfold L6_there_4
    rw [if_pos (nI_le (Nat.le_refl _) (by omega))]
theorem rowsR.sz {w N : Nat} {s c ts tc : Nat → Int32} (h : rowsR w N s c ts tc) : ∀ r, r < N → s r = ts r := fun r hr => by
  rcases h r hr with ⟨a, b⟩ | ⟨n, _, a, b, _⟩ <;> rw [a, b]
/-- every count is the same -/
theorem e_counted {σ τ : St} (h : Rel σ τ) {k : Nat} (hk : k < 10) : ∃ v, f5_counted σ (nI k) = some v ∧ f6_count τ (nI k) = some v := by
  obtain ⟨n, kd, bs, ds, kp, hA, hC, hM⟩ := h.2.2.2.2
  have hn6 := hA.2.1
  have hc := hC.cx hA
  have hm := hM.mx hA
  generalize rpl n kd bs ds = D at hc hm
  have hs3 := hm.2.2.2.1.2.2
  rw [Nat.zero_add] at hs3
  unfold f5_counted f6_count
  simp only [jn_e, bnd_e]
  rw [c_sumOfAll hc, m_figuresAll hm, show (2 : Int32) = nI 2 from rfl, show (3 : Int32) = nI 3 from rfl, show (4 : Int32) = nI 4 from rfl, show (5 : Int32) = nI 5 from rfl, show (6 : Int32) = nI 6 from rfl, c_manyOf hc (Or.inl rfl), c_manyOf hc (Or.inr rfl), m_of hm (by omega) (by omega), m_of hm (by omega) (by omega), c_held h.sh1, c_held h.sh4, c_held h.sh7, m_there (a := 1) (N := 6) rfl (by decide), m_there (a := 3) (N := 4) rfl (by decide)]
  rcases (show k = 0 ∨ k = 1 ∨ k = 2 ∨ k = 3 ∨ k = 4 ∨ k = 5 ∨ k = 6 ∨ k = 7 ∨ k = 8 ∨ k = 9 by omega) with rfl | rfl | rfl | rfl | rfl | rfl | rfl | rfl | rfl | rfl
  · exact ⟨_, rfl, by rw [hM.1, hC.1]; rfl⟩
  · exact ⟨_, rfl, by rw [hs3, hc.2.2.2.1.2.2]; rfl⟩
  · exact ⟨_, rfl, by rw [hM.2.1, hC.2.1]; rfl⟩
  · by_cases hn : n = 0
    · subst hn
      refine ⟨-9, ?_, ?_⟩
      · rw [hC.1]; rfl
      · rw [hM.1]; rfl
    · have e1 := hm.2.2.2.1.1 0 (by omega)
      rw [Nat.zero_add] at e1
      refine ⟨nI (D.1.getD 0 0), ?_, ?_⟩
      · show (if σ.1 13 7 = 0 then some (-9) else some (σ.1 17 0)) = _
        rw [hC.1, if_neg (nI_ne0 (by omega) (by omega)), hc.2.2.2.1.1 0 (by omega)]
      · show (if τ.1 0 4 = 0 then some (-9) else some (τ.1 6 0)) = _
        rw [hM.1, if_neg (nI_ne0 (by omega) (by omega)), e1]
  · exact ⟨_, rfl, rfl⟩
  · exact ⟨_, rfl, rfl⟩
  · exact ⟨_, rfl, rfl⟩
  · refine ⟨_, rfl, ?_⟩
    show some _ = some _
    rw [hI_cg h.2.1.sz]
  · refine ⟨_, rfl, ?_⟩
    show some _ = some _
    rw [hI_cg h.2.2.1.sz]
  · refine ⟨_, rfl, ?_⟩
    have z : ∀ k, k < 3 → (0 ≤ (σ.1 (7 + 2) k).toInt ↔ ¬ τ.1 10 k = 0) ∧ True := fun k hk => by
      refine ⟨?_, trivial⟩
      cases e : kp k with
      | none =>
        rw [show σ.1 (7 + 2) k = -1 from hC.2.2.2.2.2.2.1 k hk e, hM.2.2.2.2.2.1 k hk e]
        decide
      | some es =>
        rw [show σ.1 (7 + 2) k = nI es.length from (hC.2.2.2.2.2.2.2 k es hk e).1, (hM.2.2.2.2.2.2 k es hk e).1, i_lit _ (by have := (hA.2.2.2.2.2.1 k es e).1; omega)]
        constructor
        · intro _; decide
        · intro _; omega
    show (if τ.1 10 0 = 0 then _ else _) = some (((0 : Int32) + (if 0 ≤ (σ.1 (7 + 2) 0).toInt then 1 else 0)) + (if 0 ≤ (σ.1 (7 + 2) 1).toInt then 1 else 0) + (if 0 ≤ (σ.1 (7 + 2) 2).toInt then 1 else 0))
    by_cases c0 : τ.1 10 0 = 0 <;> by_cases c1 : τ.1 10 1 = 0 <;> by_cases c2 : τ.1 10 2 = 0 <;> simp [c0, c1, c2, (z 0 (by omega)).1, (z 1 (by omega)).1, (z 2 (by omega)).1]
theorem e_count {σ τ : St} (h : Rel σ τ) (x : Int32) : SimR (f5_count σ x) (f6_count τ x) := by
  have e10 : (10 : Int32).toInt = 10 := by decide
  unfold f5_count
  rcases ix x 10 (by omega) with hx | ⟨k, hk, rfl⟩
  · have hne : ∀ v : Nat, v < 10 → ¬ x = nI v := fun v hv e => by
      rw [e, i_lit v (by omega)] at hx
      omega
    have e : f6_count τ x = some (-1) := by
      unfold f6_count
      rw [if_neg (show ¬ x = 0 from hne 0 (by omega)), if_neg (show ¬ x = 1 from hne 1 (by omega)), if_neg (show ¬ x = 2 from hne 2 (by omega)), if_neg (show ¬ x = 3 from hne 3 (by omega)), if_neg (show ¬ x = 4 from hne 4 (by omega)), if_neg (show ¬ x = 5 from hne 5 (by omega)), if_neg (show ¬ x = 6 from hne 6 (by omega)), if_neg (show ¬ x = 7 from hne 7 (by omega)), if_neg (show ¬ x = 8 from hne 8 (by omega)), if_neg (show ¬ x = 9 from hne 9 (by omega))]
    rw [e]
    by_cases c1 : x.toInt < 0
    · rw [if_pos (show x < 0 by rw [i_lt, i_0]; exact c1)]
      exact ⟨_, rfl, rfl⟩
    · rw [if_neg (show ¬ x < 0 by rw [i_lt, i_0]; exact c1), if_neg (show ¬ x < 10 by rw [i_lt, e10]; omega)]
      exact ⟨_, rfl, rfl⟩
  · obtain ⟨v, q1, q2⟩ := e_counted h hk
    rw [if_neg (nI_pos (by omega)), if_pos (show nI k < 10 from nI_lt (b := 10) hk (by omega)), q1, q2, b1_s]
    exact ⟨_, rfl, rfl⟩
