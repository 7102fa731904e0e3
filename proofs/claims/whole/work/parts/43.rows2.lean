/-! mean -/
def sm64 (f : Nat → Int32) : Nat → Int64
  | 0 => 0
  | n + 1 => sm64 f n + (f n).toInt64
theorem sm64_cg {f g : Nat → Int32} : ∀ {n : Nat}, (∀ i, i < n → f i = g i) → sm64 f n = sm64 g n
  | 0, _ => rfl
  | n + 1, h => by
    show sm64 f n + _ = sm64 g n + _
    rw [sm64_cg (fun i hi => h i (by omega)), h n (by omega)]
theorem c_meanL {σ : St} {r n : Nat} {k : Int64 → Option (Int32 × St)} (h : shf σ 1 40 6) (hr : r < 6) (hn : n ≤ 40) (hs : σ.1 3 r = nI n) : L5_mean_37 σ (nI r) (nI n) k FU 0 0 = k (sm64 (fun i => σ.1 2 (40 * r + i)) n) := by
  refine up0 (fun q i s => L5_mean_37 σ (nI r) (nI n) k q s i) n (by omega) (fun i s => s = sm64 (fun i => σ.1 2 (40 * r + i)) i) (fun o => o = k (sm64 (fun i => σ.1 2 (40 * r + i)) n)) ?_ ?_ _ rfl
  · intro q i s hi hs2
    left
    refine ⟨_, rfl, ?_⟩
    subst hs2
    conv => lhs; unfold L5_mean_37
    rw [if_neg (nI_ge hi (by omega)), c_get h hr hs hn hi, b1_s, bnd_e, bnd_e, nI_1]
    rfl
  · intro q s hs2
    subst hs2
    unfold L5_mean_37
    rw [if_pos (nI_le (Nat.le_refl _) (by omega))]
theorem m_meanL {τ : St} {r n : Nat} {k : Int64 → Option (Int32 × St)} (hr : r < 6) (hn : n ≤ 40) (hs : τ.1 1 r = nI n) : L6_mean_44 τ (nI r) k FU 0 0 = k (sm64 (fun i => τ.1 2 (40 * r + i)) n) := by
  refine up0 (fun q i s => L6_mean_44 τ (nI r) k q s i) n (by omega) (fun i s => s = sm64 (fun i => τ.1 2 (40 * r + i)) i) (fun o => o = k (sm64 (fun i => τ.1 2 (40 * r + i)) n)) ?_ ?_ _ rfl
  · intro q i s hi hs2
    left
    refine ⟨_, rfl, ?_⟩
    subst hs2
    conv => lhs; unfold L6_mean_44
    rw [gi_nI hr (by omega), nI_clamp (by omega), hs, if_neg (nI_ge hi (by omega)), m_idx, gi_nI (by omega) (by omega), bnd_e, bnd_e, nI_1, nI_clamp (by omega)]
    rfl
  · intro q s hs2
    subst hs2
    unfold L6_mean_44
    rw [gi_nI hr (by omega), nI_clamp (by omega), hs, if_pos (nI_le (Nat.le_refl _) (by omega))]
theorem e_mean {σ τ : St} (h : Rel σ τ) (x : Int32) : Sim (f5_mean σ x) (f6_mean τ x) := by
  unfold f5_mean f6_mean
  refine sim_refRow h (fun r n hr hn hx s1 s2 hc => ?_)
  subst hx
  rw [c_sizeOf h.sh1 hr, b1_s, show σ.1 (1 + 2) r = nI n from s1, gi_nI hr (by omega), nI_clamp (by omega), s2]
  by_cases c : n = 0
  · subst c
    rw [if_neg (by decide), if_pos (by rfl)]
    exact Sim.found h (k := 4) (by omega)
  · have hne : ¬ (nI n).toInt64 = 0 := by
      rw [nI_l (by omega), show (0 : Int64) = lN 0 from rfl, lN_eq (by omega) (by omega)]
      exact c
    rw [if_pos (show (0 : Int32) < nI n from nI_lt (a := 0) (by omega) (by omega)), if_neg (nI_ne0 (by omega) (by omega)), c_meanL h.sh1 hr hn s1, m_meanL hr hn s2]
    rw [nzl_e hne, gi_nI hr (by omega), nzl_e hne, bnd_e]
    unfold f6_tell
    rw [bnd_e, b2_s, sm64_cg (f := fun i => σ.1 2 (40 * r + i)) (g := fun i => τ.1 2 (40 * r + i)) hc]
    exact Sim.of (h.tell _) _
/-! copy -/
def fwF (f : Nat → Int32) (a b q : Nat) : Nat → Int32 := fun p => if b ≤ p ∧ p < b + q then f (a + (p - b)) else f p
def bkF (f : Nat → Int32) (a b n q : Nat) : Nat → Int32 := fun p => if b + n ≤ p + q ∧ p < b + n ∧ b ≤ p then f (a + (p - b)) else f p
theorem fwF_0 (f : Nat → Int32) (a b : Nat) : fwF f a b 0 = f := by
  funext p
  unfold fwF
  rw [if_neg (by omega)]
theorem bkF_0 (f : Nat → Int32) (a b n : Nat) : bkF f a b n 0 = f := by
  funext p
  unfold bkF
  rw [if_neg (by omega)]
theorem bkF_n (f : Nat → Int32) (a b n : Nat) : bkF f a b n n = fwF f a b n := by
  funext p
  unfold bkF fwF
  by_cases h : b ≤ p ∧ p < b + n
  · rw [if_pos (by omega), if_pos h]
  · rw [if_neg (by omega), if_neg h]
theorem fwF_s (f : Nat → Int32) (a b q : Nat) (h : ¬ (b ≤ a + q ∧ a + q < b + q)) : upd (fwF f a b q) (b + q) (fwF f a b q (a + q)) = fwF f a b (q + 1) := by
  funext p
  rw [upd_a]
  unfold fwF
  rw [if_neg h]
  by_cases e : p = b + q
  · rw [if_pos e, if_pos (by omega), e]
    congr 1
    omega
  · rw [if_neg e]
    by_cases h2 : b ≤ p ∧ p < b + q
    · rw [if_pos h2, if_pos (by omega)]
    · rw [if_neg h2, if_neg (by omega)]
theorem bkF_s (f : Nat → Int32) (a b n q : Nat) (hq : q < n) (h : ¬ (b + n ≤ a + (n - 1 - q) + q ∧ a + (n - 1 - q) < b + n ∧ b ≤ a + (n - 1 - q))) : upd (bkF f a b n q) (b + (n - 1 - q)) (bkF f a b n q (a + (n - 1 - q))) = bkF f a b n (q + 1) := by
  funext p
  rw [upd_a]
  unfold bkF
  rw [if_neg h]
  by_cases e : p = b + (n - 1 - q)
  · rw [if_pos e, if_pos (by omega), e]
    congr 1
    omega
  · rw [if_neg e]
    by_cases h2 : b + n ≤ p + q ∧ p < b + n ∧ b ≤ p
    · rw [if_pos h2, if_pos (by omega)]
    · rw [if_neg h2, if_neg (by omega)]
/-- loops that count down -/
theorem dn {S β : Type} (L : Nat → Int32 → S → Option β) (P : Nat → S → Prop) (R : Option β → Prop)
    (hs : ∀ (n i : Nat) (s : S), P (i + 1) s → (∃ s', P i s' ∧ L (n + 1) (nI i) s = L n (nI i + (-1)) s') ∨ R (L (n + 1) (nI i) s))
    (hx : ∀ (n : Nat) (s : S), P 0 s → R (L (n + 1) (-1) s)) : ∀ (m : Nat) (s : S) (fuel : Nat), m < fuel → P m s → R (L fuel (nI m - 1) s) := by
  intro m
  induction m with
  | zero =>
    intro s fuel h2 hP
    obtain ⟨q, rfl⟩ : ∃ q, fuel = q + 1 := ⟨fuel - 1, by omega⟩
    exact hx q s hP
  | succ m ih =>
    intro s fuel h2 hP
    obtain ⟨q, rfl⟩ : ∃ q, fuel = q + 1 := ⟨fuel - 1, by omega⟩
    rw [nI_pred]
    rcases hs q m s hP with ⟨s', hP', he⟩ | h
    · rw [he, show nI m + (-1) = nI m - 1 from (Int32.sub_eq_add_neg (nI m) 1).symm]
      exact ih s' q (by omega) hP'
    · exact h
theorem c_copyF {σ : St} {r i t j n sr st : Nat} {k : St → Option (Int32 × St)} (h : shf σ 1 40 6) (hr : r < 6) (ht : t < 6) (hsr : σ.1 3 r = nI sr) (hst : σ.1 3 t = nI st) (h1 : i + n ≤ sr) (h2 : j + n ≤ st) (h3 : sr ≤ 40) (h4 : st ≤ 40) (hij : j ≤ i) :
    L5_copy_144 (nI r) (nI i) (nI t) (nI j) (nI n) k FU 0 σ = k (wA σ 2 (fwF (σ.1 2) (40 * r + i) (40 * t + j) n)) := by
  refine up0 (fun q i' s => L5_copy_144 (nI r) (nI i) (nI t) (nI j) (nI n) k q i' s) n (by omega) (fun q s => s = wA σ 2 (fwF (σ.1 2) (40 * r + i) (40 * t + j) q)) (fun o => o = k (wA σ 2 (fwF (σ.1 2) (40 * r + i) (40 * t + j) n))) ?_ ?_ _ ?_
  · intro q i' s hi hs2
    left
    refine ⟨_, rfl, ?_⟩
    subst hs2
    have hsh : shf (wA σ 2 (fwF (σ.1 2) (40 * r + i) (40 * t + j) i')) 1 40 6 := ⟨h.1, h.2.1, h.2.2.1, h.2.2.2.1, h.2.2.2.2⟩
    conv => lhs; unfold L5_copy_144
    rw [if_neg (nI_ge hi (by omega)), nI_add, nI_add, c_get hsh hr hsr h3 (show i + i' < sr by omega), b1_s, c_set hsh ht hst h4 (show j + i' < st by omega), b1_s, bnd_e, nI_1, wI_A, wA_s, wA_wA]
    have e := fwF_s (σ.1 2) (40 * r + i) (40 * t + j) i' (by
      intro q
      by_cases e : r = t
      · subst e
        omega
      · have := rowne (w := 40) (r := t) (r' := r) (i := i + i') (n := j + i') e (by omega) (by omega)
        omega)
    rw [← Nat.add_assoc, ← Nat.add_assoc, e]
  · intro q s hs2
    subst hs2
    unfold L5_copy_144
    rw [if_pos (nI_le (Nat.le_refl _) (by omega))]
  · rw [fwF_0, wA_self]
theorem c_copyB {σ : St} {r i t j n sr st : Nat} {k : St → Option (Int32 × St)} (h : shf σ 1 40 6) (hr : r < 6) (ht : t < 6) (hsr : σ.1 3 r = nI sr) (hst : σ.1 3 t = nI st) (h1 : i + n ≤ sr) (h2 : j + n ≤ st) (h3 : sr ≤ 40) (h4 : st ≤ 40) (hij : i < j) :
    L5_copy_102 (nI r) (nI i) (nI t) (nI j) k FU (nI n - 1) σ = k (wA σ 2 (fwF (σ.1 2) (40 * r + i) (40 * t + j) n)) := by
  refine dn (fun q i' s => L5_copy_102 (nI r) (nI i) (nI t) (nI j) k q i' s) (fun q s => q ≤ n ∧ s = wA σ 2 (bkF (σ.1 2) (40 * r + i) (40 * t + j) n (n - q))) (fun o => o = k (wA σ 2 (fwF (σ.1 2) (40 * r + i) (40 * t + j) n))) ?_ ?_ n σ FU (by rw [FU_e]; omega) ?_
  · intro q i' s hs2
    left
    obtain ⟨hi, hs2⟩ := hs2
    refine ⟨_, ⟨by omega, rfl⟩, ?_⟩
    subst hs2
    have hsh : shf (wA σ 2 (bkF (σ.1 2) (40 * r + i) (40 * t + j) n (n - (i' + 1)))) 1 40 6 := ⟨h.1, h.2.1, h.2.2.1, h.2.2.2.1, h.2.2.2.2⟩
    conv => lhs; unfold L5_copy_102
    rw [if_neg (nI_pos (by omega)), nI_add, nI_add, c_get hsh hr hsr h3 (show i + i' < sr by omega), b1_s, c_set hsh ht hst h4 (show j + i' < st by omega), b1_s, bnd_e, wI_A, wA_s, wA_wA]
    have e := bkF_s (σ.1 2) (40 * r + i) (40 * t + j) n (n - (i' + 1)) (by omega) (by
      rw [show n - 1 - (n - (i' + 1)) = i' by omega]
      intro q
      by_cases e : r = t
      · subst e
        omega
      · have := rowne (w := 40) (r := t) (r' := r) (i := i + i') (n := j + n) e (by omega) (by omega)
        omega)
    rw [show n - 1 - (n - (i' + 1)) = i' by omega] at e
    rw [← Nat.add_assoc, ← Nat.add_assoc, e, show n - (i' + 1) + 1 = n - i' by omega]
  · intro q s hs2
    obtain ⟨_, hs2⟩ := hs2
    subst hs2
    unfold L5_copy_102
    rw [if_pos (by decide), Nat.sub_zero, bkF_n]
  · exact ⟨Nat.le_refl _, by rw [Nat.sub_self, bkF_0, wA_self]⟩
theorem m_copyL {τ : St} {r i t j n : Nat} {k : St → Option (Int32 × St)} (hr : r < 6) (ht : t < 6) (h1 : i + n ≤ 40) (h2 : j + n ≤ 40) :
    L6_copy_104 (nI r) (nI i) (nI t) (nI j) (nI n) k FU 0 τ = k (wA τ 2 (fwF (τ.1 2) (40 * r + i) (40 * t + j) n)) := by
  refine up0 (fun q i' s => L6_copy_104 (nI r) (nI i) (nI t) (nI j) (nI n) k q i' s) n (by omega) (fun q s => s = wA τ 2 (if j ≤ i then fwF (τ.1 2) (40 * r + i) (40 * t + j) q else bkF (τ.1 2) (40 * r + i) (40 * t + j) n q)) (fun o => o = k (wA τ 2 (fwF (τ.1 2) (40 * r + i) (40 * t + j) n))) ?_ ?_ _ ?_
  · intro q i' s hi hs2
    left
    refine ⟨_, rfl, ?_⟩
    subst hs2
    conv => lhs; unfold L6_copy_104
    rw [if_neg (nI_ge hi (by omega))]
    simp only [jn_e, bnd_e]
    rw [m_idx, m_idx, nI_1]
    by_cases c : j ≤ i
    · rw [if_pos (nI_le c (by omega)), if_pos c, if_pos c, nI_add, nI_add, gi_nI (by omega) (by omega), gi_nI (by omega) (by omega), nI_clamp (by omega), nI_clamp (by omega), wI_A, wA_s, wA_wA, fwF_s]
      intro q
      by_cases e : r = t
      · subst e
        omega
      · have := rowne (w := 40) (r := t) (r' := r) (i := i + i') (n := j + i') e (by omega) (by omega)
        omega
    · rw [if_neg (nI_ge (by omega) (by omega)), if_neg c, if_neg c, show (1 : Int32) = nI 1 from rfl, pk_sub (by omega), pk_sub (by omega), nI_add, nI_add, gi_nI (by omega) (by omega), gi_nI (by omega) (by omega), nI_clamp (by omega), nI_clamp (by omega), wI_A, wA_s, wA_wA, bkF_s _ _ _ _ _ hi]
      intro q
      by_cases e : r = t
      · subst e
        omega
      · have := rowne (w := 40) (r := t) (r' := r) (i := i + (n - 1 - i')) (n := j + n) e (by omega) (by omega)
        omega
  · intro q s hs2
    subst hs2
    unfold L6_copy_104
    rw [if_pos (nI_le (Nat.le_refl _) (by omega))]
    by_cases c : j ≤ i
    · rw [if_pos c]
    · rw [if_neg c, bkF_n]
  · by_cases c : j ≤ i
    · rw [if_pos c, fwF_0, wA_self]
    · rw [if_neg c, bkF_0, wA_self]
theorem rowsR.cpy {r i t j n sr st : Nat} {s c ts tc : Nat → Int32} (h : rowsR 40 6 s c ts tc) (hr : r < 6) (ht : t < 6) (hsr : s r = nI sr) (hst : s t = nI st) (h1 : i + n ≤ sr) (h2 : j + n ≤ st) (h3 : sr ≤ 40) (h4 : st ≤ 40) : rowsR 40 6 s (fwF c (40 * r + i) (40 * t + j) n) ts (fwF tc (40 * r + i) (40 * t + j) n) := by
  intro r' hr'
  have key : ∀ q, q < n → c (40 * r + i + q) = tc (40 * r + i + q) := by
    intro q hq
    rcases h r hr with ⟨a, _⟩ | ⟨m, hm, a1, a2, hc⟩
    · rw [hsr] at a
      exact absurd a (by
        intro e
        have := congrArg Int32.toInt e
        rw [i_lit sr (by omega), i_m1] at this
        omega)
    · rw [hsr, nI_eq (by omega) (by omega)] at a1
      rw [Nat.add_assoc]
      exact hc (i + q) (by omega)
  rcases h r' hr' with a | ⟨m, hm, a1, a2, hc⟩
  · exact Or.inl a
  · refine Or.inr ⟨m, hm, a1, a2, fun p hp => ?_⟩
    unfold fwF
    by_cases e : 40 * t + j ≤ 40 * r' + p ∧ 40 * r' + p < 40 * t + j + n
    · rw [if_pos e, if_pos e]
      exact key _ (by omega)
    · rw [if_neg e, if_neg e, hc p hp]
theorem e_copy {σ τ : St} (h : Rel σ τ) (x1 x2 x3 x4 x5 : Int32) : Sim (f5_copy σ x1 x2 x3 x4 x5) (f6_copy τ x1 x2 x3 x4 x5) := by
  unfold f5_copy f6_copy
  rw [c_isRow, m_isRow, b1_s, b1_s]
  rcases ix x1 6 (by omega) with hx | ⟨r, hr, rfl⟩
  · rw [inB_out hx, i00, i00]
    exact Sim.of h _
  rw [inB_nI hr (by omega), i10, i10, c_isRow, m_isRow, b1_s, b1_s]
  rcases ix x3 6 (by omega) with hx | ⟨t, ht, rfl⟩
  · rw [inB_out hx, i00, i00]
    exact Sim.of h _
  rw [inB_nI ht (by omega), i10, i10]
  by_cases c5 : 0 ≤ x5
  · simp only [jn_e]
    rw [if_pos c5, if_pos c5, gi_nI hr (by omega), gi_nI ht (by omega), nI_clamp (by omega), nI_clamp (by omega), gi_nI hr (by omega), gi_nI ht (by omega)]
    have hf1 := Sim.found h (k := 1) (by omega)
    have hf2 := Sim.found h (k := 2) (by omega)
    rcases h.2.1 r hr with ⟨s1, s2⟩ | ⟨sr, hsr, s1, s2, hc⟩
    · rw [c_holds0 h.sh1 hr s1, b1_s, i00, s2, if_pos (by decide)]
      exact hf1
    rw [c_holds1 h.sh1 hr s1 (by omega), b1_s, i10, s2, if_neg (nI_pos (by omega))]
    rcases h.2.1 t ht with ⟨t1, t2⟩ | ⟨st, hst, t1, t2, hd⟩
    · rw [c_holds0 h.sh1 ht t1, b1_s, i00, t2, if_neg (by decide)]
      exact hf1
    rw [c_holds1 h.sh1 ht t1 (by omega), b1_s, i10, t2, if_pos (nI_pos' (by omega))]
    have q2 := i_rng x2
    have q4 := i_rng x4
    have q5 := i_rng x5
    have e1 := i_lit sr (by omega)
    have e2 := i_lit st (by omega)
    have c5' : 0 ≤ x5.toInt := by rw [i_le, i_0] at c5; exact c5
    have l1 : (x2.toInt64 + x5.toInt64).toInt = x2.toInt + x5.toInt := by
      rw [Int64.toInt_add, l_of, l_of]
      exact Int.bmod_eq_of_le (by omega) (by omega)
    have l2 : (x4.toInt64 + x5.toInt64).toInt = x4.toInt + x5.toInt := by
      rw [Int64.toInt_add, l_of, l_of]
      exact Int.bmod_eq_of_le (by omega) (by omega)
    have p1 := c_spans h.sh1 hr (by rw [show σ.1 (1 + 2) r = nI sr from s1]; omega) (by rw [show σ.1 (1 + 2) r = nI sr from s1]; omega) x2 x5
    have p2 := c_spans h.sh1 ht (by rw [show σ.1 (1 + 2) t = nI st from t1]; omega) (by rw [show σ.1 (1 + 2) t = nI st from t1]; omega) x4 x5
    rw [show σ.1 (1 + 2) r = nI sr from s1, e1] at p1
    rw [show σ.1 (1 + 2) t = nI st from t1, e2] at p2
    rw [p1, b1_s, p2]
    by_cases a1 : x2.toInt < 0
    · rw [if_neg (show ¬ (0 ≤ x2.toInt ∧ 0 ≤ x5.toInt ∧ x2.toInt + x5.toInt ≤ sr) by omega), i00, if_pos (show x2 < 0 by rw [i_lt, i_0]; exact a1)]
      exact hf2
    rw [if_neg (show ¬ x2 < 0 by rw [i_lt, i_0]; exact a1)]
    by_cases a2 : (sr : Int) < x2.toInt + x5.toInt
    · rw [if_neg (show ¬ (0 ≤ x2.toInt ∧ 0 ≤ x5.toInt ∧ x2.toInt + x5.toInt ≤ sr) by omega), i00, if_pos (show (nI sr).toInt64 < x2.toInt64 + x5.toInt64 by rw [l_lt, l_of, l1, e1]; exact a2)]
      by_cases a3 : x4 < 0
      · rw [if_pos a3]
        exact hf2
      · rw [if_neg a3]
        exact hf2
    rw [if_pos (show 0 ≤ x2.toInt ∧ 0 ≤ x5.toInt ∧ x2.toInt + x5.toInt ≤ sr by omega), i10, b1_s, if_neg (show ¬ (nI sr).toInt64 < x2.toInt64 + x5.toInt64 by rw [l_lt, l_of, l1, e1]; exact a2)]
    by_cases a3 : x4.toInt < 0
    · rw [if_neg (show ¬ (0 ≤ x4.toInt ∧ 0 ≤ x5.toInt ∧ x4.toInt + x5.toInt ≤ st) by omega), i00, if_pos (show x4 < 0 by rw [i_lt, i_0]; exact a3)]
      exact hf2
    rw [if_neg (show ¬ x4 < 0 by rw [i_lt, i_0]; exact a3)]
    by_cases a4 : x4.toInt + x5.toInt ≤ (st : Int)
    · rw [if_pos (show 0 ≤ x4.toInt ∧ 0 ≤ x5.toInt ∧ x4.toInt + x5.toInt ≤ st by omega), i10, if_pos (show x4.toInt64 + x5.toInt64 ≤ (nI st).toInt64 by rw [l_le, l_of, l2, e2]; exact a4)]
      obtain ⟨i, hi, rfl⟩ : ∃ i : Nat, i < 41 ∧ x2 = nI i := by
        rcases ix x2 41 (by omega) with q | q
        · omega
        · exact q
      obtain ⟨j, hj, rfl⟩ : ∃ j : Nat, j < 41 ∧ x4 = nI j := by
        rcases ix x4 41 (by omega) with q | q
        · omega
        · exact q
      obtain ⟨n, hn, rfl⟩ : ∃ n : Nat, n < 41 ∧ x5 = nI n := by
        rcases ix x5 41 (by omega) with q | q
        · omega
        · exact q
      rw [i_lit i (by omega), i_lit n (by omega)] at a2
      rw [i_lit j (by omega), i_lit n (by omega)] at a4
      rw [m_copyL hr ht (by omega) (by omega)]
      have hfin : Rel (wA σ 2 (fwF (σ.1 2) (40 * r + i) (40 * t + j) n)) (wA τ 2 (fwF (τ.1 2) (40 * r + i) (40 * t + j) n)) :=
        h.chg (h.2.1.cpy hr ht s1 t1 (by omega) (by omega) hsr hst) h.2.2.1 h.2.2.2.1
      by_cases c : j ≤ i
      · rw [if_pos (nI_le c (by omega)), c_copyF h.sh1 hr ht s1 t1 (by omega) (by omega) hsr hst c]
        exact Sim.of hfin _
      · rw [if_neg (nI_ge (by omega) (by omega)), bnd_e, c_copyB h.sh1 hr ht s1 t1 (by omega) (by omega) hsr hst (by omega)]
        exact Sim.of hfin _
    · rw [if_neg (show ¬ (0 ≤ x4.toInt ∧ 0 ≤ x5.toInt ∧ x4.toInt + x5.toInt ≤ st) by omega), i00, if_neg (show ¬ x4.toInt64 + x5.toInt64 ≤ (nI st).toInt64 by rw [l_le, l_of, l2, e2]; exact a4)]
      exact hf2
  · rw [if_neg c5, if_neg c5]
    exact Sim.found h (k := 5) (by omega)
