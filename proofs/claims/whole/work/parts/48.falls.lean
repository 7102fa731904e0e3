/-! the reference's pass -/
theorem i01 {β : Type} (a b : β) : (if (0 : Int32) = 1 then a else b) = b := if_neg (by decide)
def cpG (t f : Nat → Int32) (i j m : Nat) : Nat → Int32 := fun p => if j ≤ p ∧ p < j + m then f (i + (p - j)) else t p
theorem cpG_0 (t f : Nat → Int32) (i j : Nat) : cpG t f i j 0 = t := by
  funext p
  unfold cpG
  rw [if_neg (by omega)]
theorem cpG_s (t f : Nat → Int32) (i j m : Nat) : upd (cpG t f i j m) (j + m) (f (i + m)) = cpG t f i j (m + 1) := by
  funext p
  rw [upd_a]
  unfold cpG
  by_cases e : p = j + m
  · rw [if_pos e, if_pos (by omega), e]
    congr 1
    omega
  · rw [if_neg e]
    by_cases h : j ≤ p ∧ p < j + m
    · rw [if_pos h, if_pos (by omega)]
    · rw [if_neg h, if_neg (by omega)]
theorem cpG_in {t f : Nat → Int32} {i j m p : Nat} (h : p < m) : cpG t f i j m (j + p) = f (i + p) := by
  unfold cpG
  rw [if_pos (by omega)]
  congr 1
  omega
theorem cpG_out {t f : Nat → Int32} {i j m p : Nat} (h : p < j ∨ j + m ≤ p) : cpG t f i j m p = t p := by
  unfold cpG
  rw [if_neg (by omega)]
theorem m_copies {τ : St} {a b i j m : Nat} (hab : a ≠ b) (h1 : i + m ≤ lnM a) (h2 : j + m ≤ lnM b) (h3 : lnM a ≤ 4096) (h4 : lnM b ≤ 4096) : f6_copies τ a (nI i) b (nI j) (nI m) = some (wA τ b (cpG (τ.1 b) (τ.1 a) i j m)) := by
  unfold f6_copies
  refine up0 (fun q x s => L6_copies_3 a b (nI i) (nI j) (nI m) (fun σ => some σ) q x s) m (by omega) (fun k s => s = wA τ b (cpG (τ.1 b) (τ.1 a) i j k)) (fun o => o = some (wA τ b (cpG (τ.1 b) (τ.1 a) i j m))) ?_ ?_ _ ?_
  · intro q k s hk hs
    left
    refine ⟨_, rfl, ?_⟩
    subst hs
    conv => lhs; unfold L6_copies_3
    rw [if_neg (nI_ge hk (by omega)), nI_add, nI_add, gi_nI (by omega) (by omega), gi_nI (by omega) (by omega), bnd_e, bnd_e, nI_clamp (by omega), nI_clamp (by omega), nI_1, wA_n _ _ hab, wI_A, wA_s, wA_wA, cpG_s]
  · intro q s hs
    subst hs
    unfold L6_copies_3
    rw [if_pos (nI_le (Nat.le_refl _) (by omega))]
  · rw [cpG_0, wA_self]
theorem m_has {m i : Nat} (hm : m < 2147483648) (hi : i < 32) : f6_has (nI m) (nI i) = some (nI (m / 2 ^ i % 2)) := by
  unfold f6_has
  rw [n_bit hm hi]
  by_cases c : m / 2 ^ i % 2 = 1
  · rw [c, if_pos (by rfl)]
    rfl
  · rw [show m / 2 ^ i % 2 = 0 by omega, if_neg (by decide)]
    rfl
def mD (τ : St) (a n : Nat) (kd : Nat → Nat) (D : Dk) : Prop := τ.1 0 4 = nI n ∧ n ≤ 6 ∧ (∀ i, i < n → τ.1 5 i = nI (kd i) ∧ kd i < 6) ∧ snp n (τ.1 a) 0 D ∧ okD n D
theorem m_readOn {τ : St} {a n : Nat} {kd : Nat → Nat} {D : Dk} (h : mD τ a n kd D) (ha : a = 6 ∨ a = 7) {i c : Nat} (hi : i < n) (hc : c < 3) : f6_readOn τ a (nI i) (nI c) = some (nI (pkt kd D.2.1 D.2.2 c i)) := by
  obtain ⟨h1, h2, h3, ⟨s1, s2, s3⟩, ⟨o1, o2, o3, o4, o5⟩⟩ := h
  have hl : lnM a = 25 := by rcases ha with rfl | rfl <;> rfl
  have hrd := m_readsBy (τ := τ) (a := a) (o := 6 + 3 * i) (c := c) (kd := kd i) (p := D.2.2) (g := fun c => D.2.1 (3 * i + c)) (by omega) (by omega) (fun c hc => by
    have := s2 (3 * i + c) (by omega)
    rw [Nat.zero_add] at this
    rw [Nat.add_assoc]
    exact this) (fun c hc => o4 _ (by omega)) hc (h3 i hi).2 o5
  rw [Nat.zero_add] at s3
  unfold f6_readOn
  rw [gi_nI (by omega) (by omega), hl, show (24 : Int32) = nI 24 from rfl, gi_nI (by omega) (by omega), nI_clamp (by omega), (h3 i hi).1, s3, show (6 : Int32) = nI 6 from rfl, show (3 : Int32) = nI 3 from rfl, pk_mul, nI_add, hrd, b1_s]
  rfl
def tkn (f : Nat → Int32) (T : List Nat) : Prop := ∀ i, i < T.length → f i = nI (T.getD i 0)
theorem tkn_s {f : Nat → Int32} {T : List Nat} {x : Nat} (h : tkn f T) : tkn (upd f T.length (nI x)) (T ++ [x]) := by
  intro i hi
  rw [List.length_append] at hi
  by_cases c : i = T.length
  · subst c
    have := getD_r T [x] 0
    rw [Nat.add_zero] at this
    rw [upd_s, this]
    rfl
  · have : i < T.length := by simp at hi; omega
    rw [upd_n _ _ c, getD_l _ this]
    exact h i this
theorem m_fall24 {τ : St} {a n : Nat} {kd : Nat → Nat} {D : Dk} (h : mD τ a n kd D) (ha : a = 6 ∨ a = 7) {col mis pk ld : Nat} (hc : col < 3) (hmis : mis < 64) (hpk : pk < 11) (hld : ld < 2) {k : Int32 → St → Option St} {T : List Nat} (hT : (T ++ D.1.filter (fun i => key kd D.2.1 D.2.2 col mis i == 2 * pk + (1 - ld))).length ≤ 6)
    {s : St} (f1 : ∀ c, c ≠ 14 → s.1 c = τ.1 c) (f2 : s.2 = τ.2) (f3 : tkn (s.1 14) T) :
    ∃ s', L6_falls_24 a (nI col) (nI mis) (nI pk) (nI ld) k FU (nI T.length) 0 s = k (nI (T ++ D.1.filter (fun i => key kd D.2.1 D.2.2 col mis i == 2 * pk + (1 - ld))).length) s' ∧ (∀ c, c ≠ 14 → s'.1 c = τ.1 c) ∧ s'.2 = τ.2 ∧ tkn (s'.1 14) (T ++ D.1.filter (fun i => key kd D.2.1 D.2.2 col mis i == 2 * pk + (1 - ld))) := by
  have h0 := h
  obtain ⟨h1, h2, h3, ⟨s1, s2, s3⟩, ⟨o1, o2, o3, o4, o5⟩⟩ := h
  have hl : lnM a = 25 := by rcases ha with rfl | rfl <;> rfl
  have hn14 : a ≠ 14 := by omega
  generalize hr : 2 * pk + (1 - ld) = r at *
  generalize hky : key kd D.2.1 D.2.2 col mis = ky at *
  refine up0 (fun q i s => L6_falls_24 a (nI col) (nI mis) (nI pk) (nI ld) k q s.1 i s.2) n (by omega)
    (fun i s => s.1 = nI (T ++ (D.1.take i).filter (fun i => ky i == r)).length ∧ (∀ c, c ≠ 14 → s.2.1 c = τ.1 c) ∧ s.2.2 = τ.2 ∧ tkn (s.2.1 14) (T ++ (D.1.take i).filter (fun i => ky i == r)))
    (fun o => ∃ s', o = k (nI (T ++ D.1.filter (fun i => ky i == r)).length) s' ∧ (∀ c, c ≠ 14 → s'.1 c = τ.1 c) ∧ s'.2 = τ.2 ∧ tkn (s'.1 14) (T ++ D.1.filter (fun i => ky i == r))) ?_ ?_ (nI T.length, s) ?_
  · intro q i s hi hs
    left
    obtain ⟨x4, st⟩ := s
    obtain ⟨e1, g1, g2, g3⟩ := hs
    dsimp only at e1 g1 g2 g3
    subst e1
    have hxm : D.1.getD i 0 ∈ D.1 := getD_m (by omega)
    have ev : st.1 a i = nI (D.1.getD i 0) := by
      rw [g1 a hn14]
      have := s1 i hi
      rw [Nat.zero_add] at this
      exact this
    have hts := take_s (l := D.1) (k := i) (by omega)
    have hsub : ((D.1.take (i + 1)).filter (fun i => ky i == r)).length ≤ (D.1.filter (fun i => ky i == r)).length := ((List.take_sublist _ _).filter _).length_le
    have hxn := o3 _ hxm
    generalize D.1.getD i 0 = x at *
    have hmD : mD st a n kd D := ⟨by rw [g1 0 (by omega)]; exact h1, h2, fun j hj => by rw [g1 5 (by omega)]; exact h3 j hj, ⟨by rw [g1 a hn14]; exact s1, by rw [g1 a hn14]; exact s2, by rw [g1 a hn14]; exact s3⟩, ⟨o1, o2, o3, o4, o5⟩⟩
    have hro := m_readOn hmD ha hxn hc
    have e5 : st.1 5 x = nI (kd x) := by rw [g1 5 (by omega)]; exact (h3 x hxn).1
    have hkd := (h3 x hxn).2
    rw [hts, List.filter_append] at hsub ⊢
    -- the step, its pocket being v
    have hst : ∀ v : Nat, v ≤ 10 → ky x = 2 * v + (if kd x = 5 then 0 else 1) → ∃ s' : Int32 × St, (s'.1 = nI (T ++ ((D.1.take i).filter (fun i => ky i == r) ++ [x].filter (fun i => ky i == r))).length ∧ (∀ c, c ≠ 14 → s'.2.1 c = τ.1 c) ∧ s'.2.2 = τ.2 ∧ tkn (s'.2.1 14) (T ++ ((D.1.take i).filter (fun i => ky i == r) ++ [x].filter (fun i => ky i == r)))) ∧
        (if nI v = nI pk then gi (nI x) 6 (if st.1 5 (nI x).toNatClampNeg = 5 then (if nI ld = 1 then gi (nI (T ++ (D.1.take i).filter (fun i => ky i == r)).length) 6 (bnd (wI st 14 (nI (T ++ (D.1.take i).filter (fun i => ky i == r)).length).toNatClampNeg (nI x)) fun σ_33 => bnd (nI (T ++ (D.1.take i).filter (fun i => ky i == r)).length + 1) fun x4_34 => bnd (nI i + 1) fun x7_24 => L6_falls_24 a (nI col) (nI mis) (nI pk) (nI ld) k q x4_34 x7_24 σ_33) else bnd (nI i + 1) fun x7_24 => L6_falls_24 a (nI col) (nI mis) (nI pk) (nI ld) k q (nI (T ++ (D.1.take i).filter (fun i => ky i == r)).length) x7_24 st)
          else (if nI ld = 1 then bnd (nI i + 1) fun x7_24 => L6_falls_24 a (nI col) (nI mis) (nI pk) (nI ld) k q (nI (T ++ (D.1.take i).filter (fun i => ky i == r)).length) x7_24 st else gi (nI (T ++ (D.1.take i).filter (fun i => ky i == r)).length) 6 (bnd (wI st 14 (nI (T ++ (D.1.take i).filter (fun i => ky i == r)).length).toNatClampNeg (nI x)) fun σ_33 => bnd (nI (T ++ (D.1.take i).filter (fun i => ky i == r)).length + 1) fun x4_34 => bnd (nI i + 1) fun x7_24 => L6_falls_24 a (nI col) (nI mis) (nI pk) (nI ld) k q x4_34 x7_24 σ_33)))
          else bnd (nI i + 1) fun x7_24 => L6_falls_24 a (nI col) (nI mis) (nI pk) (nI ld) k q (nI (T ++ (D.1.take i).filter (fun i => ky i == r)).length) x7_24 st) = L6_falls_24 a (nI col) (nI mis) (nI pk) (nI ld) k q s'.1 (nI (i + 1)) s'.2 := by
      intro v hv hkx
      have hno : ky x ≠ r → [x].filter (fun i => ky i == r) = [] := fun e => by simp [e]
      have hyes : ky x = r → [x].filter (fun i => ky i == r) = [x] := fun e => by simp [e]
      have hA : ky x = r → (T ++ (D.1.take i).filter (fun i => ky i == r)).length < 6 := fun e => by
        rw [hyes e] at hsub
        simp only [List.length_append, List.length_cons, List.length_nil] at hsub hT ⊢
        omega
      have keep : ky x ≠ r → ∃ s' : Int32 × St, (s'.1 = nI (T ++ ((D.1.take i).filter (fun i => ky i == r) ++ [x].filter (fun i => ky i == r))).length ∧ (∀ c, c ≠ 14 → s'.2.1 c = τ.1 c) ∧ s'.2.2 = τ.2 ∧ tkn (s'.2.1 14) (T ++ ((D.1.take i).filter (fun i => ky i == r) ++ [x].filter (fun i => ky i == r)))) ∧ (bnd (nI i + 1) fun x7_24 => L6_falls_24 a (nI col) (nI mis) (nI pk) (nI ld) k q (nI (T ++ (D.1.take i).filter (fun i => ky i == r)).length) x7_24 st) = L6_falls_24 a (nI col) (nI mis) (nI pk) (nI ld) k q s'.1 (nI (i + 1)) s'.2 := fun e => by
        refine ⟨(nI (T ++ (D.1.take i).filter (fun i => ky i == r)).length, st), ⟨?_, g1, g2, ?_⟩, ?_⟩
        · rw [hno e, List.append_nil]
        · rw [hno e, List.append_nil]
          exact g3
        · rw [bnd_e, nI_1]
      have put : ky x = r → ∃ s' : Int32 × St, (s'.1 = nI (T ++ ((D.1.take i).filter (fun i => ky i == r) ++ [x].filter (fun i => ky i == r))).length ∧ (∀ c, c ≠ 14 → s'.2.1 c = τ.1 c) ∧ s'.2.2 = τ.2 ∧ tkn (s'.2.1 14) (T ++ ((D.1.take i).filter (fun i => ky i == r) ++ [x].filter (fun i => ky i == r)))) ∧ gi (nI (T ++ (D.1.take i).filter (fun i => ky i == r)).length) 6 (bnd (wI st 14 (nI (T ++ (D.1.take i).filter (fun i => ky i == r)).length).toNatClampNeg (nI x)) fun σ_33 => bnd (nI (T ++ (D.1.take i).filter (fun i => ky i == r)).length + 1) fun x4_34 => bnd (nI i + 1) fun x7_24 => L6_falls_24 a (nI col) (nI mis) (nI pk) (nI ld) k q x4_34 x7_24 σ_33) = L6_falls_24 a (nI col) (nI mis) (nI pk) (nI ld) k q s'.1 (nI (i + 1)) s'.2 := fun e => by
        have hA' := hA e
        refine ⟨(nI ((T ++ (D.1.take i).filter (fun i => ky i == r)).length + 1), wI st 14 (T ++ (D.1.take i).filter (fun i => ky i == r)).length (nI x)), ⟨?_, fun c hc => ?_, g2, ?_⟩, ?_⟩
        · rw [hyes e, ← List.append_assoc, List.length_append (bs := [x])]
          rfl
        · rw [wI_n _ _ _ hc]
          exact g1 c hc
        · rw [hyes e, ← List.append_assoc, wI_s]
          exact tkn_s g3
        · rw [gi_nI hA' (by omega), bnd_e, bnd_e, bnd_e, nI_clamp (by omega), nI_1, nI_1]
      by_cases cv : v = pk
      · subst cv
        rw [if_pos rfl, gi_nI (by omega) (by omega), nI_clamp (by omega), e5]
        by_cases c5 : kd x = 5
        · rw [if_pos (show nI (kd x) = 5 by rw [c5]; rfl)]
          by_cases cl : ld = 1
          · rw [if_pos (show nI ld = 1 by rw [cl]; rfl)]
            exact put (by rw [hkx, if_pos c5]; omega)
          · rw [if_neg (show ¬ nI ld = 1 by rw [show ld = 0 by omega]; decide)]
            exact keep (by rw [hkx, if_pos c5]; omega)
        · rw [if_neg (show ¬ nI (kd x) = 5 by rw [show (5 : Int32) = nI 5 from rfl, nI_eq (by omega) (by omega)]; exact c5)]
          by_cases cl : ld = 1
          · rw [if_pos (show nI ld = 1 by rw [cl]; rfl)]
            exact keep (by rw [hkx, if_neg c5]; omega)
          · rw [if_neg (show ¬ nI ld = 1 by rw [show ld = 0 by omega]; decide)]
            exact put (by rw [hkx, if_neg c5]; omega)
      · rw [if_neg (show ¬ nI v = nI pk by rw [nI_eq (by omega) (by omega)]; exact cv)]
        exact keep (by rw [hkx]; split <;> omega)
    have hstep : ∀ v : Nat, L6_falls_24 a (nI col) (nI mis) (nI pk) (nI ld) k (q + 1) (nI (T ++ (D.1.take i).filter (fun i => ky i == r)).length) (nI i) st = (if nI v = nI pk then gi (nI x) 6 (if st.1 5 (nI x).toNatClampNeg = 5 then (if nI ld = 1 then gi (nI (T ++ (D.1.take i).filter (fun i => ky i == r)).length) 6 (bnd (wI st 14 (nI (T ++ (D.1.take i).filter (fun i => ky i == r)).length).toNatClampNeg (nI x)) fun σ_33 => bnd (nI (T ++ (D.1.take i).filter (fun i => ky i == r)).length + 1) fun x4_34 => bnd (nI i + 1) fun x7_24 => L6_falls_24 a (nI col) (nI mis) (nI pk) (nI ld) k q x4_34 x7_24 σ_33) else bnd (nI i + 1) fun x7_24 => L6_falls_24 a (nI col) (nI mis) (nI pk) (nI ld) k q (nI (T ++ (D.1.take i).filter (fun i => ky i == r)).length) x7_24 st)
          else (if nI ld = 1 then bnd (nI i + 1) fun x7_24 => L6_falls_24 a (nI col) (nI mis) (nI pk) (nI ld) k q (nI (T ++ (D.1.take i).filter (fun i => ky i == r)).length) x7_24 st else gi (nI (T ++ (D.1.take i).filter (fun i => ky i == r)).length) 6 (bnd (wI st 14 (nI (T ++ (D.1.take i).filter (fun i => ky i == r)).length).toNatClampNeg (nI x)) fun σ_33 => bnd (nI (T ++ (D.1.take i).filter (fun i => ky i == r)).length + 1) fun x4_34 => bnd (nI i + 1) fun x7_24 => L6_falls_24 a (nI col) (nI mis) (nI pk) (nI ld) k q x4_34 x7_24 σ_33)))
          else bnd (nI i + 1) fun x7_24 => L6_falls_24 a (nI col) (nI mis) (nI pk) (nI ld) k q (nI (T ++ (D.1.take i).filter (fun i => ky i == r)).length) x7_24 st) ∨ ¬ (if mis / 2 ^ x % 2 = 1 then v = 10 else v = pkt kd D.2.1 D.2.2 col x) := by
      intro v
      by_cases cb : mis / 2 ^ x % 2 = 1
      · by_cases ev' : v = 10
        · left
          subst ev'
          conv => lhs; unfold L6_falls_24
          simp only [jn_e]
          rw [hmD.1, if_neg (nI_ge hi (by omega)), hl, gi_nI (by omega) (by omega), nI_clamp (by omega), bnd_e, ev, m_has (by omega) (by omega), b1_s, cb, if_neg (by decide)]
          simp only [if_true, i10, i01]
          rfl
        · right
          rw [if_pos cb]
          exact ev'
      · by_cases ev' : v = pkt kd D.2.1 D.2.2 col x
        · left
          subst ev'
          conv => lhs; unfold L6_falls_24
          simp only [jn_e]
          rw [hmD.1, if_neg (nI_ge hi (by omega)), hl, gi_nI (by omega) (by omega), nI_clamp (by omega), bnd_e, ev, m_has (by omega) (by omega), b1_s, show mis / 2 ^ x % 2 = 0 by omega, if_pos (by rfl), hro, b1_s]
          simp only [if_true, i10, i01]
        · right
          rw [if_neg cb]
          exact ev'
    have hpk10 : pkt kd D.2.1 D.2.2 col x ≤ 10 := rdg_le (fun c hc => o4 _ (by omega)) hc
    dsimp only
    by_cases cb : mis / 2 ^ x % 2 = 1
    · obtain ⟨s', hs', he⟩ := hst 10 (by omega) (by rw [← hky]; unfold key; rw [if_pos cb])
      refine ⟨s', hs', ?_⟩
      rcases hstep 10 with h | h
      · rw [h, he]
      · exact absurd (by rw [if_pos cb]) h
    · obtain ⟨s', hs', he⟩ := hst (pkt kd D.2.1 D.2.2 col x) hpk10 (by rw [← hky]; unfold key; rw [if_neg cb])
      refine ⟨s', hs', ?_⟩
      rcases hstep (pkt kd D.2.1 D.2.2 col x) with h | h
      · rw [h, he]
      · exact absurd (by rw [if_neg cb]) h
  · intro q s hs
    obtain ⟨x4, st⟩ := s
    obtain ⟨e1, g1, g2, g3⟩ := hs
    dsimp only at e1 g1 g2 g3 ⊢
    subst e1
    rw [List.take_of_length_le (by omega)] at g3 ⊢
    refine ⟨st, ?_, g1, g2, g3⟩
    unfold L6_falls_24
    rw [g1 0 (by omega), h1, if_pos (nI_le (Nat.le_refl _) (by omega))]
  · refine ⟨?_, f1, f2, ?_⟩
    · simp
    · simpa using f3
