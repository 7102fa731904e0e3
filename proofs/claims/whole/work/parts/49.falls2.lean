theorem m_fall16 {τ : St} {a n : Nat} {kd : Nat → Nat} {D : Dk} (h : mD τ a n kd D) (ha : a = 6 ∨ a = 7) {col mis pk : Nat} (hc : col < 3) (hmis : mis < 64) (hpk : pk < 11) {k : Int32 → St → Option St}
    {s : St} (f1 : ∀ c, c ≠ 14 → s.1 c = τ.1 c) (f2 : s.2 = τ.2) (f3 : tkn (s.1 14) (bkt (key kd D.2.1 D.2.2 col mis) (2 * pk) D.1)) (fu : Nat) (hfu : 3 ≤ fu) :
    ∃ s', L6_falls_16 a (nI col) (nI mis) (nI pk) k fu (nI (bkt (key kd D.2.1 D.2.2 col mis) (2 * pk) D.1).length) 1 s = k (nI (bkt (key kd D.2.1 D.2.2 col mis) (2 * (pk + 1)) D.1).length) s' ∧ (∀ c, c ≠ 14 → s'.1 c = τ.1 c) ∧ s'.2 = τ.2 ∧ tkn (s'.1 14) (bkt (key kd D.2.1 D.2.2 col mis) (2 * (pk + 1)) D.1) := by
  obtain ⟨q, rfl⟩ : ∃ q, fu = q + 1 + 1 + 1 := ⟨fu - 3, by omega⟩
  have hlen : D.1.length ≤ 6 := by rw [h.2.2.2.2.1]; exact h.2.1
  have b1' := bkt_succ (key kd D.2.1 D.2.2 col mis) (2 * pk) D.1
  have b2' := bkt_succ (key kd D.2.1 D.2.2 col mis) (2 * pk + 1) D.1
  obtain ⟨s1, e1, g1, g2, g3⟩ := m_fall24 h ha hc hmis hpk (ld := 1) (by omega) (k := fun x4 σ39 => bnd (1 + (-1)) fun x6 => L6_falls_16 a (nI col) (nI mis) (nI pk) k (q + 1 + 1) x4 x6 σ39) (T := bkt (key kd D.2.1 D.2.2 col mis) (2 * pk) D.1) (by rw [show 2 * pk + (1 - 1) = 2 * pk by omega, ← b1']; exact Nat.le_trans (bkt_len _ _ _) hlen) f1 f2 f3
  rw [show 2 * pk + (1 - 1) = 2 * pk by omega, ← b1'] at e1 g3
  obtain ⟨s2, e2, u1, u2, u3⟩ := m_fall24 h ha hc hmis hpk (ld := 0) (by omega) (k := fun x4 σ39 => bnd (0 + (-1)) fun x6 => L6_falls_16 a (nI col) (nI mis) (nI pk) k (q + 1) x4 x6 σ39) (T := bkt (key kd D.2.1 D.2.2 col mis) (2 * pk + 1) D.1) (by rw [show 2 * pk + (1 - 0) = 2 * pk + 1 by omega, ← b2']; exact Nat.le_trans (bkt_len _ _ _) hlen) g1 g2 g3
  rw [show 2 * pk + (1 - 0) = 2 * pk + 1 by omega, ← b2'] at e2 u3
  refine ⟨s2, ?_, u1, u2, u3⟩
  conv => lhs; unfold L6_falls_16
  rw [if_neg (by decide)]
  refine e1.trans ?_
  rw [bnd_e, show (1 : Int32) + (-1) = 0 from by decide]
  conv => lhs; unfold L6_falls_16
  rw [if_neg (by decide)]
  refine e2.trans ?_
  rw [bnd_e, show (0 : Int32) + (-1) = -1 from by decide]
  conv => lhs; unfold L6_falls_16
  rw [if_pos (by decide)]
  rfl
theorem m_falls {τ : St} {a n : Nat} {kd : Nat → Nat} {D : Dk} (h : mD τ a n kd D) (ha : a = 6 ∨ a = 7) {col mis : Nat} (hc : col < 3) (hmis : mis < 64) :
    ∃ τ', f6_falls τ a (nI col) (nI mis) = some τ' ∧ (∀ c, c ≠ a → c ≠ 14 → τ'.1 c = τ.1 c) ∧ τ'.2 = τ.2 ∧ (∀ i, i < n → τ'.1 a i = nI ((srt (key kd D.2.1 D.2.2 col mis) D.1).getD i 0)) ∧ ∀ i, n ≤ i → τ'.1 a i = τ.1 a i := by
  have hl : lnM a = 25 := by rcases ha with rfl | rfl <;> rfl
  have hn := h.2.1
  have hlen : D.1.length = n := h.2.2.2.2.1
  have hpl : (srt (key kd D.2.1 D.2.2 col mis) D.1).length = n := by
    rw [(srt_perm (fun i hi => key_lt h.2.2.2.2.2.2.2.1 hc (h.2.2.2.2.2.2.1 i hi))).length_eq]
    exact hlen
  unfold f6_falls
  refine up0 (fun q i s => L6_falls_6 a (nI col) (nI mis) (fun σ_46 => b1 (f6_copies σ_46 14 0 a 0 (σ_46.1 0 4)) fun σ_48 => some σ_48) q s.1 i s.2) 11 (by omega)
    (fun pk s => s.1 = nI (bkt (key kd D.2.1 D.2.2 col mis) (2 * pk) D.1).length ∧ (∀ c, c ≠ 14 → s.2.1 c = τ.1 c) ∧ s.2.2 = τ.2 ∧ tkn (s.2.1 14) (bkt (key kd D.2.1 D.2.2 col mis) (2 * pk) D.1))
    (fun o => ∃ τ', o = some τ' ∧ (∀ c, c ≠ a → c ≠ 14 → τ'.1 c = τ.1 c) ∧ τ'.2 = τ.2 ∧ (∀ i, i < n → τ'.1 a i = nI ((srt (key kd D.2.1 D.2.2 col mis) D.1).getD i 0)) ∧ ∀ i, n ≤ i → τ'.1 a i = τ.1 a i) ?_ ?_ ((0 : Int32), τ) ?_
  · intro q pk s hpk hs
    left
    obtain ⟨x4, st⟩ := s
    obtain ⟨e1, g1, g2, g3⟩ := hs
    dsimp only at e1 g1 g2 g3 ⊢
    subst e1
    obtain ⟨s', e, u1, u2, u3⟩ := m_fall16 h ha hc hmis hpk (k := fun x4 σ_43 => bnd (nI pk + 1) fun x5 => L6_falls_6 a (nI col) (nI mis) (fun σ_46 => b1 (f6_copies σ_46 14 0 a 0 (σ_46.1 0 4)) fun σ_48 => some σ_48) q x4 x5 σ_43) g1 g2 g3 FU (by rw [FU_e]; omega)
    refine ⟨(nI (bkt (key kd D.2.1 D.2.2 col mis) (2 * (pk + 1)) D.1).length, s'), ⟨rfl, u1, u2, u3⟩, ?_⟩
    conv => lhs; unfold L6_falls_6
    rw [show (11 : Int32) = nI 11 from rfl, if_neg (nI_ge hpk (by omega))]
    refine e.trans ?_
    rw [bnd_e, nI_1]
  · intro q s hs
    obtain ⟨x4, st⟩ := s
    obtain ⟨e1, g1, g2, g3⟩ := hs
    dsimp only at e1 g1 g2 g3 ⊢
    have e4 : st.1 0 4 = nI n := by rw [g1 0 (by omega)]; exact h.1
    have hcp := m_copies (τ := st) (a := 14) (b := a) (i := 0) (j := 0) (m := n) (by omega) (by show 0 + n ≤ 6; omega) (by omega) (by decide) (by omega)
    refine ⟨wA st a (cpG (st.1 a) (st.1 14) 0 0 n), ?_, fun c h1 h2 => ?_, g2, fun i hi => ?_, fun i hi => ?_⟩
    · unfold L6_falls_6
      rw [show (11 : Int32) = nI 11 from rfl, if_pos (nI_le (Nat.le_refl _) (by omega)), e4, show (0 : Int32) = nI 0 from rfl, hcp, b1_s]
    · rw [wA_n _ _ h1]
      exact g1 c h2
    · have := cpG_in (t := st.1 a) (f := st.1 14) (i := 0) (j := 0) (m := n) (p := i) hi
      rw [Nat.zero_add] at this
      rw [wA_s, this]
      exact g3 i (by show i < (srt (key kd D.2.1 D.2.2 col mis) D.1).length; omega)
    · rw [wA_s, cpG_out (by omega), g1 a (by omega)]
  · refine ⟨rfl, fun _ _ => rfl, rfl, fun i hi => absurd hi ?_⟩
    show ¬ i < (bkt (key kd D.2.1 D.2.2 col mis) 0 D.1).length
    exact Nat.not_lt_zero i
theorem m_passes {τ : St} {a n : Nat} {kd : Nat → Nat} {D : Dk} (h : mD τ a n kd D) (ha : a = 6 ∨ a = 7) {col : Nat} (hc : col < 3) :
    ∃ τ', f6_passes τ a (nI col) = some τ' ∧ (∀ c, c ≠ a → c ≠ 14 → τ'.1 c = τ.1 c) ∧ τ'.2 = τ.2 ∧ snp n (τ'.1 a) 0 (pas kd D col 0, D.2.1, min 60 (D.2.2 + 1)) := by
  have hl : lnM a = 25 := by rcases ha with rfl | rfl <;> rfl
  obtain ⟨τ', e, f1, f2, f3, f4⟩ := m_falls h ha hc (mis := 0) (by omega)
  obtain ⟨h1, h2, h3, ⟨s1, s2, s3⟩, ⟨o1, o2, o3, o4, o5⟩⟩ := h
  rw [Nat.zero_add] at s3
  have e24 : τ'.1 a 24 = nI D.2.2 := by rw [f4 24 (by omega)]; exact s3
  unfold f6_passes
  rw [show (0 : Int32) = nI 0 from rfl, e, b1_s, hl, show (24 : Int32) = nI 24 from rfl, gi_nI (by omega) (by omega), gi_nI (by omega) (by omega), ← show (0 : Int32) = nI 0 from rfl]
  simp only [jn_e, bnd_e]
  rw [gi_nI (by omega) (by omega), gi_nI (by omega) (by omega), e24]
  have fin : ∀ m, m = min 60 (D.2.2 + 1) → snp n ((wI τ' a 24 (nI m)).1 a) 0 (pas kd D col 0, D.2.1, min 60 (D.2.2 + 1)) := fun m hm => by
    refine ⟨fun i hi => ?_, fun k hk => ?_, ?_⟩
    · rw [wI_s, upd_n _ _ (by omega), Nat.zero_add]
      exact f3 i hi
    · rw [wI_s, upd_n _ _ (by omega), f4 _ (by omega)]
      exact s2 k hk
    · rw [wI_s, Nat.zero_add, upd_s, hm]
  by_cases c : 60 ≤ D.2.2
  · rw [if_pos (show (60 : Int32) ≤ nI D.2.2 from nI_le (a := 60) c (by omega)), show (0 : Int32) = nI 0 from rfl, nI_add]
    exact ⟨_, rfl, fun c h1 h2 => by rw [wI_n _ _ _ h1]; exact f1 c h1 h2, f2, fin _ (by omega)⟩
  · rw [if_neg (show ¬ (60 : Int32) ≤ nI D.2.2 from nI_ge (b := 60) (by omega) (by omega)), nI_1]
    exact ⟨_, rfl, fun c h1 h2 => by rw [wI_n _ _ _ h1]; exact f1 c h1 h2, f2, fin _ (by omega)⟩
theorem okD_pas {n : Nat} {kd : Nat → Nat} {D : Dk} (h : okD n D) {col mis : Nat} (hc : col < 3) : okD n (pas kd D col mis, D.2.1, min 60 (D.2.2 + 1)) := by
  obtain ⟨o1, o2, o3, o4, o5⟩ := h
  have hp := srt_perm (ky := key kd D.2.1 D.2.2 col mis) (l := D.1) (fun i hi => key_lt o4 hc (o3 i hi))
  refine ⟨hp.length_eq.trans o1, hp.symm.nodup o2, fun i hi => o3 i (hp.mem_iff.mp hi), o4, ?_⟩
  show min 60 (D.2.2 + 1) ≤ 60
  omega
