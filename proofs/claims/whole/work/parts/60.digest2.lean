/-! the digest -/
def fG (g : Nat → Int64 → Int64) : Nat → Int64 → Int64
  | 0, h => h
  | n + 1, h => g n (fG g n h)
def hv (v : Nat → Int32) : Nat → Int64 → Int64 := fun i h => 31 * h + (v i).toInt64
theorem m1_clamp : (-1 : Int32).toNatClampNeg = 0 := by decide
theorem fG_0 (g : Nat → Int64 → Int64) (h : Int64) : fG g 0 h = h := rfl
theorem fG_cg {f g : Nat → Int64 → Int64} : ∀ {n : Nat} (h : Int64), (∀ i, i < n → ∀ h, f i h = g i h) → fG f n h = fG g n h
  | 0, _, _ => rfl
  | n + 1, h, e => by
    show f n (fG f n h) = g n (fG g n h)
    rw [fG_cg h (fun i hi => e i (by omega)), e n (by omega)]
theorem fG_up {β : Type} (L : Nat → Int64 → Int32 → Option β) (k : Int64 → Option β) (g : Nat → Int64 → Int64) (N : Nat) (hN : N < 5000)
    (hs : ∀ (q i : Nat) (h : Int64), i < N → L (q + 1) h (nI i) = L q (g i h) (nI (i + 1))) (hx : ∀ (q : Nat) (h : Int64), L (q + 1) h (nI N) = k h) (h : Int64) : L FU h 0 = k (fG g N h) := by
  refine up0 (fun q i s => L q s i) N hN (fun i s => s = fG g i h) (fun o => o = k (fG g N h)) ?_ ?_ h rfl
  · intro q i s hi e
    left
    refine ⟨_, rfl, ?_⟩
    subst e
    exact hs q i _ hi
  · intro q s e
    subst e
    exact hx q _
/-- a shelf's digest -/
def rwG (w : Nat) (s c : Nat → Int32) : Nat → Int64 → Int64 := fun r h => fG (hv (fun i => c (w * r + i))) (s r).toNatClampNeg (31 * h + (s r).toInt64)
theorem c_rowL {σ : St} {c w N r : Nat} (h : shf σ c w N) (hr : r < N) (hsz : σ.1 (c + 2) r = -1 ∨ ∃ m, m ≤ w ∧ σ.1 (c + 2) r = nI m) {k : Int64 → Option Int64} (x : Int64) : L3_digestOn_28 σ c (nI r) k FU x 0 = k (fG (hv (fun i => σ.1 (c + 1) (w * r + i))) (σ.1 (c + 2) r).toNatClampNeg x) := by
  have h0 := h
  obtain ⟨h1, h2, h3, h4, h5, h6⟩ := h
  rcases hsz with e | ⟨m, hm, e⟩
  · obtain ⟨q, hq⟩ : ∃ q, FU = q + 1 := ⟨4999, by rw [FU_e]⟩
    rw [e, hq]
    unfold L3_digestOn_28
    rw [h3, gi_nI (by omega) (by omega), nI_clamp (by omega), e, if_pos (by decide), m1_clamp]
    rfl
  · rw [e, nI_clamp (by omega)]
    refine fG_up (fun q s i => L3_digestOn_28 σ c (nI r) k q s i) k _ m (by omega) ?_ ?_ x
    · intro q i y hi
      conv => lhs; unfold L3_digestOn_28
      rw [h3, gi_nI (by omega) (by omega), nI_clamp (by omega), e, if_neg (nI_ge hi (by omega)), c_get h0 hr e hm hi, b1_s, bnd_e, bnd_e, nI_1]
      rfl
    · intro q y
      conv => lhs; unfold L3_digestOn_28
      rw [h3, gi_nI (by omega) (by omega), nI_clamp (by omega), e, if_pos (nI_le (Nat.le_refl _) (by omega))]
theorem c_digestOn {σ : St} {c w N : Nat} (h : shf σ c w N) (hsz : ∀ r, r < N → σ.1 (c + 2) r = -1 ∨ ∃ m, m ≤ w ∧ σ.1 (c + 2) r = nI m) (x : Int64) : f3_digestOn σ c x = some (fG (rwG w (σ.1 (c + 2)) (σ.1 (c + 1))) N x) := by
  have h0 := h
  obtain ⟨h1, h2, h3, h4, h5, h6⟩ := h
  unfold f3_digestOn
  refine fG_up (fun q s i => L3_digestOn_2 σ c (fun x => some x) q s i) _ _ N (by omega) ?_ ?_ x
  · intro q r y hr
    conv => lhs; unfold L3_digestOn_2
    rw [h3, oN, if_neg (nI_ge hr (by omega)), gi_nI hr (by omega), bnd_e, nI_clamp (by omega), c_rowL h0 hr (hsz r hr), bnd_e, nI_1]
    rfl
  · intro q y
    conv => lhs; unfold L3_digestOn_2
    rw [h3, oN, if_pos (nI_le (Nat.le_refl _) (by omega))]
theorem m_rowsL {τ : St} {k : Int64 → Option Int64} (hsz : ∀ r, r < 6 → τ.1 1 r = -1 ∨ ∃ m, m ≤ 40 ∧ τ.1 1 r = nI m) (x : Int64) : L6_digest_197 τ k FU x 0 = k (fG (rwG 40 (τ.1 1) (τ.1 2)) 6 x) := by
  refine fG_up (fun q s i => L6_digest_197 τ k q s i) k _ 6 (by omega) ?_ (fun q y => by unfold L6_digest_197; exact if_pos (show (6 : Int32) ≤ nI 6 by decide)) x
  intro q r y hr
  conv => lhs; unfold L6_digest_197
  rw [show (6 : Int32) = nI 6 from rfl, if_neg (nI_ge hr (by omega)), gi_nI hr (by omega), bnd_e, nI_clamp (by omega)]
  have e : ∀ K, L6_digest_220 τ (nI r) K FU (31 * y + (τ.1 1 r).toInt64) 0 = K (rwG 40 (τ.1 1) (τ.1 2) r y) := fun K => by
    unfold rwG
    rcases hsz r hr with e | ⟨m, hm, e⟩
    · obtain ⟨q, hq⟩ : ∃ q, FU = q + 1 := ⟨4999, by rw [FU_e]⟩
      rw [e, hq]
      unfold L6_digest_220
      rw [gi_nI (by omega) (by omega), nI_clamp (by omega), e, if_pos (by decide), m1_clamp]
      rfl
    · rw [e, nI_clamp (by omega)]
      refine fG_up (fun q s i => L6_digest_220 τ (nI r) K q s i) K _ m (by omega) ?_ ?_ _
      · intro q i y hi
        conv => lhs; unfold L6_digest_220
        rw [gi_nI (by omega) (by omega), nI_clamp (by omega), e, if_neg (nI_ge hi (by omega)), m_idx, gi_nI (by omega) (by omega), nI_clamp (by omega), bnd_e, bnd_e, nI_1]
        rfl
      · intro q y
        conv => lhs; unfold L6_digest_220
        rw [gi_nI (by omega) (by omega), nI_clamp (by omega), e, if_pos (nI_le (Nat.le_refl _) (by omega))]
  rw [e, bnd_e, nI_1]
theorem m_textsL {τ : St} {k : Int64 → Option Int64} (hsz : ∀ r, r < 4 → τ.1 3 r = -1 ∨ ∃ m, m ≤ 60 ∧ τ.1 3 r = nI m) (x : Int64) : L6_digest_265 τ k FU x 0 = k (fG (rwG 60 (τ.1 3) (τ.1 4)) 4 x) := by
  refine fG_up (fun q s i => L6_digest_265 τ k q s i) k _ 4 (by omega) ?_ (fun q y => by unfold L6_digest_265; exact if_pos (show (4 : Int32) ≤ nI 4 by decide)) x
  intro q r y hr
  conv => lhs; unfold L6_digest_265
  rw [show (4 : Int32) = nI 4 from rfl, if_neg (nI_ge hr (by omega)), gi_nI hr (by omega), bnd_e, nI_clamp (by omega)]
  have e : ∀ K, L6_digest_287 τ (nI r) K FU (31 * y + (τ.1 3 r).toInt64) 0 = K (rwG 60 (τ.1 3) (τ.1 4) r y) := fun K => by
    unfold rwG
    rcases hsz r hr with e | ⟨m, hm, e⟩
    · obtain ⟨q, hq⟩ : ∃ q, FU = q + 1 := ⟨4999, by rw [FU_e]⟩
      rw [e, hq]
      unfold L6_digest_287
      rw [gi_nI (by omega) (by omega), nI_clamp (by omega), e, if_pos (by decide), m1_clamp]
      rfl
    · rw [e, nI_clamp (by omega)]
      refine fG_up (fun q s i => L6_digest_287 τ (nI r) K q s i) K _ m (by omega) ?_ ?_ _
      · intro q i y hi
        conv => lhs; unfold L6_digest_287
        rw [gi_nI (by omega) (by omega), nI_clamp (by omega), e, if_neg (nI_ge hi (by omega)), m_idx60, gi_nI (by omega) (by omega), nI_clamp (by omega), bnd_e, bnd_e, nI_1]
        rfl
      · intro q y
        conv => lhs; unfold L6_digest_287
        rw [gi_nI (by omega) (by omega), nI_clamp (by omega), e, if_pos (nI_le (Nat.le_refl _) (by omega))]
  rw [e, bnd_e, nI_1]
theorem rowsR.s1 {w N : Nat} {s c ts tc : Nat → Int32} (h : rowsR w N s c ts tc) : ∀ r, r < N → s r = -1 ∨ ∃ m, m ≤ w ∧ s r = nI m := fun r hr => by
  rcases h r hr with ⟨a, b⟩ | ⟨n, hn, a, b, _⟩
  · exact Or.inl a
  · exact Or.inr ⟨n, hn, a⟩
theorem rowsR.s2 {w N : Nat} {s c ts tc : Nat → Int32} (h : rowsR w N s c ts tc) : ∀ r, r < N → ts r = -1 ∨ ∃ m, m ≤ w ∧ ts r = nI m := fun r hr => by
  rcases h r hr with ⟨a, b⟩ | ⟨n, hn, a, b, _⟩
  · exact Or.inl b
  · exact Or.inr ⟨n, hn, b⟩
theorem rowsR.dg {w N : Nat} {s c ts tc : Nat → Int32} (hw : w ≤ 60) (h : rowsR w N s c ts tc) (x : Int64) : fG (rwG w s c) N x = fG (rwG w ts tc) N x := by
  refine fG_cg x (fun r hr y => ?_)
  unfold rwG
  rcases h r hr with ⟨a, b⟩ | ⟨n, hn, a, b, e⟩
  · rw [a, b, m1_clamp, fG_0, fG_0]
  · rw [a, b, nI_clamp (by omega)]
    refine fG_cg _ (fun i hi z => ?_)
    show 31 * z + (c (w * r + i)).toInt64 = 31 * z + (tc (w * r + i)).toInt64
    rw [e i hi]
theorem c_cardL {σ : St} {n i : Nat} {kd : Nat → Nat} {D : Dk} (hc : CX σ n kd D) (hi : i < n) (k : Int64 → Option Int64) (x : Int64) : L5_digest_47 σ (nI i) k FU x 0 = k (fG (hv (fun w => nI (cardV kd D i w))) 8 x) := by
  refine fG_up (fun q s i' => L5_digest_47 σ (nI i) k q s i') k (hv (fun w => nI (cardV kd D i w))) 8 (by omega) (fun q w y hw => ?_) (fun q y => by unfold L5_digest_47; exact if_pos (show (8 : Int32) ≤ nI 8 by decide)) x
  conv => lhs; unfold L5_digest_47
  rw [if_neg (show ¬ (8 : Int32) ≤ nI w from nI_ge (b := 8) hw (by omega)), c_cardFact hc hi hw, b1_s, bnd_e, bnd_e, nI_1]
  rfl
theorem m_figL {τ : St} {n i : Nat} {kd : Nat → Nat} {D : Dk} (hm : mD τ 6 n kd D) (hi : i < n) (k : Int64 → Option Int64) (x : Int64) : L6_digest_58 τ (nI i) k FU x 0 = k (fG (hv (fun w => nI (D.2.1 (3 * i + w)))) 3 x) := by
  have hn := hm.2.1
  refine fG_up (fun q s i' => L6_digest_58 τ (nI i) k q s i') k (hv (fun w => nI (D.2.1 (3 * i + w)))) 3 (by omega) (fun q w y hw => ?_) (fun q y => by unfold L6_digest_58; exact if_pos (show (3 : Int32) ≤ nI 3 by decide)) x
  conv => lhs; unfold L6_digest_58
  have hvv := hm.2.2.2.1.2.1 (3 * i + w) (by omega)
  rw [Nat.zero_add] at hvv
  rw [if_neg (show ¬ (3 : Int32) ≤ nI w from nI_ge (b := 3) hw (by omega)), show (6 : Int32) + 3 * nI i + nI w = nI (6 + (3 * i + w)) by rw [show (6 : Int32) = nI 6 from rfl, show (3 : Int32) = nI 3 from rfl, pk_mul, nI_add, nI_add, Nat.add_assoc], gi_nI (by omega) (by omega), nI_clamp (by omega), hvv, bnd_e, bnd_e, nI_1]
  rfl
theorem m_redL {τ : St} {n i : Nat} {kd : Nat → Nat} {D : Dk} (hm : mD τ 6 n kd D) (hi : i < n) (k : Int64 → Option Int64) (x : Int64) : L6_digest_111 τ (nI i) k FU x 0 = k (fG (hv (fun w => nI (pkt kd D.2.1 D.2.2 w i))) 3 x) := by
  refine fG_up (fun q s i' => L6_digest_111 τ (nI i) k q s i') k (hv (fun w => nI (pkt kd D.2.1 D.2.2 w i))) 3 (by omega) (fun q w y hw => ?_) (fun q y => by unfold L6_digest_111; exact if_pos (show (3 : Int32) ≤ nI 3 by decide)) x
  conv => lhs; unfold L6_digest_111
  rw [if_neg (show ¬ (3 : Int32) ≤ nI w from nI_ge (b := 3) hw (by omega)), m_readOn hm (Or.inl rfl) hi hw, b1_s, bnd_e, bnd_e, nI_1]
  rfl
theorem e_digest {σ τ : St} (h : Rel σ τ) : SimR (f5_digest σ) (f6_digest τ) := by
  obtain ⟨n, kd, bs, ds, kp, hA, hC, hM⟩ := h.2.2.2.2
  have hn6 := hA.2.1
  have hc := hC.cx hA
  have hm := hM.mx hA
  generalize rpl n kd bs ds = D at hc hm
  have hcv : ∀ k, k < 10 → f5_counted σ (nI k) = some ((f5_counted σ (nI k)).getD 0) ∧ f6_count τ (nI k) = some ((f5_counted σ (nI k)).getD 0) := fun k hk => by
    obtain ⟨v, h1, h2⟩ := e_counted h hk
    rw [h1, h2]
    exact ⟨rfl, rfl⟩
  generalize hgv : (fun k => (f5_counted σ (nI k)).getD 0) = cv
  have hc1 : ∀ k, k < 10 → f5_counted σ (nI k) = some (cv k) := fun k hk => by rw [← hgv]; exact (hcv k hk).1
  have hc2 : ∀ k, k < 10 → f6_count τ (nI k) = some (cv k) := fun k hk => by rw [← hgv]; exact (hcv k hk).2
  have k9 : ∀ k, k < 3 → f3_sizeOf σ 7 (nI k) = some (σ.1 9 k) := fun k hk => c_sizeOf h.sh7 hk
  have z9 : ∀ k, k < 3 → (if τ.1 10 k = 0 then (-1 : Int32) else τ.1 9 (1026 * k + 25)) = σ.1 9 k := fun k hk => by
    cases e : kp k with
    | none => rw [hM.2.2.2.2.2.1 k hk e, hC.2.2.2.2.2.2.1 k hk e]; rfl
    | some es => rw [(hM.2.2.2.2.2.2 k es hk e).1, (hC.2.2.2.2.2.2.2 k es hk e).1, i10, (hM.2.2.2.2.2.2 k es hk e).2.1]
  unfold f5_digest f6_digest
  refine ⟨fG (rwG 60 (σ.1 6) (σ.1 5)) 4 (fG (rwG 40 (σ.1 3) (σ.1 2)) 6 (fG (hv (σ.1 9)) 3 (fG (fun i => fG (hv (fun w => nI (cardV kd D i w))) 8) n (fG (hv cv) 10 17)))), ?_, ?_⟩
  · rw [fG_up (fun q s i => L5_digest_6 σ _ q s i) _ (hv cv) 10 (by omega) (fun q i y hi => by
      conv => lhs; unfold L5_digest_6
      rw [show (10 : Int32) = nI 10 from rfl, if_neg (nI_ge hi (by omega)), hc1 i hi, b1_s, bnd_e, bnd_e, nI_1]
      rfl) (fun q y => by unfold L5_digest_6; exact if_pos (show (10 : Int32) ≤ nI 10 by decide))]
    rw [fG_up (fun q s i => L5_digest_33 σ _ q s i) _ (fun i => fG (hv (fun w => nI (cardV kd D i w))) 8) n (by omega) (fun q i y hi => by
      conv => lhs; unfold L5_digest_33
      rw [hc.1, if_neg (nI_ge hi (by omega)), c_cardL hc hi, bnd_e, nI_1]) (fun q y => by conv => lhs; unfold L5_digest_33; rw [hc.1, if_pos (nI_le (Nat.le_refl _) (by omega))])]
    rw [fG_up (fun q s i => L5_digest_83 σ _ q s i) _ (hv (σ.1 9)) 3 (by omega) (fun q i y hi => by
      conv => lhs; unfold L5_digest_83
      rw [show (3 : Int32) = nI 3 from rfl, if_neg (nI_ge hi (by omega)), k9 i hi, b1_s, bnd_e, bnd_e, nI_1]
      rfl) (fun q y => by unfold L5_digest_83; exact if_pos (show (3 : Int32) ≤ nI 3 by decide))]
    rw [c_digestOn h.sh1 h.2.1.s1, b1_s, c_digestOn h.sh4 h.2.2.1.s1, b1_s]
  · rw [fG_up (fun q s i => L6_digest_6 τ _ q s i) _ (hv cv) 10 (by omega) (fun q i y hi => by
      conv => lhs; unfold L6_digest_6
      rw [show (10 : Int32) = nI 10 from rfl, if_neg (nI_ge hi (by omega)), hc2 i hi, b1_s, bnd_e, bnd_e, nI_1]
      rfl) (fun q y => by unfold L6_digest_6; exact if_pos (show (10 : Int32) ≤ nI 10 by decide))]
    rw [fG_up (fun q s i => L6_digest_33 τ _ q s i) _ (fun i => fG (hv (fun w => nI (cardV kd D i w))) 8) n (by omega) (fun q i y hi => by
      conv => lhs; unfold L6_digest_33
      rw [hm.1, if_neg (nI_ge hi (by omega)), gi_nI (by omega) (by omega), bnd_e, nI_clamp (by omega), (hm.2.2.1 i hi).1]
      rw [m_figL hm hi]
      rw [mD.placeOf hm (Or.inl rfl) hi, b1_s, bnd_e]
      rw [m_redL hm hi, bnd_e, nI_1]
      rfl) (fun q y => by conv => lhs; unfold L6_digest_33; rw [hm.1, if_pos (nI_le (Nat.le_refl _) (by omega))])]
    rw [fG_up (fun q s i => L6_digest_150 τ _ q s i) _ (hv (σ.1 9)) 3 (by omega) (fun q i y hi => by
      conv => lhs; unfold L6_digest_150
      simp only [jn_e, bnd_e]
      rw [show (3 : Int32) = nI 3 from rfl, if_neg (nI_ge hi (by omega)), gi_nI hi (by omega), nI_clamp (by omega), show (1026 : Int32) = nI 1026 from rfl, show (25 : Int32) = nI 25 from rfl, pk_mul, nI_add, gi_nI (by omega) (by omega), nI_clamp (by omega), nI_1]
      show _ = L6_digest_150 τ _ q (31 * y + (σ.1 9 i).toInt64) (nI (i + 1))
      rw [← z9 i hi]
      by_cases e : τ.1 10 i = 0
      · rw [if_pos e, if_pos e]
      · rw [if_neg e, if_neg e]) (fun q y => by unfold L6_digest_150; exact if_pos (show (3 : Int32) ≤ nI 3 by decide))]
    rw [m_rowsL h.2.1.s2, m_textsL h.2.2.1.s2, h.2.1.dg (by omega), h.2.2.1.dg (by omega)]
