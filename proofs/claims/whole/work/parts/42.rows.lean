theorem i10 {β : Type} (a b : β) : (if (1 : Int32) = 0 then a else b) = b := if_neg (by decide)
theorem i00 {β : Type} (a b : β) : (if (0 : Int32) = 0 then a else b) = a := if_pos rfl
theorem im1 {β : Type} (a b : β) : (if (-1 : Int32) = 0 then a else b) = b := if_neg (by decide)
theorem im3 {β : Type} (a b : β) : (if (-3 : Int32) = 0 then a else b) = b := if_neg (by decide)
theorem im4 {β : Type} (a b : β) : (if (-4 : Int32) = 0 then a else b) = b := if_neg (by decide)
theorem im2 {β : Type} (a b : β) : (if (-2 : Int32) = 0 then a else b) = b := if_neg (by decide)
theorem c_holds0 {σ : St} {c w N r : Nat} (h : shf σ c w N) (hr : r < N) (hs : σ.1 (c + 2) r = -1) : f3_holds σ c (nI r) = some 0 := by
  rw [c_holds h hr, hs, if_neg (by decide)]
theorem c_holds1 {σ : St} {c w N r n : Nat} (h : shf σ c w N) (hr : r < N) (hs : σ.1 (c + 2) r = nI n) (hn : n < 2147483648) : f3_holds σ c (nI r) = some 1 := by
  rw [c_holds h hr, hs, i_lit n hn, if_pos (by omega)]
theorem Rel.chg {σ σ' τ τ' : St} (h : Rel σ τ) (hr : rowsR 40 6 (σ'.1 3) (σ'.1 2) (τ'.1 1) (τ'.1 2)) (ht : rowsR 60 4 (σ'.1 6) (σ'.1 5) (τ'.1 3) (τ'.1 4)) (tl : tellR σ' τ')
    (e1 : σ'.1 1 = σ.1 1 := by rfl) (e4 : σ'.1 4 = σ.1 4 := by rfl) (e7 : σ'.1 7 = σ.1 7 := by rfl) (e8 : σ'.1 8 = σ.1 8 := by rfl) (e9 : σ'.1 9 = σ.1 9 := by rfl) (e13 : σ'.1 13 = σ.1 13 := by rfl) (e14 : σ'.1 14 = σ.1 14 := by rfl) (e15 : σ'.1 15 = σ.1 15 := by rfl) (e16 : σ'.1 16 = σ.1 16 := by rfl) (e17 : σ'.1 17 = σ.1 17 := by rfl) (e20 : σ'.1 20 = σ.1 20 := by rfl)
    (f4 : τ'.1 0 4 = τ.1 0 4 := by rfl) (g9 : τ'.1 0 9 = τ.1 0 9 := by rfl) (f5 : τ'.1 5 = τ.1 5 := by rfl) (f6 : τ'.1 6 = τ.1 6 := by rfl) (f8 : τ'.1 8 = τ.1 8 := by rfl) (f9 : τ'.1 9 = τ.1 9 := by rfl) (f10 : τ'.1 10 = τ.1 10 := by rfl) : Rel σ' τ' := by
  obtain ⟨⟨w1, w2, w3⟩, -, -, -, hd⟩ := h
  refine ⟨⟨by rw [e1]; exact w1, by rw [e4]; exact w2, by rw [e7]; exact w3⟩, hr, ht, tl, hd.cg (fun k _ => by rw [e13]) (fun c hc => ?_) f4 g9 (fun c hc => ?_)⟩
  · simp only [List.mem_cons, List.not_mem_nil, or_false] at hc
    rcases hc with rfl | rfl | rfl | rfl | rfl | rfl | rfl <;> assumption
  · simp only [List.mem_cons, List.not_mem_nil, or_false] at hc
    rcases hc with rfl | rfl | rfl | rfl | rfl <;> assumption
theorem Rel.tell {σ τ : St} (h : Rel σ τ) (v : Int32) : Rel (wI σ 0 9 v) (wI τ 0 12 v) :=
  h.chg h.2.1 h.2.2.1 ⟨rfl, h.2.2.2.1.2.1, h.2.2.2.1.2.2.1, h.2.2.2.1.2.2.2.1, h.2.2.2.1.2.2.2.2⟩
/-- what a refused row or text answers -/
theorem sim_refRow {σ τ : St} (h : Rel σ τ) {x : Int32} {B : St → Option (Int32 × St)} {B' : Option (Int32 × St)}
    (hb : ∀ r n : Nat, r < 6 → n ≤ 40 → x = nI r → σ.1 3 r = nI n → τ.1 1 r = nI n → (∀ i, i < n → σ.1 2 (40 * r + i) = τ.1 2 (40 * r + i)) → Sim (B σ) B') :
    Sim (b2 (f5_refusedRow σ x) fun r σ3 => if r = 0 then B σ3 else some (r, σ3)) (b1 (f6_isRow x) fun r => if r = 0 then some (-1, τ) else gi x 6 (if 0 ≤ τ.1 1 x.toNatClampNeg then B' else b2 (f6_found τ 1) fun r σ => some (r, σ))) := by
  unfold f5_refusedRow
  rw [c_isRow, m_isRow, b1_s, b1_s]
  rcases ix x 6 (by omega) with hx | ⟨r, hr, rfl⟩
  · rw [inB_out hx, if_pos rfl, if_pos rfl, b2_s, if_neg (by decide)]
    exact Sim.of h _
  · rw [inB_nI hr (by omega), if_neg (by decide), if_neg (by decide), gi_nI hr (by omega), nI_clamp (by omega)]
    obtain ⟨g1, g2, g3⟩ := h.found (k := 1) (by omega)
    rcases h.2.1 r hr with ⟨s1, s2⟩ | ⟨n, hn, s1, s2, hc⟩
    · rw [c_holds0 h.sh1 hr s1, b1_s, s2, if_pos rfl, if_neg (by decide), show (1 : Int32) = nI 1 from rfl, g1, g2, b2_s, b2_s, b2_s, if_neg (by decide)]
      exact Sim.of g3 _
    · rw [c_holds1 h.sh1 hr s1 (by omega), b1_s, s2, if_neg (by decide), b2_s, if_pos rfl, if_pos (nI_pos' (by omega))]
      exact hb r n hr hn rfl s1 s2 hc
theorem sim_refText {σ τ : St} (h : Rel σ τ) {x : Int32} {B : St → Option (Int32 × St)} {B' : Option (Int32 × St)}
    (hb : ∀ r n : Nat, r < 4 → n ≤ 60 → x = nI r → σ.1 6 r = nI n → τ.1 3 r = nI n → (∀ i, i < n → σ.1 5 (60 * r + i) = τ.1 4 (60 * r + i)) → Sim (B σ) B') :
    Sim (b2 (f5_refusedText σ x) fun r σ3 => if r = 0 then B σ3 else some (r, σ3)) (b1 (f6_isText x) fun r => if r = 0 then some (-1, τ) else gi x 4 (if 0 ≤ τ.1 3 x.toNatClampNeg then B' else b2 (f6_found τ 1) fun r σ => some (r, σ))) := by
  unfold f5_refusedText
  rw [c_isText, m_isText, b1_s, b1_s]
  rcases ix x 4 (by omega) with hx | ⟨r, hr, rfl⟩
  · rw [inB_out hx, if_pos rfl, if_pos rfl, b2_s, if_neg (by decide)]
    exact Sim.of h _
  · rw [inB_nI hr (by omega), if_neg (by decide), if_neg (by decide), gi_nI hr (by omega), nI_clamp (by omega)]
    obtain ⟨g1, g2, g3⟩ := h.found (k := 1) (by omega)
    rcases h.2.2.1 r hr with ⟨s1, s2⟩ | ⟨n, hn, s1, s2, hc⟩
    · rw [c_holds0 h.sh4 hr s1, b1_s, s2, if_pos rfl, if_neg (by decide), show (1 : Int32) = nI 1 from rfl, g1, g2, b2_s, b2_s, b2_s, if_neg (by decide)]
      exact Sim.of g3 _
    · rw [c_holds1 h.sh4 hr s1 (by omega), b1_s, s2, if_neg (by decide), b2_s, if_pos rfl, if_pos (nI_pos' (by omega))]
      exact hb r n hr hn rfl s1 s2 hc
/-- a place of a row: the class's test and the reference's -/
theorem c_place {σ : St} {c w N r m : Nat} (h : shf σ c w N) (hr : r < N) (hs : σ.1 (c + 2) r = nI m) (hm : m ≤ w) (i : Int32) : f3_spans σ c (nI r) i 1 = some (inB i m) := by
  have hw : w ≤ 60 := h.2.2.2.2.1
  rw [c_spans h hr (by rw [hs, i_lit m (by omega)]; omega) (by rw [hs, i_lit m (by omega)]; omega), hs, i_lit m (by omega), show (1 : Int32).toInt = 1 from by decide]
  unfold inB
  by_cases q : 0 ≤ i.toInt ∧ i.toInt < m
  · rw [if_pos q, if_pos (by omega)]
  · rw [if_neg q, if_neg (by omega)]
theorem m_place (i : Int32) {m : Nat} (hm : m ≤ 60) : f6_in i.toInt64 0 ((nI m - 1).toInt64) = some (inB i m) := by
  refine m_inB i m _ ?_
  have e1 : (1 : Int32).toInt = 1 := by decide
  have e2 := i_lit m (by omega)
  rw [l_of, i_sub (by omega) (by omega), e2, e1]
theorem sim_refPlace {σ τ : St} (h : Rel σ τ) {x y : Int32} {B : St → Option (Int32 × St)} {B' : Option (Int32 × St)}
    (hb : ∀ r n i : Nat, r < 6 → n ≤ 40 → i < n → x = nI r → y = nI i → σ.1 3 r = nI n → τ.1 1 r = nI n → (∀ i, i < n → σ.1 2 (40 * r + i) = τ.1 2 (40 * r + i)) → Sim (B σ) B') :
    Sim (b2 (f5_refusedPlace σ x y) fun r σ3 => if r = 0 then B σ3 else some (r, σ3)) (b1 (f6_isRow x) fun r => if r = 0 then some (-1, τ) else gi x 6 (if 0 ≤ τ.1 1 x.toNatClampNeg then gi x 6 (b1 (f6_in y.toInt64 0 ((τ.1 1 x.toNatClampNeg - 1).toInt64)) fun r => if r = 0 then b2 (f6_found τ 2) fun r σ => some (r, σ) else B') else b2 (f6_found τ 1) fun r σ => some (r, σ))) := by
  have e : (b2 (f5_refusedPlace σ x y) fun r σ3 => if r = 0 then B σ3 else some (r, σ3)) = (b2 (f5_refusedRow σ x) fun r σ3 => if r = 0 then (b1 (f3_spans σ3 1 x y 1) fun r5 => if r5 = 0 then b2 (f5_found σ3 2) fun r7 σ8 => (if r7 = 0 then B σ8 else some (r7, σ8)) else B σ3) else some (r, σ3)) := by
    unfold f5_refusedPlace
    cases f5_refusedRow σ x with
    | none => rfl
    | some q =>
      obtain ⟨r, s⟩ := q
      show b2 (if r = 0 then _ else _) _ = (if r = 0 then _ else _)
      by_cases c1 : r = 0
      · rw [if_pos c1, if_pos c1]
        cases f3_spans s 1 x y 1 with
        | none => rfl
        | some r5 =>
          show b2 (if r5 = 0 then _ else _) _ = (if r5 = 0 then _ else _)
          by_cases c2 : r5 = 0
          · rw [if_pos c2, if_pos c2]
            cases f5_found s 2 with
            | none => rfl
            | some q => rfl
          · rw [if_neg c2, if_neg c2]
            rfl
      · rw [if_neg c1, if_neg c1]
        show (if r = 0 then _ else _) = _
        rw [if_neg c1]
  rw [e]
  refine sim_refRow h (fun r n hr hn hx s1 s2 hc => ?_)
  subst hx
  rw [c_place h.sh1 hr s1 hn, gi_nI hr (by omega), nI_clamp (by omega), s2, m_place y (by omega), b1_s, b1_s]
  obtain ⟨g1, g2, g3⟩ := h.found (k := 2) (by omega)
  rcases ix y n (by omega) with hy | ⟨i, hi, rfl⟩
  · rw [inB_out hy, if_pos rfl, if_pos rfl, show (2 : Int32) = nI 2 from rfl, g1, g2, b2_s, b2_s, if_neg (by decide)]
    exact Sim.of g3 _
  · rw [inB_nI hi (by omega), if_neg (by decide), if_neg (by decide)]
    exact hb r n i hr hn hi rfl rfl s1 s2 hc
theorem m_idx {r i : Nat} : (40 : Int32) * nI r + nI i = nI (40 * r + i) := by
  rw [show (40 : Int32) = nI 40 from rfl, pk_mul, nI_add]
theorem m_idx60 {r i : Nat} : (60 : Int32) * nI r + nI i = nI (60 * r + i) := by
  rw [show (60 : Int32) = nI 60 from rfl, pk_mul, nI_add]
theorem e_at {σ τ : St} (h : Rel σ τ) (x y : Int32) : Sim (f5_at σ x y) (f6_at τ x y) := by
  unfold f5_at f6_at
  refine sim_refPlace h (fun r n i hr hn hi hx hy s1 s2 hc => ?_)
  subst hx
  subst hy
  rw [c_get h.sh1 hr s1 hn hi, b1_s, bnd_e, m_idx, gi_nI (by omega) (by omega), nI_clamp (by omega)]
  unfold f6_tell
  rw [bnd_e, b2_s, hc i hi]
  exact Sim.of (h.tell _) _
theorem rowne {w r r' i n : Nat} (hne : r' ≠ r) (hi : i < w) (hn : n ≤ w) : w * r' + i < w * r ∨ w * r + n ≤ w * r' + i := by
  rcases Nat.lt_or_gt_of_ne hne with q | q
  · have := Nat.mul_le_mul_left w (show r' + 1 ≤ r from q)
    rw [Nat.mul_add, Nat.mul_one] at this
    omega
  · have := Nat.mul_le_mul_left w (show r + 1 ≤ r' from q)
    rw [Nat.mul_add, Nat.mul_one] at this
    omega
theorem rowsR.one {w N r k : Nat} {s c ts tc : Nat → Int32} (h : rowsR w N s c ts tc) (hk : r < N) (hr : k < w) (v : Int32) : rowsR w N s (upd c (w * r + k) v) ts (upd tc (w * r + k) v) := by
  intro r' hr'
  rcases h r' hr' with q | ⟨n, hn, s1, s2, hc⟩
  · exact Or.inl q
  · refine Or.inr ⟨n, hn, s1, s2, fun i hi => ?_⟩
    rw [upd_a, upd_a, hc i hi]
theorem rowsR.set {w N r n : Nat} {s c ts tc c' tc' : Nat → Int32} (h : rowsR w N s c ts tc) (hr : r < N) (hn : n ≤ w) (h1 : ∀ r' i, r' < N → r' ≠ r → i < w → c' (w * r' + i) = c (w * r' + i)) (h2 : ∀ r' i, r' < N → r' ≠ r → i < w → tc' (w * r' + i) = tc (w * r' + i)) (h3 : ∀ i, i < n → c' (w * r + i) = tc' (w * r + i)) : rowsR w N (upd s r (nI n)) c' (upd ts r (nI n)) tc' := by
  intro r' hr'
  by_cases e : r' = r
  · subst e
    exact Or.inr ⟨n, hn, upd_s _ _ _, upd_s _ _ _, h3⟩
  · rw [upd_n _ _ e, upd_n _ _ e]
    rcases h r' hr' with q | ⟨n', hn', s1, s2, hc⟩
    · exact Or.inl q
    · exact Or.inr ⟨n', hn', s1, s2, fun i hi => by rw [h1 r' i hr' e (by omega), h2 r' i hr' e (by omega), hc i hi]⟩
theorem rowsR.del {w N r : Nat} {s c ts tc : Nat → Int32} (h : rowsR w N s c ts tc) : rowsR w N (upd s r (-1)) c (upd ts r (-1)) tc := by
  intro r' hr'
  by_cases e : r' = r
  · subst e
    exact Or.inl ⟨upd_s _ _ _, upd_s _ _ _⟩
  · rw [upd_n _ _ e, upd_n _ _ e]
    exact h r' hr'
theorem flF_ne {f : Nat → Int32} {w r r' i n : Nat} {v : Int32} (hne : r' ≠ r) (hi : i < w) (hn : n ≤ w) : flF f (w * r) n v (w * r' + i) = f (w * r' + i) := by
  unfold flF
  rw [if_neg]
  have := rowne hne hi hn
  omega
theorem flF_in {f : Nat → Int32} {a n i : Nat} {v : Int32} (hi : i < n) : flF f a n v (a + i) = v := by
  unfold flF
  rw [if_pos (by omega)]
theorem e_lay {σ τ : St} (h : Rel σ τ) (x y v : Int32) : Sim (f5_lay σ x y v) (f6_lay τ x y v) := by
  unfold f5_lay f6_lay
  refine sim_refPlace h (fun r n i hr hn hi hx hy s1 s2 hc => ?_)
  subst hx
  subst hy
  have h2 : Rel (wI σ 0 9 (σ.1 2 (40 * r + i))) (wI τ 0 12 (σ.1 2 (40 * r + i))) := h.tell _
  rw [c_get h.sh1 hr s1 hn hi, b1_s, bnd_e, c_set h2.sh1 hr s1 hn hi, b1_s, m_idx, gi_nI (by omega) (by omega), bnd_e, gi_nI (by omega) (by omega), bnd_e, nI_clamp (by omega)]
  unfold f6_tell
  rw [bnd_e, b2_s]
  refine ⟨1, _, _, rfl, rfl, ?_⟩
  rw [← hc i hi]
  exact h.chg (h.2.1.one hr (by omega) v) h.2.2.1 ⟨rfl, h.2.2.2.1.2.1, h.2.2.2.1.2.2.1, h.2.2.2.1.2.2.2.1, h.2.2.2.1.2.2.2.2⟩
theorem e_tear {σ τ : St} (h : Rel σ τ) (x : Int32) : Sim (f5_tear σ x) (f6_tear τ x) := by
  unfold f5_tear f6_tear
  refine sim_refRow h (fun r n hr hn hx s1 s2 hc => ?_)
  subst hx
  rw [c_remove h.sh1 hr, b1_s, gi_nI hr (by omega), bnd_e, nI_clamp (by omega)]
  exact ⟨1, _, _, rfl, rfl, h.chg h.2.1.del h.2.2.1 h.2.2.2.1⟩
theorem m_rowL {x : Int32} {r : Nat} {k : St → Option (Int32 × St)} (hr : r < 6) (τ : St) : L6_row_34 (nI r) x k FU 0 τ = k (wA τ 2 (flF (τ.1 2) (40 * r) 40 0)) := by
  refine up0 (fun q i s => L6_row_34 (nI r) x k q i s) 40 (by omega) (fun i s => s = wA τ 2 (flF (τ.1 2) (40 * r) i 0)) (fun o => o = k (wA τ 2 (flF (τ.1 2) (40 * r) 40 0))) ?_ ?_ _ ?_
  · intro q i s hi hs
    left
    refine ⟨_, rfl, ?_⟩
    subst hs
    conv => lhs; unfold L6_row_34
    rw [show (40 : Int32) = nI 40 from rfl, if_neg (nI_ge hi (by omega)), ← show (40 : Int32) = nI 40 from rfl, m_idx, gi_nI (by omega) (by omega), bnd_e, bnd_e, nI_clamp (by omega), nI_1, wI_A, wA_s, wA_wA, flF_s]
  · intro q s hs
    subst hs
    unfold L6_row_34
    rw [show (40 : Int32) = nI 40 from rfl, if_pos (nI_le (Nat.le_refl _) (by omega))]
  · rw [flF_0, wA_self]
theorem m_textL {x : Int32} {r : Nat} {k : St → Option (Int32 × St)} (hr : r < 4) (τ : St) : L6_text_34 (nI r) x k FU 0 τ = k (wA τ 4 (flF (τ.1 4) (60 * r) 60 32)) := by
  refine up0 (fun q i s => L6_text_34 (nI r) x k q i s) 60 (by omega) (fun i s => s = wA τ 4 (flF (τ.1 4) (60 * r) i 32)) (fun o => o = k (wA τ 4 (flF (τ.1 4) (60 * r) 60 32))) ?_ ?_ _ ?_
  · intro q i s hi hs
    left
    refine ⟨_, rfl, ?_⟩
    subst hs
    conv => lhs; unfold L6_text_34
    rw [show (60 : Int32) = nI 60 from rfl, if_neg (nI_ge hi (by omega)), ← show (60 : Int32) = nI 60 from rfl, m_idx60, gi_nI (by omega) (by omega), bnd_e, bnd_e, nI_clamp (by omega), nI_1, wI_A, wA_s, wA_wA, flF_s]
  · intro q s hs
    subst hs
    unfold L6_text_34
    rw [show (60 : Int32) = nI 60 from rfl, if_pos (nI_le (Nat.le_refl _) (by omega))]
  · rw [flF_0, wA_self]
theorem e_row {σ τ : St} (h : Rel σ τ) (x y : Int32) : Sim (f5_row σ x y) (f6_row τ x y) := by
  unfold f5_row f6_row
  rw [c_isRow, m_isRow, b1_s, b1_s]
  rcases ix x 6 (by omega) with hx | ⟨r, hr, rfl⟩
  · rw [inB_out hx, if_pos rfl, if_pos rfl]
    exact Sim.of h _
  · rw [inB_nI hr (by omega), i10, i10]
    by_cases c1 : y ≤ 40
    · rw [if_pos c1, if_pos c1]
      by_cases c2 : 0 ≤ y
      · rw [if_pos c2, if_pos c2]
        obtain ⟨n, hn, rfl⟩ : ∃ n : Nat, n ≤ 40 ∧ y = nI n := nI_of2 (M := 40) (n := 40) (by decide) (by rw [i_lt]; rw [i_le] at c2; omega) c1
        rw [show (0 : Int32) = nI 0 from rfl, c_make h.sh1 hr hn, b1_s, gi_nI hr (by omega), bnd_e, nI_clamp (by omega), ← show (0 : Int32) = nI 0 from rfl, m_rowL hr]
        refine ⟨_, _, _, rfl, rfl, h.chg ?_ h.2.2.1 h.2.2.2.1⟩
        exact h.2.1.set hr hn (fun r' i _ hne hi => flF_ne hne hi hn) (fun r' i _ hne hi => flF_ne hne hi (Nat.le_refl _)) (fun i hi => by
          show flF (σ.1 2) (40 * r) n 0 (40 * r + i) = flF (τ.1 2) (40 * r) 40 0 (40 * r + i)
          rw [flF_in hi, flF_in (by omega)])
      · rw [if_neg c2, if_neg c2]
        exact Sim.found h (k := 5) (by omega)
    · rw [if_neg c1, if_neg c1]
      exact Sim.of h _
theorem e_text {σ τ : St} (h : Rel σ τ) (x y : Int32) : Sim (f5_text σ x y) (f6_text τ x y) := by
  unfold f5_text f6_text
  rw [c_isText, m_isText, b1_s, b1_s]
  rcases ix x 4 (by omega) with hx | ⟨r, hr, rfl⟩
  · rw [inB_out hx, if_pos rfl, if_pos rfl]
    exact Sim.of h _
  · rw [inB_nI hr (by omega), i10, i10]
    by_cases c1 : y ≤ 60
    · rw [if_pos c1, if_pos c1]
      by_cases c2 : 0 ≤ y
      · rw [if_pos c2, if_pos c2]
        obtain ⟨n, hn, rfl⟩ : ∃ n : Nat, n ≤ 60 ∧ y = nI n := nI_of2 (M := 60) (n := 60) (by decide) (by rw [i_lt]; rw [i_le] at c2; omega) c1
        rw [c_make h.sh4 hr hn, b1_s, gi_nI hr (by omega), bnd_e, nI_clamp (by omega), m_textL hr]
        refine ⟨_, _, _, rfl, rfl, h.chg h.2.1 ?_ h.2.2.2.1⟩
        exact h.2.2.1.set hr hn (fun r' i _ hne hi => flF_ne hne hi hn) (fun r' i _ hne hi => flF_ne hne hi (Nat.le_refl _)) (fun i hi => by
          show flF (σ.1 5) (60 * r) n 32 (60 * r + i) = flF (τ.1 4) (60 * r) 60 32 (60 * r + i)
          rw [flF_in hi, flF_in (by omega)])
      · rw [if_neg c2, if_neg c2]
        exact Sim.found h (k := 5) (by omega)
    · rw [if_neg c1, if_neg c1]
      exact Sim.of h _
theorem e_put {σ τ : St} (h : Rel σ τ) (x y v : Int32) : Sim (f5_put σ x y v) (f6_put τ x y v) := by
  unfold f5_put f6_put
  refine sim_refText h (fun r n hr hn hx s1 s2 hc => ?_)
  subst hx
  rw [c_place h.sh4 hr s1 hn, gi_nI hr (by omega), nI_clamp (by omega), s2, m_place y (by omega), b1_s, b1_s]
  rcases ix y n (by omega) with hy | ⟨i, hi, rfl⟩
  · rw [inB_out hy, if_pos rfl, if_pos rfl]
    exact Sim.found h (k := 2) (by omega)
  · rw [inB_nI hi (by omega), if_neg (by decide), if_neg (by decide), c_get h.sh4 hr s1 hn hi, b1_s, c_set h.sh4 hr s1 hn hi, b1_s, m_idx60, gi_nI (by omega) (by omega), bnd_e, gi_nI (by omega) (by omega), bnd_e, nI_clamp (by omega), hc i hi]
    exact ⟨_, _, _, rfl, rfl, h.chg h.2.1 (h.2.2.1.one hr (by omega) _) h.2.2.2.1⟩
