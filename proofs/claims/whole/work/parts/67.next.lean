/-! figures that fit; which column tells the most -/
theorem e_figures {σ τ : St} (h : Rel σ τ) (x y z : Int32) : Sim (f5_figures σ x y z) (f6_figures τ x y z) := by
  obtain ⟨n, kd, bs, ds, kp, hA, hC, hM⟩ := h.2.2.2.2
  have hn6 := hA.2.1
  have hc := hC.cx hA
  have hm := hM.mx hA
  generalize rpl n kd bs ds = D at hc hm
  unfold f5_figures f6_figures
  rw [c_refClues hC.1 hn6, m_isCard hM.1 hn6, b1_s, m_isColumn, b1_s, m_isRow, b1_s]
  rcases ix x n (by omega) with hx | ⟨i, hi, rfl⟩
  · rw [inB_out hx, i00, i00, b2_s, im1]
    exact Sim.of h _
  rw [inB_nI hi (by omega), i10, i10]
  rcases ix y 3 (by omega) with hy | ⟨col, hcol, rfl⟩
  · rw [inB_out hy, i00, i00, b2_s, im1]
    exact Sim.of h _
  rw [inB_nI hcol (by omega), i10, i10]
  rcases ix z 6 (by omega) with hz | ⟨r, hr, rfl⟩
  · rw [inB_out hz, i00, i00, b2_s, im1]
    exact Sim.of h _
  rw [inB_nI hr (by omega), i10, i10]
  rcases e_pairs h hr with ⟨k, k1, k2, p1, p2⟩ | ⟨p1, p2, hh, c, v, q1, q2⟩
  · obtain ⟨g1, g2, g3⟩ := h.found k2
    rw [p1, p2, b1_s, if_neg (nI_nle k1 (by omega)), g1, g2, b2_s, b2_s, b2_s, im3]
    exact Sim.of g3 _
  rw [p1, p2, b1_s, b2_s, i00, if_pos (by decide)]
  have hp := hc.2.2.2.2.2.2.2.2
  have hg : ∀ c, c < 3 → D.2.1 (3 * i + c) ≤ 9 := fun c hc' => hc.2.2.2.2.2.2.2.1 _ (by omega)
  have hki := hc.2.2.1 i hi
  generalize hG : (fun f => fit (kd i) (updN (fun c => D.2.1 (3 * i + c)) col f) D.2.2 hh c v) = G
  have hgu : ∀ f, f < 10 → ∀ c, c < 3 → updN (fun c => D.2.1 (3 * i + c)) col f c ≤ 9 := fun f hf c hc' => by
    unfold updN
    split
    · omega
    · exact hg c hc'
  obtain ⟨σ1, e1, f1, f2, f3⟩ := c_suppose hc.2.2.2.1 hn6 hi
  obtain ⟨τ1, e2, g1, m1⟩ := hm.aside
  have hv7 : ∀ c, c < 3 → τ1.1 7 (6 + 3 * i + c) = nI (D.2.1 (3 * i + c)) := fun c hc' => by
    have := m1.2.2.2.1.2.1 (3 * i + c) (by omega)
    rw [Nat.zero_add] at this
    rw [Nat.add_assoc]
    exact this
  have cls : ∃ σ', L0_figuresOf_12 (nI i) (nI col) (nI r) (fun (x6_17 : Int32) (σ_18 : St) => some (x6_17, σ_18)) FU 0 0 σ1 = some (orI G 10, σ') ∧ frS σ σ' := by
    refine up0 (fun q f s => L0_figuresOf_12 (nI i) (nI col) (nI r) (fun (x6_17 : Int32) (σ_18 : St) => some (x6_17, σ_18)) q s.1 f s.2) 10 (by omega) (fun f s => s.1 = orI G f ∧ (∀ c, c ≠ 32 → s.2.1 c = σ.1 c) ∧ s.2.2 = σ.2 ∧ ∀ c, c < 3 → c ≠ col → s.2.1 32 c = nI (D.2.1 (3 * i + c))) (fun o => ∃ σ', o = some (orI G 10, σ') ∧ frS σ σ') ?_ ?_ (0, σ1) ⟨rfl, f1, f2, fun c hc' _ => f3 c hc'⟩
    · intro q f s hf hs
      obtain ⟨w, s⟩ := s
      obtain ⟨u0, u1, u2, u3⟩ := hs
      dsimp only at u0 u1 u2 u3 ⊢
      subst u0
      have hsh1 : shf (wI s 32 col (nI f)) 1 40 6 := ⟨h.sh1.1, h.sh1.2.1, h.sh1.2.2.1, by rw [wI_n _ _ _ (by omega), u1 1 (by omega)]; exact h.sh1.2.2.2.1, h.sh1.2.2.2.2⟩
      have q1' : clue ((wI s 32 col (nI f)).1 3) ((wI s 32 col (nI f)).1 2) r hh c v := by rw [wI_n _ _ _ (by omega), wI_n _ _ _ (by omega), u1 3 (by omega), u1 2 (by omega)]; exact q1
      have hf3 : ∀ c, c < 3 → (wI s 32 col (nI f)).1 32 c = nI (updN (fun c => D.2.1 (3 * i + c)) col f c) := fun c hc' => by
        rw [wI_s, upd_a]
        unfold updN
        by_cases e : c = col
        · rw [if_pos e, if_pos e]
        · rw [if_neg e, if_neg e]
          exact u3 c hc' e
      left
      refine ⟨(orI G (f + 1), wI s 32 col (nI f)), ⟨rfl, fun c hc' => by rw [wI_n _ _ _ hc']; exact u1 c hc', u2, fun c hc' e => by rw [wI_s, upd_n _ _ e]; exact u3 c hc' e⟩, ?_⟩
      conv => lhs; unfold L0_figuresOf_12
      simp only [jn_e, bnd_e]
      rw [if_neg (show ¬ (10 : Int32) ≤ nI f from nI_ge (b := 10) hf (by omega)), gi_nI hcol (by omega), gi_nI (by omega) (by omega), nI_clamp (by omega), nI_clamp (by omega), wI_n (c := 32) (c' := 14) s _ _ (by omega), u1 14 (by omega), hki.1, wI_n (c := 32) (c' := 13) s _ _ (by omega), u1 13 (by omega), hc.2.2.2.1.2.2, c_fits hsh1 hr q1' hf3 (hgu f hf) hki.2 hp, b1_s, nI_1, orI_st, show fit (kd i) (updN (fun c => D.2.1 (3 * i + c)) col f) D.2.2 hh c v = G f by rw [← hG]]
      cases G f
      · rw [show bI false = 0 from rfl, i00, if_neg (by decide)]
      · rw [show bI true = 1 from rfl, i10, if_pos rfl]
    · intro q s hs
      obtain ⟨w, s⟩ := s
      obtain ⟨u0, u1, u2, u3⟩ := hs
      dsimp only at u0 u1 u2 u3 ⊢
      subst u0
      exact ⟨s, by unfold L0_figuresOf_12; exact if_pos (show (10 : Int32) ≤ nI 10 by decide), fun c hc' => u1 c (by omega), u2⟩
  have rfc : ∃ τ', L6_figures_53 (nI i) (nI col) (nI r) (fun (x5_25 : Int32) (σ_26 : St) => some (x5_25, σ_26)) FU 0 0 τ1 = some (orI G 10, τ') ∧ frA τ τ' := by
    refine up0 (fun q f s => L6_figures_53 (nI i) (nI col) (nI r) (fun (x5_25 : Int32) (σ_26 : St) => some (x5_25, σ_26)) q s.1 f s.2) 10 (by omega) (fun f s => s.1 = orI G f ∧ frA τ s.2 ∧ ∀ c, c < 3 → c ≠ col → s.2.1 7 (6 + 3 * i + c) = nI (D.2.1 (3 * i + c))) (fun o => ∃ σ', o = some (orI G 10, σ') ∧ frA τ σ') ?_ ?_ (0, τ1) ⟨rfl, g1, fun c hc' _ => hv7 c hc'⟩
    · intro q f s hf hs
      obtain ⟨w, s⟩ := s
      obtain ⟨u0, u1, u3⟩ := hs
      dsimp only at u0 u1 u3 ⊢
      subst u0
      have u1' : frA τ (wI s 7 (6 + 3 * i + col) (nI f)) := ⟨fun c hc' => by rw [wI_n _ _ _ (by omega)]; exact u1.1 c hc', u1.2⟩
      have q2' : clue ((wI s 7 (6 + 3 * i + col) (nI f)).1 1) ((wI s 7 (6 + 3 * i + col) (nI f)).1 2) r hh c v := by rw [u1'.1 1 (by omega), u1'.1 2 (by omega)]; exact q2
      have hf3 : ∀ c, c < 3 → (wI s 7 (6 + 3 * i + col) (nI f)).1 7 (6 + 3 * i + c) = nI (updN (fun c => D.2.1 (3 * i + c)) col f c) := fun c hc' => by
        rw [wI_s, upd_a]
        unfold updN
        by_cases e : c = col
        · rw [if_pos (by omega), if_pos e]
        · rw [if_neg (by omega), if_neg e]
          exact u3 c hc' e
      left
      refine ⟨(orI G (f + 1), wI s 7 (6 + 3 * i + col) (nI f)), ⟨rfl, u1', fun c hc' e => by rw [wI_s, upd_n _ _ (by omega)]; exact u3 c hc' e⟩, ?_⟩
      have e5 : (wI s 7 (6 + 3 * i + col) (nI f)).1 5 i = nI (kd i) := by rw [u1'.1 5 (by omega)]; exact (hm.2.2.1 i hi).1
      conv => lhs; unfold L6_figures_53
      simp only [jn_e, bnd_e]
      rw [if_neg (show ¬ (10 : Int32) ≤ nI f from nI_ge (b := 10) hf (by omega)), show (6 : Int32) + 3 * nI i + nI col = nI (6 + 3 * i + col) by rw [show (6 : Int32) = nI 6 from rfl, show (3 : Int32) = nI 3 from rfl, pk_mul, nI_add, nI_add], gi_nI (by omega) (by omega), gi_nI (by omega) (by omega), nI_clamp (by omega), nI_clamp (by omega), e5, m_comesSo (hm.fr u1') hi hr q2' hf3 (hgu f hf) hki.2, b1_s, nI_1, orI_st, show fit (kd i) (updN (fun c => D.2.1 (3 * i + c)) col f) D.2.2 hh c v = G f by rw [← hG]]
      cases G f
      · rw [show bI false = 0 from rfl, i00, if_neg (by decide), Int32.or_zero]
      · rw [show bI true = 1 from rfl, i10, if_pos rfl]
    · intro q s hs
      obtain ⟨w, s⟩ := s
      obtain ⟨u0, u1, u3⟩ := hs
      dsimp only at u0 u1 u3 ⊢
      subst u0
      exact ⟨s, by unfold L6_figures_53; exact if_pos (show (10 : Int32) ≤ nI 10 by decide), u1⟩
  obtain ⟨σ', w1, w2⟩ := cls
  obtain ⟨τ', w3, w4⟩ := rfc
  unfold f0_figuresOf
  rw [e1, e2, b1_s, b1_s, w1, w3, b2_s]
  exact Sim.of (h.scr w2 w4) _
/-! the next column to read -/
def inK (s : Int32) (k : Nat) : Bool := decide ((s >>> (nI k &&& 31)) &&& 1 = 1)
def cnt (s : Int32) (rd : Nat → Nat) (w : Nat) : Nat → Nat
  | 0 => 0
  | k + 1 => cnt s rd w k + (if inK s k && decide (rd k = w) then 1 else 0)
def mx (f : Nat → Nat) : Nat → Nat
  | 0 => 0
  | n + 1 => max (mx f n) (f n)
theorem cnt_le (s : Int32) (rd : Nat → Nat) (w : Nat) : ∀ k, cnt s rd w k ≤ k
  | 0 => Nat.le_refl _
  | k + 1 => by
    have := cnt_le s rd w k
    show cnt s rd w k + (if inK s k && decide (rd k = w) then 1 else 0) ≤ k + 1
    split <;> omega
theorem mx_le {f : Nat → Nat} {M : Nat} (h : ∀ i, f i ≤ M) : ∀ n, mx f n ≤ M
  | 0 => Nat.zero_le _
  | n + 1 => by
    have h1 := mx_le h n
    have h2 := h n
    show max (mx f n) (f n) ≤ M
    omega
theorem mx_cg {f g : Nat → Nat} : ∀ n, (∀ i, i < n → f i = g i) → mx f n = mx g n
  | 0, _ => rfl
  | n + 1, h => by
    show max (mx f n) (f n) = max (mx g n) (g n)
    rw [mx_cg n (fun i hi => h i (by omega)), h n (by omega)]
theorem mx_upd {f g : Nat → Nat} {r : Nat} (h1 : ∀ i, i ≠ r → g i = f i) (h2 : f r ≤ g r) : ∀ n, r < n → mx g n = max (mx f n) (g r)
  | 0, h => absurd h (Nat.not_lt_zero _)
  | n + 1, h => by
    show max (mx g n) (g n) = max (max (mx f n) (f n)) (g r)
    by_cases e : r = n
    · subst e
      rw [mx_cg r (fun i hi => h1 i (by omega))]
      omega
    · rw [mx_upd h1 h2 n (by omega), h1 n (by omega)]
      omega
/-- the greatest part, of the class -/
theorem c_greatest {σ : St} {n i col : Nat} {kd : Nat → Nat} {D : Dk} (hc : CX σ n kd D) (hi : i < n) (hcol : col < 3) (s : Int32) :
    ∃ σ', f0_greatestPart σ (nI i) (nI col) s = some (nI (mx (fun w => cnt s (fun k => rdg k (fun c => D.2.1 (3 * i + c)) col D.2.2) w 6) 11), σ') ∧ frS σ σ' := by
  have hn := hc.2.1
  have hp := hc.2.2.2.2.2.2.2.2
  have hg : ∀ c, c < 3 → D.2.1 (3 * i + c) ≤ 9 := fun c hc' => hc.2.2.2.2.2.2.2.1 _ (by omega)
  generalize hrd : (fun k => rdg k (fun c => D.2.1 (3 * i + c)) col D.2.2) = rd
  have hrl : ∀ k, rd k ≤ 10 := fun k => by rw [← hrd]; exact rdg_le hg hcol
  obtain ⟨σ1, e1, f1, f2, f3⟩ := c_suppose hc.2.2.2.1 hn hi
  have z : ∀ K, ∃ σ2, L0_greatestPart_9 (nI col) s K FU 0 σ1 = K σ2 ∧ (∀ c, c ≠ 33 → σ2.1 c = σ1.1 c) ∧ σ2.2 = σ1.2 ∧ ∀ w, w < 11 → σ2.1 33 w = nI 0 := fun K => by
    refine up0 (fun q w st => L0_greatestPart_9 (nI col) s K q w st) 11 (by omega) (fun w st => (∀ c, c ≠ 33 → st.1 c = σ1.1 c) ∧ st.2 = σ1.2 ∧ ∀ w', w' < w → st.1 33 w' = nI 0) (fun o => ∃ σ2, o = K σ2 ∧ (∀ c, c ≠ 33 → σ2.1 c = σ1.1 c) ∧ σ2.2 = σ1.2 ∧ ∀ w, w < 11 → σ2.1 33 w = nI 0) ?_ ?_ σ1 ⟨fun _ _ => rfl, rfl, fun w hw => absurd hw (Nat.not_lt_zero _)⟩
    · intro q w st hw hs
      left
      refine ⟨wI st 33 w 0, ⟨fun c hc' => by rw [wI_n _ _ _ hc']; exact hs.1 c hc', hs.2.1, fun w' hw' => ?_⟩, ?_⟩
      · rw [wI_s, upd_a]
        by_cases e : w' = w
        · rw [if_pos e]; rfl
        · rw [if_neg e]; exact hs.2.2 w' (by omega)
      · conv => lhs; unfold L0_greatestPart_9
        rw [if_neg (show ¬ (11 : Int32) ≤ nI w from nI_ge (b := 11) hw (by omega)), gi_nI hw (by omega), bnd_e, bnd_e, nI_clamp (by omega), nI_1]
    · intro q st hs
      exact ⟨st, by unfold L0_greatestPart_9; exact if_pos (show (11 : Int32) ≤ nI 11 by decide), hs⟩
  unfold f0_greatestPart
  rw [e1, b1_s]
  obtain ⟨σ2, e2, g1, g2, g3⟩ := z (fun (σ_8 : St) => L0_greatestPart_36 (nI col) s (fun (x5_24 : Int32) (σ_25 : St) => some (x5_24, σ_25)) FU 0 0 σ_8)
  rw [e2]
  refine up0 (fun q k st => L0_greatestPart_36 (nI col) s (fun (x5_24 : Int32) (σ_25 : St) => some (x5_24, σ_25)) q st.1 k st.2) 6 (by omega) (fun k st => st.1 = nI (mx (fun w => cnt s rd w k) 11) ∧ (∀ c, c ≠ 33 → st.2.1 c = σ1.1 c) ∧ st.2.2 = σ1.2 ∧ ∀ w, w < 11 → st.2.1 33 w = nI (cnt s rd w k)) (fun o => ∃ σ', o = some (nI (mx (fun w => cnt s rd w 6) 11), σ') ∧ frS σ σ') ?_ ?_ (0, σ2) ⟨rfl, g1, g2, g3⟩
  · intro q k st hk hs
    obtain ⟨v, st⟩ := st
    obtain ⟨u0, u1, u2, u3⟩ := hs
    dsimp only at u0 u1 u2 u3 ⊢
    subst u0
    left
    have hrk := hrl k
    have hr := c_reading (σ := st) (a := 32) (o := 0) (c := col) (kd := k) (p := D.2.2) (g := fun c => D.2.1 (3 * i + c)) (by decide) (by decide) (fun c hc' => by rw [Nat.zero_add, u1 32 (by omega)]; exact f3 c hc') hg hcol hk hp
    rw [show rdg k (fun c => D.2.1 (3 * i + c)) col D.2.2 = rd k by rw [← hrd]] at hr
    replace hr : f5_reading st (nI k) 32 0 (nI col) (nI D.2.2) = _ := hr
    have h8 : st.1 13 8 = nI D.2.2 := by rw [u1 13 (by omega), f1 13 (by omega)]; exact hc.2.2.2.1.2.2
    rcases and1 (s >>> (nI k &&& 31)) with e | e
    · have ik : inK s k = false := by unfold inK; rw [e]; rfl
      have ec : ∀ w, cnt s rd w (k + 1) = cnt s rd w k := fun w => by
        show cnt s rd w k + (if inK s k && decide (rd k = w) then 1 else 0) = _
        rw [ik, Bool.false_and, if_neg (by decide), Nat.add_zero]
      refine ⟨(nI (mx (fun w => cnt s rd w k) 11), st), ⟨?_, u1, u2, fun w hw => by rw [ec]; exact u3 w hw⟩, ?_⟩
      · show nI (mx (fun w => cnt s rd w k) 11) = nI (mx (fun w => cnt s rd w (k + 1)) 11)
        rw [mx_cg 11 (fun w _ => ec w)]
      · conv => lhs; unfold L0_greatestPart_36
        simp only [jn_e, bnd_e]
        rw [if_neg (show ¬ (6 : Int32) ≤ nI k from nI_ge (b := 6) hk (by omega)), e, i00, nI_1]
    · have ik : inK s k = true := by unfold inK; rw [e]; rfl
      have ec : ∀ w, w ≠ rd k → cnt s rd w (k + 1) = cnt s rd w k := fun w hw => by
        show cnt s rd w k + (if inK s k && decide (rd k = w) then 1 else 0) = _
        rw [ik, Bool.true_and, if_neg (by rw [decide_eq_true_iff]; exact fun q => hw q.symm), Nat.add_zero]
      have ec1 : cnt s rd (rd k) (k + 1) = cnt s rd (rd k) k + 1 := by
        show cnt s rd (rd k) k + (if inK s k && decide (rd k = rd k) then 1 else 0) = _
        rw [ik, Bool.true_and, if_pos (by rw [decide_eq_true_iff])]
      have em := mx_upd (f := fun w => cnt s rd w k) (g := fun w => cnt s rd w (k + 1)) (r := rd k) ec (by show cnt s rd (rd k) k ≤ cnt s rd (rd k) (k + 1); omega) 11 (by omega)
      have hcl := cnt_le s rd (rd k) k
      have hml := mx_le (f := fun w => cnt s rd w k) (M := k) (fun w => cnt_le s rd w k) 11
      refine ⟨(nI (mx (fun w => cnt s rd w (k + 1)) 11), wI st 33 (rd k) (nI (cnt s rd (rd k) (k + 1)))), ⟨rfl, fun c hc' => by rw [wI_n _ _ _ hc']; exact u1 c hc', u2, fun w hw => ?_⟩, ?_⟩
      · rw [wI_s, upd_a]
        by_cases e' : w = rd k
        · rw [if_pos e', e']
        · rw [if_neg e', ec w e']
          exact u3 w hw
      · conv => lhs; unfold L0_greatestPart_36
        simp only [jn_e, bnd_e]
        rw [if_neg (show ¬ (6 : Int32) ≤ nI k from nI_ge (b := 6) hk (by omega)), e, i10, h8, hr, b1_s, gi_nI (by omega) (by omega), gi_nI (by omega) (by omega), gi_nI (by omega) (by omega), nI_clamp (by omega), u3 _ (by omega), wI_s, upd_s, nI_1, nI_1, em]
        show L0_greatestPart_36 (nI col) s _ q (if nI (mx (fun w => cnt s rd w k) 11) < nI (cnt s rd (rd k) k + 1) then nI (cnt s rd (rd k) k + 1) else nI (mx (fun w => cnt s rd w k) 11)) (nI (k + 1)) (wI st 33 (rd k) (nI (cnt s rd (rd k) k + 1))) = L0_greatestPart_36 (nI col) s _ q (nI (max (mx (fun w => cnt s rd w k) 11) (cnt s rd (rd k) (k + 1)))) (nI (k + 1)) (wI st 33 (rd k) (nI (cnt s rd (rd k) (k + 1))))
        rw [ec1]
        by_cases cl : mx (fun w => cnt s rd w k) 11 < cnt s rd (rd k) k + 1
        · rw [if_pos (nI_lt cl (by omega)), Nat.max_eq_right (by omega)]
        · rw [if_neg (nI_nlt (by omega) (by omega)), Nat.max_eq_left (by omega)]
  · intro q st hs
    obtain ⟨v, st⟩ := st
    obtain ⟨u0, u1, u2, u3⟩ := hs
    dsimp only at u0 u1 u2 u3 ⊢
    subst u0
    exact ⟨st, by unfold L0_greatestPart_36; exact if_pos (show (6 : Int32) ≤ nI 6 by decide), fun c hc' => by rw [u1 c (by omega)]; exact f1 c (by omega), u2.trans f2⟩
theorem m_greatest {τ : St} {n i col : Nat} {kd : Nat → Nat} {D : Dk} (hm : mD τ 6 n kd D) (hi : i < n) (hcol : col < 3) (s x5 x6 : Int32) {K : Int32 → Option (Int32 × St)} :
    L6_next_72 τ (nI i) s x5 x6 (nI col) K FU 0 0 = K (nI (mx (fun w => cnt s (fun k => rdg k (fun c => D.2.1 (3 * i + c)) col D.2.2) w 6) 11)) := by
  have hn := hm.2.1
  have hp := hm.2.2.2.2.2.2.2.2
  have hg : ∀ c, c < 3 → D.2.1 (3 * i + c) ≤ 9 := fun c hc' => hm.2.2.2.2.2.2.2.1 _ (by omega)
  have h24 := hm.2.2.2.1.2.2
  rw [Nat.zero_add] at h24
  generalize hrd : (fun k => rdg k (fun c => D.2.1 (3 * i + c)) col D.2.2) = rd
  have hrl : ∀ k, rd k ≤ 10 := fun k => by rw [← hrd]; exact rdg_le hg hcol
  have inner : ∀ (x8 : Int32) (w : Nat) (K' : Int32 → Option (Int32 × St)), w < 11 → L6_next_85 τ (nI i) s x5 x6 (nI col) x8 (nI w) K' FU 0 0 = K' (nI (cnt s rd w 6)) := fun x8 w K' hw => by
    refine up0 (fun q k st => L6_next_85 τ (nI i) s x5 x6 (nI col) x8 (nI w) K' q st k) 6 (by omega) (fun k st => st = nI (cnt s rd w k)) (fun o => o = K' (nI (cnt s rd w 6))) ?_ ?_ 0 rfl
    · intro q k st hk hs
      subst hs
      left
      refine ⟨_, rfl, ?_⟩
      have hrk := hrl k
      have hr := m_readsBy (τ := τ) (a := 6) (o := 6 + 3 * i) (c := col) (kd := k) (p := D.2.2) (g := fun c => D.2.1 (3 * i + c)) (by show 6 + 3 * i + 3 ≤ 25; omega) (by decide) (fun c hc' => by
        have := hm.2.2.2.1.2.1 (3 * i + c) (by omega)
        rw [Nat.zero_add] at this
        rw [Nat.add_assoc]
        exact this) hg hcol hk hp
      rw [show rdg k (fun c => D.2.1 (3 * i + c)) col D.2.2 = rd k by rw [← hrd]] at hr
      conv => lhs; unfold L6_next_85 f6_has
      simp only [jn_e, bnd_e]
      rw [if_neg (show ¬ (6 : Int32) ≤ nI k from nI_ge (b := 6) hk (by omega)), show (6 : Int32) + 3 * nI i = nI (6 + 3 * i) by rw [show (6 : Int32) = nI 6 from rfl, show (3 : Int32) = nI 3 from rfl, pk_mul, nI_add], h24, hr, b1_s, nI_1]
      show _ = L6_next_85 τ (nI i) s x5 x6 (nI col) x8 (nI w) K' q (nI (cnt s rd w k + (if inK s k && decide (rd k = w) then 1 else 0))) (nI (k + 1))
      rcases and1 (s >>> (nI k &&& 31)) with e | e
      · have ik : inK s k = false := by unfold inK; rw [e]; rfl
        rw [e, show (if (0 : Int32) = 1 then some (1 : Int32) else some 0) = some 0 from rfl, b1_s, i00, ik, Bool.false_and, if_neg (by decide), Int32.add_zero]
        rfl
      · have ik : inK s k = true := by unfold inK; rw [e]; rfl
        rw [e, show (if (1 : Int32) = 1 then some (1 : Int32) else some 0) = some 1 from rfl, b1_s, i10, ik, Bool.true_and]
        by_cases e' : rd k = w
        · rw [if_pos (show nI (rd k) = nI w by rw [e']), if_pos (by rw [decide_eq_true_iff]; exact e'), nI_1]
        · rw [if_neg (show ¬ nI (rd k) = nI w by rw [nI_eq (by omega) (by omega)]; exact e'), if_neg (by rw [decide_eq_true_iff]; exact e'), Int32.add_zero]
          rfl
    · intro q st hs
      subst hs
      unfold L6_next_85
      exact if_pos (show (6 : Int32) ≤ nI 6 by decide)
  refine up0 (fun q w st => L6_next_72 τ (nI i) s x5 x6 (nI col) K q st w) 11 (by omega) (fun w st => st = nI (mx (fun w => cnt s rd w 6) w)) (fun o => o = K (nI (mx (fun w => cnt s rd w 6) 11))) ?_ ?_ 0 rfl
  · intro q w st hw hs
    subst hs
    left
    refine ⟨_, rfl, ?_⟩
    have hcl := cnt_le s rd w 6
    have hml := mx_le (f := fun w => cnt s rd w 6) (M := 6) (fun w => cnt_le s rd w 6) w
    conv => lhs; unfold L6_next_72
    rw [if_neg (show ¬ (11 : Int32) ≤ nI w from nI_ge (b := 11) hw (by omega)), inner _ w _ hw, m_more (by omega) (by omega), b1_s, bnd_e, nI_1]
    rfl
  · intro q st hs
    subst hs
    unfold L6_next_72
    exact if_pos (show (11 : Int32) ≤ nI 11 by decide)
theorem e_next {σ τ : St} (h : Rel σ τ) (x y : Int32) : Sim (f5_next σ x y) (f6_next τ x y) := by
  obtain ⟨n, kd, bs, ds, kp, hA, hC, hM⟩ := h.2.2.2.2
  have hn6 := hA.2.1
  have hc := hC.cx hA
  have hm := hM.mx hA
  generalize rpl n kd bs ds = D at hc hm
  unfold f5_next f6_next
  rw [c_refClues hC.1 hn6, m_isCard hM.1 hn6, b1_s, m_isRow, b1_s, show inB 0 3 = 1 from inB_nI (j := 0) (by omega) (by omega), i10]
  rcases ix x n (by omega) with hx | ⟨i, hi, rfl⟩
  · rw [inB_out hx, i00, i00, b2_s, im1]
    exact Sim.of h _
  rw [inB_nI hi (by omega), i10, i10]
  rcases ix y 6 (by omega) with hy | ⟨r, hr, rfl⟩
  · rw [inB_out hy, i00, i00, b2_s, im1]
    exact Sim.of h _
  rw [inB_nI hr (by omega), i10, i10]
  rcases e_pairs h hr with ⟨k, k1, k2, p1, p2⟩ | ⟨p1, p2, hh, c, v, q1, q2⟩
  · obtain ⟨g1, g2, g3⟩ := h.found k2
    rw [p1, p2, b1_s, if_neg (nI_nle k1 (by omega)), g1, g2, b2_s, b2_s, b2_s, im3]
    exact Sim.of g3 _
  rw [p1, p2, b1_s, b2_s, i00, if_pos (by decide)]
  obtain ⟨σ1, τ1, e1, e2, f1, f2⟩ := e_kindsOf hc hm h.sh1 hi hr q1 q2
  rw [e1, e2, b2_s, b2_s]
  generalize orI (fun k => fit k (fun c => D.2.1 (3 * i + c)) D.2.2 hh c v) 6 = s
  by_cases s0 : s = 0
  · rw [if_pos s0, if_pos s0]
    exact Sim.of (h.scr f1 f2) _
  rw [if_neg s0, if_neg s0]
  have hcx := hc.fr f1
  have hmx := hm.fr f2
  generalize hG : (fun col => mx (fun w => cnt s (fun k => rdg k (fun c => D.2.1 (3 * i + c)) col D.2.2) w 6) 11) = G
  have hGl : ∀ col, G col ≤ 6 := fun col => by rw [← hG]; exact mx_le (fun w => cnt_le s _ w 6) 11
  have hgc : ∀ (σ2 : St) col, frS σ1 σ2 → col < 3 → ∃ σ', f0_greatestPart σ2 (nI i) (nI col) s = some (nI (G col), σ') ∧ frS σ1 σ' := fun σ2 col fr hcol => by
    obtain ⟨σ', a1, a2⟩ := c_greatest (hcx.fr fr) hi hcol s
    refine ⟨σ', ?_, fr.tr a2⟩
    rw [a1, ← hG]
  have hgm : ∀ col x5 x6 K, col < 3 → L6_next_72 τ1 (nI i) s x5 x6 (nI col) K FU 0 0 = K (nI (G col)) := fun col x5 x6 K hcol => by
    rw [m_greatest hmx hi hcol, ← hG]
  have g0 := hGl 0
  have g1 := hGl 1
  have g2 := hGl 2
  obtain ⟨σ2, a1, a2⟩ := hgc σ1 0 (frS.rf _) (by omega)
  obtain ⟨σ3, b1', b2'⟩ := hgc σ2 1 a2 (by omega)
  obtain ⟨σ4, c1, c2⟩ := hgc σ3 2 b2' (by omega)
  replace a1 : f0_greatestPart σ1 (nI i) 0 s = _ := a1
  replace b1' : f0_greatestPart σ2 (nI i) 1 s = _ := b1'
  replace c1 : f0_greatestPart σ3 (nI i) 2 s = _ := c1
  rw [a1, b2_s]
  obtain ⟨q, hq⟩ : ∃ q, FU = q + 1 + 1 + 1 + 1 := ⟨4996, by rw [FU_e]⟩
  have hm0 : ∀ K x5 x6, L6_next_72 τ1 (nI i) s x5 x6 0 K FU 0 0 = K (nI (G 0)) := fun K x5 x6 => hgm 0 x5 x6 K (by omega)
  have hm1 : ∀ K x5 x6, L6_next_72 τ1 (nI i) s x5 x6 1 K FU 0 0 = K (nI (G 1)) := fun K x5 x6 => hgm 1 x5 x6 K (by omega)
  have hm2 : ∀ K x5 x6, L6_next_72 τ1 (nI i) s x5 x6 2 K FU 0 0 = K (nI (G 2)) := fun K x5 x6 => hgm 2 x5 x6 K (by omega)
  have cl : ∀ (x5 x6 : Int32) (K : Int32 → Int32 → St → Option (Int32 × St)), L5_next_64 (nI i) s K FU x5 x6 1 σ2 = K (if (if x6 ≤ nI (G 1) then x6 else nI (G 1)) ≤ nI (G 2) then (if x6 ≤ nI (G 1) then x5 else 1) else 2) (if (if x6 ≤ nI (G 1) then x6 else nI (G 1)) ≤ nI (G 2) then (if x6 ≤ nI (G 1) then x6 else nI (G 1)) else nI (G 2)) σ4 := fun x5 x6 K => by
    have st : ∀ (q : Nat) (x5 x6 : Int32), L5_next_64 (nI i) s K (q + 1 + 1) x5 x6 2 σ3 = K (if x6 ≤ nI (G 2) then x5 else 2) (if x6 ≤ nI (G 2) then x6 else nI (G 2)) σ4 := fun q x5 x6 => by
      have s3 : ∀ x5 x6, L5_next_64 (nI i) s K (q + 1) x5 x6 3 σ4 = K x5 x6 σ4 := fun x5 x6 => by
        unfold L5_next_64
        exact if_pos (by decide)
      conv => lhs; unfold L5_next_64
      simp only [jn_e, bnd_e]
      rw [if_neg (by decide), c1, b2_s, show (2 : Int32) + 1 = 3 from by decide, s3, s3]
      by_cases e : x6 ≤ nI (G 2)
      · rw [if_pos e, if_pos e, if_pos e]
      · rw [if_neg e, if_neg e, if_neg e]
    rw [hq]
    conv => lhs; unfold L5_next_64
    simp only [jn_e, bnd_e]
    rw [if_neg (by decide), b1', b2_s, show (1 : Int32) + 1 = 2 from by decide, st, st]
    by_cases e : x6 ≤ nI (G 1)
    · rw [if_pos e, if_pos e, if_pos e]
    · rw [if_neg e, if_neg e, if_neg e]
  have rf : ∀ (K : Int32 → Int32 → Option (Int32 × St)), L6_next_60 τ1 (nI i) s K FU (-9) 7 0 = K (if (if nI (G 0) ≤ nI (G 1) then nI (G 0) else nI (G 1)) ≤ nI (G 2) then (if nI (G 0) ≤ nI (G 1) then 0 else 1) else 2) (if (if nI (G 0) ≤ nI (G 1) then nI (G 0) else nI (G 1)) ≤ nI (G 2) then (if nI (G 0) ≤ nI (G 1) then nI (G 0) else nI (G 1)) else nI (G 2)) := fun K => by
    have s2 : ∀ (q : Nat) (x5 x6 : Int32), L6_next_60 τ1 (nI i) s K (q + 1 + 1) x5 x6 2 = K (if x6 ≤ nI (G 2) then x5 else 2) (if x6 ≤ nI (G 2) then x6 else nI (G 2)) := fun q x5 x6 => by
      conv => lhs; unfold L6_next_60
      simp only [jn_e, bnd_e]
      rw [if_neg (by decide), hm2, show (2 : Int32) + 1 = 3 from by decide]
      have s3 : ∀ x5 x6, L6_next_60 τ1 (nI i) s K (q + 1) x5 x6 3 = K x5 x6 := fun x5 x6 => by
        unfold L6_next_60
        exact if_pos (by decide)
      rw [s3, s3, s3, s3]
      by_cases e : x6 ≤ nI (G 2)
      · rw [if_pos e, if_pos e, if_pos e, if_pos e]
      · rw [if_neg e, if_neg e, if_neg e, if_neg e]
    have s1 : ∀ (q : Nat) (x5 x6 : Int32), L6_next_60 τ1 (nI i) s K (q + 1 + 1 + 1) x5 x6 1 = K (if (if x6 ≤ nI (G 1) then x6 else nI (G 1)) ≤ nI (G 2) then (if x6 ≤ nI (G 1) then x5 else 1) else 2) (if (if x6 ≤ nI (G 1) then x6 else nI (G 1)) ≤ nI (G 2) then (if x6 ≤ nI (G 1) then x6 else nI (G 1)) else nI (G 2)) := fun q x5 x6 => by
      conv => lhs; unfold L6_next_60
      simp only [jn_e, bnd_e]
      rw [if_neg (by decide), hm1, show (1 : Int32) + 1 = 2 from by decide, s2, s2, s2, s2]
      by_cases e : x6 ≤ nI (G 1)
      · rw [if_pos e, if_pos e, if_pos e, if_pos e]
      · rw [if_neg e, if_neg e, if_neg e, if_neg e]
    conv => lhs; rw [hq]
    conv => lhs; unfold L6_next_60
    simp only [jn_e, bnd_e]
    rw [← hq] at *
    rw [if_neg (by decide), hm0, if_neg (show ¬ (7 : Int32) ≤ nI (G 0) from nI_ge (b := 7) (by omega) (by omega)), if_neg (show ¬ (7 : Int32) ≤ nI (G 0) from nI_ge (b := 7) (by omega) (by omega)), show (0 : Int32) + 1 = 1 from by decide, s1]
  rw [cl, rf]
  unfold f6_answer
  rw [bnd_e, bnd_e, b2_s]
  exact Sim.of ((h.scr (f1.tr c2) f2).tell _) _
