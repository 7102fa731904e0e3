/-! the columns that lay the cards as a row tells -/
theorem and1 (x : Int32) : x &&& 1 = 0 ∨ x &&& 1 = 1 := by
  have h : (x &&& 1).toBitVec = 0#32 ∨ (x &&& 1).toBitVec = 1#32 := by
    rw [Int32.toBitVec_and]
    show x.toBitVec &&& 1#32 = 0#32 ∨ x.toBitVec &&& 1#32 = 1#32
    rw [BitVec.and_one_eq_setWidth_ofBool_getLsbD]
    cases x.toBitVec.getLsbD 0
    · left; rfl
    · right; rfl
  rcases h with h | h
  · exact Or.inl (Int32.toBitVec_inj.mp h)
  · exact Or.inr (Int32.toBitVec_inj.mp h)
theorem e_once {σ τ : St} {r n : Nat} (h : shf σ 1 40 6) (hr : r < 6) (hn : n ≤ 6) (hc7 : σ.1 13 7 = nI n) (hm4 : τ.1 0 4 = nI n) (s1 : σ.1 3 r = nI n) (hc : ∀ i, i < n → σ.1 2 (40 * r + i) = τ.1 2 (40 * r + i)) {K : St → Option (Int32 × St)} :
    ∀ (j i : Nat) (s : Int32) (f g : Nat), i + j = n → j < f → j < g → (L5_eachCardOnce_4 σ (nI r) (some 1) f s (nI i) = some 0 ∧ L6_columns_57 (nI r) K g s (nI i) τ = b2 (f6_found τ 3) fun r σ => some (r, σ)) ∨ (L5_eachCardOnce_4 σ (nI r) (some 1) f s (nI i) = some 1 ∧ L6_columns_57 (nI r) K g s (nI i) τ = K τ) := by
  intro j
  induction j with
  | zero =>
    intro i s f g h1 h2 h3
    obtain ⟨q, rfl⟩ : ∃ q, f = q + 1 := ⟨f - 1, by omega⟩
    obtain ⟨q', rfl⟩ : ∃ q, g = q + 1 := ⟨g - 1, by omega⟩
    rw [Nat.add_zero] at h1
    subst h1
    right
    refine ⟨?_, ?_⟩
    · unfold L5_eachCardOnce_4
      rw [c_sizeOf h hr, b1_s, show σ.1 (1 + 2) r = nI i from s1, if_pos (nI_le (Nat.le_refl _) (by omega))]
    · unfold L6_columns_57
      rw [hm4, if_pos (nI_le (Nat.le_refl _) (by omega))]
  | succ j ih =>
    intro i s f g h1 h2 h3
    obtain ⟨q, rfl⟩ : ∃ q, f = q + 1 := ⟨f - 1, by omega⟩
    obtain ⟨q', rfl⟩ : ∃ q, g = q + 1 := ⟨g - 1, by omega⟩
    have e1 : L5_eachCardOnce_4 σ (nI r) (some 1) (q + 1) s (nI i) = if inB (σ.1 2 (40 * r + i)) n = 0 then some 0 else if (s >>> (σ.1 2 (40 * r + i) &&& 31)) &&& 1 = 0 then L5_eachCardOnce_4 σ (nI r) (some 1) q (s ||| (1 <<< (σ.1 2 (40 * r + i) &&& 31))) (nI (i + 1)) else some 0 := by
      conv => lhs; unfold L5_eachCardOnce_4
      rw [c_sizeOf h hr, b1_s, show σ.1 (1 + 2) r = nI n from s1, if_neg (nI_ge (by omega) (by omega)), c_get h hr s1 (by omega) (by omega), b1_s, c_isCard hc7 hn, b1_s, bnd_e, bnd_e, nI_1]
    have e2 : L6_columns_57 (nI r) K (q' + 1) s (nI i) τ = if inB (σ.1 2 (40 * r + i)) n = 0 then (b2 (f6_found τ 3) fun r σ => some (r, σ)) else if (s >>> (σ.1 2 (40 * r + i) &&& 31)) &&& 1 = 0 then L6_columns_57 (nI r) K q' (s ||| (1 <<< (σ.1 2 (40 * r + i) &&& 31))) (nI (i + 1)) τ else (b2 (f6_found τ 3) fun r σ => some (r, σ)) := by
      conv => lhs; unfold L6_columns_57
      simp only [jn_e, bnd_e]
      rw [hm4, if_neg (nI_ge (by omega) (by omega)), m_idx, gi_nI (by omega) (by omega), nI_clamp (by omega), ← hc i (by omega), m_isCard hm4 hn, b1_s, nI_1]
      unfold f6_has
      rcases and1 (s >>> (σ.1 2 (40 * r + i) &&& 31)) with e | e
      · rw [e, show (if (0 : Int32) = 1 then some (1 : Int32) else some 0) = some 0 from rfl, b1_s, i00]
      · rw [e, show (if (1 : Int32) = 1 then some (1 : Int32) else some 0) = some 1 from rfl, b1_s, i10]
    rw [e1, e2]
    rcases ix (σ.1 2 (40 * r + i)) n (by omega) with hx | ⟨c, hc3, ex⟩
    · left
      rw [inB_out hx, i00, i00]
      exact ⟨rfl, rfl⟩
    · rw [ex, inB_nI hc3 (by omega), i10, i10]
      by_cases e : (s >>> (nI c &&& 31)) &&& 1 = 0
      · rw [if_pos e, if_pos e]
        exact ih (i + 1) _ q q' (by omega) (by omega) (by omega)
      · left
        rw [if_neg e, if_neg e]
        exact ⟨rfl, rfl⟩
def allB (p : Nat → Bool) : Nat → Bool
  | 0 => true
  | n + 1 => allB p n && p n
theorem allB_f {p : Nat → Bool} {i : Nat} (h : p i = false) : ∀ n, i < n → allB p n = false
  | 0, hi => absurd hi (Nat.not_lt_zero _)
  | n + 1, hi => by
    show (allB p n && p n) = false
    by_cases e : i = n
    · rw [← e, h, Bool.and_false]
    · rw [allB_f h n (by omega), Bool.false_and]
def bI (b : Bool) : Int32 := if b = true then 1 else 0
theorem c_liesAs {σ : St} {r n a : Nat} {l : List Nat} (h : shf σ 1 40 6) (hr : r < 6) (hn : n ≤ 6) (hc7 : σ.1 13 7 = nI n) (s1 : σ.1 3 r = nI n) (ha : lnC a = 6) (hv : ∀ i, i < n → σ.1 a i = nI (l.getD i 0)) : f5_liesAs σ (nI r) a = some (bI (allB (fun i => decide (σ.1 2 (40 * r + i) = nI (l.getD i 0))) n)) := by
  unfold f5_liesAs
  refine up0 (fun q i (_ : Unit) => L5_liesAs_2 σ a (nI r) (some 1) q i) n (by omega) (fun i _ => allB (fun i => decide (σ.1 2 (40 * r + i) = nI (l.getD i 0))) i = true) (fun o => o = some (bI (allB (fun i => decide (σ.1 2 (40 * r + i) = nI (l.getD i 0))) n))) ?_ ?_ () rfl
  · intro q i _ hi hs
    have hu : L5_liesAs_2 σ a (nI r) (some 1) (q + 1) (nI i) = if σ.1 2 (40 * r + i) = nI (l.getD i 0) then L5_liesAs_2 σ a (nI r) (some 1) q (nI (i + 1)) else some 0 := by
      conv => lhs; unfold L5_liesAs_2
      rw [hc7, if_neg (nI_ge hi (by omega)), c_get h hr s1 (by omega) hi, b1_s, ha, gi_nI (by omega) (by omega), nI_clamp (by omega), hv i hi, bnd_e, nI_1]
    by_cases e : σ.1 2 (40 * r + i) = nI (l.getD i 0)
    · left
      refine ⟨(), ?_, by rw [hu, if_pos e]⟩
      show (allB _ i && decide (σ.1 2 (40 * r + i) = nI (l.getD i 0))) = true
      rw [hs, decide_eq_true e]
      rfl
    · right
      rw [hu, if_neg e, allB_f (p := fun i => decide (σ.1 2 (40 * r + i) = nI (l.getD i 0))) (decide_eq_false e) n hi]
      rfl
  · intro q _ hs
    rw [hs]
    unfold L5_liesAs_2
    rw [hc7, if_pos (nI_le (Nat.le_refl _) (by omega))]
    rfl
theorem m_liesAs {τ : St} {r n : Nat} {l : List Nat} (hr : r < 6) (hn : n ≤ 6) (hm4 : τ.1 0 4 = nI n) (hv : ∀ i, i < n → τ.1 7 i = nI (l.getD i 0)) {x3 x4 : Int32} {K : Int32 → Option (Int32 × St)} : L6_columns_146 τ (nI r) x3 x4 K FU 1 0 = K (bI (allB (fun i => decide (τ.1 2 (40 * r + i) = nI (l.getD i 0))) n)) := by
  refine up0 (fun q i s => L6_columns_146 τ (nI r) x3 x4 K q s i) n (by omega) (fun i s => s = bI (allB (fun i => decide (τ.1 2 (40 * r + i) = nI (l.getD i 0))) i)) (fun o => o = K (bI (allB (fun i => decide (τ.1 2 (40 * r + i) = nI (l.getD i 0))) n))) ?_ ?_ 1 rfl
  · intro q i s hi hs
    left
    refine ⟨_, rfl, ?_⟩
    subst hs
    conv => lhs; unfold L6_columns_146
    simp only [jn_e, bnd_e]
    rw [hm4, if_neg (nI_ge hi (by omega)), gi_nI (by omega) (by omega), m_idx, gi_nI (by omega) (by omega), nI_clamp (by omega), nI_clamp (by omega), hv i hi, nI_1]
    show _ = L6_columns_146 τ (nI r) x3 x4 K q (bI (allB (fun i => decide (τ.1 2 (40 * r + i) = nI (l.getD i 0))) i && decide (τ.1 2 (40 * r + i) = nI (l.getD i 0)))) (nI (i + 1))
    generalize allB (fun i => decide (τ.1 2 (40 * r + i) = nI (l.getD i 0))) i = b
    cases b
    · rw [show bI false = 0 from rfl, i00, Bool.false_and]
      rfl
    · rw [show bI true = 1 from rfl, i10, Bool.true_and]
      by_cases e : τ.1 2 (40 * r + i) = nI (l.getD i 0)
      · rw [if_pos e.symm, decide_eq_true e]
        rfl
      · rw [if_neg (fun q => e q.symm), decide_eq_false e]
        rfl
  · intro q s hs
    subst hs
    unfold L6_columns_146
    rw [hm4, if_pos (nI_le (Nat.le_refl _) (by omega))]
theorem allB_cg {p q : Nat → Bool} : ∀ n, (∀ i, i < n → p i = q i) → allB p n = allB q n
  | 0, _ => rfl
  | n + 1, h => by
    show (allB p n && p n) = (allB q n && q n)
    rw [allB_cg n (fun i hi => h i (by omega)), h n (by omega)]
def orI (g : Nat → Bool) : Nat → Int32
  | 0 => 0
  | c + 1 => orI g c ||| (if g c = true then 1 <<< (nI c &&& 31) else 0)
theorem e_columns {σ τ : St} (h : Rel σ τ) (x : Int32) : Sim (f5_columns σ x) (f6_columns τ x) := by
  obtain ⟨n, kd, bs, ds, kp, hA, hC, hM⟩ := h.2.2.2.2
  have hn6 := hA.2.1
  have hc := hC.cx hA
  have hm := hM.mx hA
  generalize rpl n kd bs ds = D at hc hm
  unfold f5_columns f6_columns
  rw [c_isRow, m_isRow, b1_s, b1_s]
  rcases ix x 6 (by omega) with hx | ⟨r, hr, rfl⟩
  · rw [inB_out hx, i00, i00]
    exact Sim.of h _
  rw [inB_nI hr (by omega), i10, i10, hC.1, hM.1]
  by_cases c0 : n = 0
  · subst c0
    rw [if_pos (by rfl), if_pos (by rfl)]
    exact Sim.of h _
  rw [if_neg (nI_ne0 (by omega) (by omega)), if_neg (nI_ne0 (by omega) (by omega)), gi_nI hr (by omega), nI_clamp (by omega)]
  rcases h.2.1 r hr with ⟨s1, s2⟩ | ⟨m, hm40, s1, s2, hcc⟩
  · rw [c_holds0 h.sh1 hr s1, b1_s, i00, s2, if_neg (by decide)]
    exact Sim.found h (k := 1) (by omega)
  rw [c_holds1 h.sh1 hr s1 (by omega), b1_s, i10, s2, if_pos (nI_pos' (by omega)), gi_nI hr (by omega), c_sizeOf h.sh1 hr, b1_s, show σ.1 (1 + 2) r = nI m from s1]
  by_cases cn : m = n
  · subst cn
    rw [if_pos rfl, if_pos rfl]
    unfold f5_eachCardOnce
    rcases e_once (τ := τ) h.sh1 hr hn6 hC.1 hM.1 s1 hcc (K := fun (σ_20 : St) => L6_columns_120 (nI r) (fun (x3_48 : Int32) (σ_49 : St) => some (x3_48, σ_49)) FU 0 0 σ_20) m 0 0 FU FU (by omega) (by rw [FU_e]; omega) (by rw [FU_e]; omega) with ⟨q1, q2⟩ | ⟨q1, q2⟩
    · replace q1 : L5_eachCardOnce_4 σ (nI r) (some 1) FU 0 0 = some 0 := q1
      replace q2 : L6_columns_57 (nI r) _ FU 0 0 τ = _ := q2
      rw [q1, q2, b1_s, i00]
      exact Sim.found h (k := 3) (by omega)
    · replace q1 : L5_eachCardOnce_4 σ (nI r) (some 1) FU 0 0 = some 1 := q1
      replace q2 : L6_columns_57 (nI r) _ FU 0 0 τ = _ := q2
      rw [q1, q2, b1_s, i10]
      generalize hg : (fun c => allB (fun i => decide (σ.1 2 (40 * r + i) = nI ((pas kd D c 0).getD i 0))) m) = g
      have ho := fun c (hc3 : c < 3) => okD_pas (kd := kd) hc.2.2.2.2 hc3 (mis := 0)
      have cls : ∃ σ', L5_columns_81 (nI r) (fun (x2_25 : Int32) (σ_26 : St) => some (x2_25, σ_26)) FU 0 0 σ = some (orI g 3, σ') ∧ frS σ σ' := by
        refine up0 (fun q c s => L5_columns_81 (nI r) (fun (x2_25 : Int32) (σ_26 : St) => some (x2_25, σ_26)) q s.1 c s.2) 3 (by omega) (fun c s => s.1 = orI g c ∧ frS σ s.2) (fun o => ∃ σ', o = some (orI g 3, σ') ∧ frS σ σ') ?_ ?_ (0, σ) ⟨rfl, frS.rf _⟩
        · intro q c s hc3 hs
          obtain ⟨v, s⟩ := s
          obtain ⟨e, fr⟩ := hs
          dsimp only at e fr ⊢
          subst e
          have hc' := hc.fr fr
          obtain ⟨σ1, e1, f1, l1⟩ := hc'.once hc3 (mis := 0) (by omega)
          have fr1 := fr.tr f1
          have hsh : shf σ1 1 40 6 := ⟨h.sh1.1, h.sh1.2.1, h.sh1.2.2.1, by rw [fr1.1 1 (by omega)]; exact h.sh1.2.2.2.1, h.sh1.2.2.2.2⟩
          have e2 := c_liesAs (l := pas kd D c 0) hsh hr hn6 (by rw [fr1.1 13 (by omega)]; exact hC.1) (by rw [fr1.1 3 (by omega)]; exact s1) (a := 24) rfl l1
          rw [fr1.1 2 (by omega), show allB (fun i => decide (σ.1 2 (40 * r + i) = nI ((pas kd D c 0).getD i 0))) m = g c by rw [← hg]] at e2
          left
          refine ⟨(orI g (c + 1), σ1), ⟨rfl, fr1⟩, ?_⟩
          conv => lhs; unfold L5_columns_81
          simp only [jn_e, bnd_e]
          rw [if_neg (show ¬ (3 : Int32) ≤ nI c from nI_ge (b := 3) hc3 (by omega)), show f4_passOnce s (nI c) 0 = f4_passOnce s (nI c) (nI 0) from rfl, e1, b2_s, e2, b1_s, nI_1]
          show _ = L5_columns_81 (nI r) (fun (x2_25 : Int32) (σ_26 : St) => some (x2_25, σ_26)) q (orI g c ||| (if g c = true then 1 <<< (nI c &&& 31) else 0)) (nI (c + 1)) σ1
          cases g c
          · rw [show bI false = 0 from rfl, i00, if_neg (by decide), Int32.or_zero]
          · rw [show bI true = 1 from rfl, i10, if_pos rfl]
        · intro q s hs
          obtain ⟨v, s⟩ := s
          obtain ⟨e, fr⟩ := hs
          dsimp only at e fr ⊢
          subst e
          exact ⟨s, by unfold L5_columns_81; exact if_pos (show (3 : Int32) ≤ nI 3 by decide), fr⟩
      have rfc : ∃ τ', L6_columns_120 (nI r) (fun (x3_48 : Int32) (σ_49 : St) => some (x3_48, σ_49)) FU 0 0 τ = some (orI g 3, τ') ∧ frA τ τ' := by
        refine up0 (fun q c s => L6_columns_120 (nI r) (fun (x3_48 : Int32) (σ_49 : St) => some (x3_48, σ_49)) q s.1 c s.2) 3 (by omega) (fun c s => s.1 = orI g c ∧ frA τ s.2) (fun o => ∃ σ', o = some (orI g 3, σ') ∧ frA τ σ') ?_ ?_ (0, τ) ⟨rfl, frA.rf _⟩
        · intro q c s hc3 hs
          obtain ⟨v, s⟩ := s
          obtain ⟨e, fr⟩ := hs
          dsimp only at e fr ⊢
          subst e
          obtain ⟨τ1, e1, f1, m1⟩ := (hm.fr fr).aside
          obtain ⟨τ2, e2, f2, m2⟩ := m1.passA hc3
          have fr1 := (fr.tr f1).tr f2
          have e3 := fun x3 K => m_liesAs (τ := τ2) (l := pas kd D c 0) (x3 := x3) (x4 := nI c) (K := K) hr hn6 m2.1 (fun i hi => by
            have := m2.2.2.2.1.1 i hi
            rw [Nat.zero_add] at this
            exact this)
          have e4 : allB (fun i => decide (τ2.1 2 (40 * r + i) = nI ((pas kd D c 0).getD i 0))) m = g c := by
            rw [← hg]
            refine allB_cg m (fun i hi => ?_)
            show decide (τ2.1 2 (40 * r + i) = nI ((pas kd D c 0).getD i 0)) = decide (σ.1 2 (40 * r + i) = nI ((pas kd D c 0).getD i 0))
            rw [fr1.1 2 (by omega), hcc i hi]
          left
          refine ⟨(orI g (c + 1), τ2), ⟨rfl, fr1⟩, ?_⟩
          conv => lhs; unfold L6_columns_120
          simp only [jn_e, bnd_e]
          rw [if_neg (show ¬ (3 : Int32) ≤ nI c from nI_ge (b := 3) hc3 (by omega)), e1, b1_s, e2, b1_s, e3, e4, nI_1]
          show _ = L6_columns_120 (nI r) (fun (x3_48 : Int32) (σ_49 : St) => some (x3_48, σ_49)) q (orI g c ||| (if g c = true then 1 <<< (nI c &&& 31) else 0)) (nI (c + 1)) τ2
          cases g c
          · rw [show bI false = 0 from rfl, i00, if_neg (by decide)]
          · rw [show bI true = 1 from rfl, i10, if_pos rfl]
        · intro q s hs
          obtain ⟨v, s⟩ := s
          obtain ⟨e, fr⟩ := hs
          dsimp only at e fr ⊢
          subst e
          exact ⟨s, by unfold L6_columns_120; exact if_pos (show (3 : Int32) ≤ nI 3 by decide), fr⟩
      obtain ⟨σ', e1, f1⟩ := cls
      obtain ⟨τ', e2, f2⟩ := rfc
      rw [e1, e2]
      exact Sim.of (h.scr f1 f2) _
  · rw [if_neg (show ¬ nI m = nI n by rw [nI_eq (by omega) (by omega)]; exact cn), if_neg (show ¬ nI m = nI n by rw [nI_eq (by omega) (by omega)]; exact cn)]
    exact Sim.found h (k := 5) (by omega)
