/-! the duel -/
def mvD (kd : Nat → Nat) (E : Dk) (c : Nat) : Dk := if c < 3 then psD kd E c else E
theorem mvD_ok {n : Nat} {kd : Nat → Nat} {E : Dk} (h : okD n E) (c : Nat) : okD n (mvD kd E c) ∧ (mvD kd E c).2.1 = E.2.1 := by
  unfold mvD
  by_cases e : c < 3
  · rw [if_pos e]
    exact ⟨psD_ok h e, rfl⟩
  · rw [if_neg e]
    exact ⟨h, rfl⟩
def ldI (a b : Nat) (E : Dk) : Int := (plc E.1 b : Int) - plc E.1 a
def val (kd : Nat → Nat) (a b : Nat) : Nat → Nat → Dk → Int
  | 0, _, E => ldI a b E
  | m + 1, d, E => if d % 2 = 0 then max (max (max (val kd a b m (d + 1) (mvD kd E 0)) (val kd a b m (d + 1) (mvD kd E 1))) (val kd a b m (d + 1) (mvD kd E 2))) (val kd a b m (d + 1) (mvD kd E 3))
    else min (min (min (val kd a b m (d + 1) (mvD kd E 0)) (val kd a b m (d + 1) (mvD kd E 1))) (val kd a b m (d + 1) (mvD kd E 2))) (val kd a b m (d + 1) (mvD kd E 3))
theorem plc_lt {n a : Nat} {E : Dk} (h : okD n E) (ha : a < n) : plc E.1 a < n := by
  have := (plc_at (full_mem h.1 h.2.1 h.2.2.1 ha)).1
  rw [h.1] at this
  exact this
theorem val_le {n a b : Nat} {kd : Nat → Nat} (hn : n ≤ 6) (ha : a < n) (hb : b < n) : ∀ (m d : Nat) (E : Dk), okD n E → -5 ≤ val kd a b m d E ∧ val kd a b m d E ≤ 5
  | 0, d, E, h => by
    have h1 := plc_lt h ha
    have h2 := plc_lt h hb
    show -5 ≤ (plc E.1 b : Int) - plc E.1 a ∧ (plc E.1 b : Int) - plc E.1 a ≤ 5
    omega
  | m + 1, d, E, h => by
    have h0 := val_le (kd := kd) hn ha hb m (d + 1) _ (mvD_ok (kd := kd) h 0).1
    have h1 := val_le (kd := kd) hn ha hb m (d + 1) _ (mvD_ok (kd := kd) h 1).1
    have h2 := val_le (kd := kd) hn ha hb m (d + 1) _ (mvD_ok (kd := kd) h 2).1
    have h3 := val_le (kd := kd) hn ha hb m (d + 1) _ (mvD_ok (kd := kd) h 3).1
    unfold val
    split <;> omega
def cl (a b v : Int) : Int := max a (min b v)
def mxI (f : Nat → Int) (a : Int) : Nat → Int
  | 0 => a
  | c + 1 => max (mxI f a c) (f c)
def mnI (f : Nat → Int) (a : Int) : Nat → Int
  | 0 => a
  | c + 1 => min (mnI f a c) (f c)
theorem mxI_4 (f : Nat → Int) (a : Int) : mxI f a 4 = max a (max (max (max (f 0) (f 1)) (f 2)) (f 3)) := by
  show max (max (max (max a (f 0)) (f 1)) (f 2)) (f 3) = _
  omega
theorem mnI_4 (f : Nat → Int) (a : Int) : mnI f a 4 = min a (min (min (min (f 0) (f 1)) (f 2)) (f 3)) := by
  show min (min (min (min a (f 0)) (f 1)) (f 2)) (f 3) = _
  omega
theorem mxI_mono {f : Nat → Int} {a : Int} {c : Nat} : ∀ j, mxI f a c ≤ mxI f a (c + j)
  | 0 => Int.le_refl _
  | j + 1 => by
    have := mxI_mono (f := f) (a := a) (c := c) j
    show mxI f a c ≤ max (mxI f a (c + j)) (f (c + j))
    omega
theorem mnI_mono {f : Nat → Int} {a : Int} {c : Nat} : ∀ j, mnI f a (c + j) ≤ mnI f a c
  | 0 => Int.le_refl _
  | j + 1 => by
    have := mnI_mono (f := f) (a := a) (c := c) j
    show min (mnI f a (c + j)) (f (c + j)) ≤ mnI f a c
    omega
/-- a move of the class -/
theorem c_step {σ s : St} {n d c : Nat} {kd : Nat → Nat} {D E : Dk} (hc : CX σ n kd D) (fr : frT σ s) (ho : okD n E) (hf : E.2.1 = D.2.1) (hd : d < 6) (hl : lieA s (24 + d) n E) (hc4 : c < 4) :
    ∃ s', f4_step s (nI d) (nI c) (nI E.2.2) = some (nI (mvD kd E c).2.2, s') ∧ frT σ s' ∧ (∀ j, j ≤ d → s'.1 (24 + j) = s.1 (24 + j)) ∧ lieA s' (24 + (d + 1)) n (mvD kd E c) := by
  unfold f4_step mvD
  by_cases c3 : c < 3
  · obtain ⟨s2, e2, f2, f3, f4⟩ := (hc.fr fr.1).sift ho hf (a1 := 24 + d) (a2 := 24 + (d + 1)) (col := c) (mis := 0) (Or.inr (by omega)) (by omega) hl c3 (by omega)
    rw [if_pos c3]
    refine ⟨s2, ?_, fr.tr ⟨f2, f3 21 (by omega) (by omega)⟩, fun j hj => f3 _ (by omega) (by omega), f4⟩
    rw [if_pos (show nI c < 3 from nI_lt (b := 3) c3 (by omega)), gi_nI (by omega) (by omega), nI_1, gi_nI (by omega) (by omega), nI_clamp (by omega), nI_clamp (by omega), show (0 : Int32) = nI 0 from rfl, e2, b1_s, c_more ho.2.2.2.2, b1_s]
    rfl
  · obtain ⟨s2, e2, f2, f3, f4⟩ := c_layAs (σ := s) (a1 := 24 + d) (a2 := 24 + (d + 1)) hc.2.1 (Or.inr (by omega)) (by omega) (by omega)
    rw [if_neg c3]
    refine ⟨s2, ?_, fr.tr ⟨f2, f3 21 (by omega)⟩, fun j hj => f3 _ (by omega), fun i hi => by rw [f4 i hi]; exact hl i hi⟩
    rw [if_neg (show ¬ nI c < 3 from nI_nlt (a := c) (b := 3) (by omega) (by omega)), gi_nI (by omega) (by omega), nI_1, gi_nI (by omega) (by omega), nI_clamp (by omega), nI_clamp (by omega), (hc.fr fr.1).1, e2, b1_s]
theorem c_out {σ : St} {n a b T : Nat} {kd : Nat → Nat} {D : Dk} (hc : CX σ n kd D) (ha : a < n) (hb : b < n) (h3 : σ.1 21 3 = nI a) (h6 : σ.1 21 6 = nI b) (h7 : σ.1 21 7 = nI T) (hT : T ≤ 6) : ∀ (m d e : Nat) (s : St) (E : Dk) (al be : Int32), d + m = T → m < e → frT σ s → okD n E → E.2.1 = D.2.1 → lieA s (24 + d) n E → al.toInt < be.toInt →
    ∃ r s', f4_outcome e s (nI d) (nI E.2.2) al be = some (r, s') ∧ frT σ s' ∧ (∀ j, j ≤ d → s'.1 (24 + j) = s.1 (24 + j)) ∧ cl al.toInt be.toInt r.toInt = cl al.toInt be.toInt (val kd a b m d E) := by
  have hn := hc.2.1
  intro m
  induction m with
  | zero =>
    intro d e s E al be hd he fr ho hf hl hab
    obtain ⟨q, rfl⟩ : ∃ q, e = q + 1 := ⟨e - 1, by omega⟩
    have p1 := c_placeIn (σ := s) (a := 24 + d) (i := b) (lnC_lies (by omega)) hn ho.1 ho.2.2.1 hl (full_mem ho.1 ho.2.1 ho.2.2.1 hb)
    have p2 := c_placeIn (σ := s) (a := 24 + d) (i := a) (lnC_lies (by omega)) hn ho.1 ho.2.2.1 hl (full_mem ho.1 ho.2.1 ho.2.2.1 ha)
    have l1 := plc_lt ho ha
    have l2 := plc_lt ho hb
    refine ⟨nI (plc E.1 b) - nI (plc E.1 a), s, ?_, fr, fun _ _ => rfl, ?_⟩
    · unfold f4_outcome
      simp only [jn_e]
      rw [fr.2, h3, h6, h7, if_pos (nI_le (by omega) (by omega)), gi_nI (by omega) (by omega), nI_clamp (by omega), (hc.fr fr.1).1, p1, b1_s, gi_nI (by omega) (by omega), p2, b1_s]
    · rw [pk_sub_toInt (by omega) (by omega)]
      rfl
  | succ m ih =>
    intro d e s E al be hd he fr ho hf hl hab
    obtain ⟨q, rfl⟩ : ∃ q, e = q + 1 := ⟨e - 1, by omega⟩
    generalize hF : (fun c => val kd a b m (d + 1) (mvD kd E c)) = F
    have hFc : ∀ c, val kd a b m (d + 1) (mvD kd E c) = F c := fun c => by rw [← hF]
    unfold f4_outcome
    simp only [jn_e]
    rw [fr.2, h7, if_neg (nI_ge (a := d) (b := T) (by omega) (by omega)), if_pos (show nI d < 6 from nI_lt (b := 6) (by omega) (by omega)), show (2 : Int32) = nI 2 from rfl, pk_rem (by omega) (by omega) (by omega)]
    have child : ∀ (st : St) (c : Nat) (al be : Int32), c < 4 → frT σ st → lieA st (24 + d) n E → al.toInt < be.toInt → ∃ r s1 s', f4_step st (nI d) (nI c) (nI E.2.2) = some (nI (mvD kd E c).2.2, s1) ∧ f4_outcome q s1 (nI (d + 1)) (nI (mvD kd E c).2.2) al be = some (r, s') ∧ frT σ s' ∧ (∀ j, j ≤ d → s'.1 (24 + j) = st.1 (24 + j)) ∧ cl al.toInt be.toInt r.toInt = cl al.toInt be.toInt (F c) := fun st c al be hc4 frs hls hab' => by
      obtain ⟨s1, e1, g1, g2, g3⟩ := c_step hc frs ho hf (by omega) hls hc4
      have ok := mvD_ok (kd := kd) ho c
      obtain ⟨r, s', e2, u1, u2, u3⟩ := ih (d + 1) q s1 (mvD kd E c) al be (by omega) (by omega) g1 ok.1 (ok.2.trans hf) g3 hab'
      refine ⟨r, s1, s', e1, e2, u1, fun j hj => by rw [u2 j (by omega), g2 j hj], ?_⟩
      rw [u3, hFc]
    by_cases par : d % 2 = 0
    · have hv : val kd a b (m + 1) d E = max (max (max (F 0) (F 1)) (F 2)) (F 3) := by
        unfold val
        rw [if_pos par, hFc, hFc, hFc, hFc]
      rw [par, if_pos (by rfl)]
      refine up0 (fun f c st => L4_outcome_66 (f4_outcome q) (nI d) (nI E.2.2) 1 (fun x4_35 x5_36 σ_37 => if (1 : Int32) = 0 then some (x5_36, σ_37) else some (x4_35, σ_37)) f st.1 be c st.2) 4 (by omega)
        (fun c st => frT σ st.2 ∧ (∀ j, j ≤ d → st.2.1 (24 + j) = s.1 (24 + j)) ∧ al.toInt ≤ st.1.toInt ∧ cl al.toInt be.toInt st.1.toInt = cl al.toInt be.toInt (mxI F al.toInt c))
        (fun o => ∃ r s', o = some (r, s') ∧ frT σ s' ∧ (∀ j, j ≤ d → s'.1 (24 + j) = s.1 (24 + j)) ∧ cl al.toInt be.toInt r.toInt = cl al.toInt be.toInt (val kd a b (m + 1) d E)) ?_ ?_ (al, s) ⟨fr, fun _ _ => rfl, Int.le_refl _, rfl⟩
      · intro f c st hc4 hs
        obtain ⟨x, st⟩ := st
        obtain ⟨u1, u2, u3, u4⟩ := hs
        dsimp only at u1 u2 u3 u4 ⊢
        by_cases ex : be.toInt ≤ x.toInt
        · right
          refine ⟨x, st, ?_, u1, u2, ?_⟩
          · unfold L4_outcome_66
            rw [if_neg (show ¬ (3 : Int32) < nI c from nI_nlt (a := 3) (by omega) (by omega)), if_pos (show be ≤ x by rw [i_le]; exact ex), i10]
          · have hm4 := mxI_4 F al.toInt
            have hmo := mxI_mono (f := F) (a := al.toInt) (c := c) (4 - c)
            rw [show c + (4 - c) = 4 by omega] at hmo
            rw [hv]
            unfold cl at u4 ⊢
            omega
        · obtain ⟨r, s1, s', e1, e2, g1, g2, g3⟩ := child st c x be hc4 u1 (fun i hi => by rw [u2 d (Nat.le_refl _)]; exact hl i hi) (by omega)
          left
          refine ⟨(if x < r then r else x, s'), ⟨g1, fun j hj => by rw [g2 j hj, u2 j hj], ?_, ?_⟩, ?_⟩
          · show al.toInt ≤ (if x < r then r else x).toInt
            by_cases e : x < r
            · rw [if_pos e]
              rw [i_lt] at e
              omega
            · rw [if_neg e]
              exact u3
          · show cl al.toInt be.toInt (if x < r then r else x).toInt = cl al.toInt be.toInt (max (mxI F al.toInt c) (F c))
            have em : (if x < r then r else x).toInt = max x.toInt r.toInt := by
              by_cases e : x < r
              · rw [if_pos e]
                rw [i_lt] at e
                omega
              · rw [if_neg e]
                rw [i_lt] at e
                omega
            have hmo := mxI_mono (f := F) (a := al.toInt) (c := 0) c
            rw [Nat.zero_add] at hmo
            have hmo' : al.toInt ≤ mxI F al.toInt c := hmo
            rw [em]
            unfold cl at u4 g3 ⊢
            omega
          · conv => lhs; unfold L4_outcome_66
            simp only [jn_e, bnd_e]
            rw [if_neg (show ¬ (3 : Int32) < nI c from nI_nlt (a := 3) (by omega) (by omega)), if_neg (show ¬ be ≤ x by rw [i_le]; exact ex), e1, b2_s, nI_1, e2, b2_s, i10, nI_1]
      · intro f st hs
        obtain ⟨x, st⟩ := st
        obtain ⟨u1, u2, u3, u4⟩ := hs
        dsimp only at u1 u2 u3 u4 ⊢
        refine ⟨x, st, ?_, u1, u2, ?_⟩
        · unfold L4_outcome_66
          rw [if_pos (show (3 : Int32) < nI 4 by decide), i10]
        · rw [u4, mxI_4, hv]
          unfold cl
          omega
    · have hv : val kd a b (m + 1) d E = min (min (min (F 0) (F 1)) (F 2)) (F 3) := by
        unfold val
        rw [if_neg par, hFc, hFc, hFc, hFc]
      rw [show d % 2 = 1 by omega, if_neg (by decide)]
      refine up0 (fun f c st => L4_outcome_66 (f4_outcome q) (nI d) (nI E.2.2) 0 (fun x4_35 x5_36 σ_37 => if (0 : Int32) = 0 then some (x5_36, σ_37) else some (x4_35, σ_37)) f al st.1 c st.2) 4 (by omega)
        (fun c st => frT σ st.2 ∧ (∀ j, j ≤ d → st.2.1 (24 + j) = s.1 (24 + j)) ∧ st.1.toInt ≤ be.toInt ∧ cl al.toInt be.toInt st.1.toInt = cl al.toInt be.toInt (mnI F be.toInt c))
        (fun o => ∃ r s', o = some (r, s') ∧ frT σ s' ∧ (∀ j, j ≤ d → s'.1 (24 + j) = s.1 (24 + j)) ∧ cl al.toInt be.toInt r.toInt = cl al.toInt be.toInt (val kd a b (m + 1) d E)) ?_ ?_ (be, s) ⟨fr, fun _ _ => rfl, Int.le_refl _, rfl⟩
      · intro f c st hc4 hs
        obtain ⟨x, st⟩ := st
        obtain ⟨u1, u2, u3, u4⟩ := hs
        dsimp only at u1 u2 u3 u4 ⊢
        by_cases ex : x.toInt ≤ al.toInt
        · right
          refine ⟨x, st, ?_, u1, u2, ?_⟩
          · unfold L4_outcome_66
            rw [if_neg (show ¬ (3 : Int32) < nI c from nI_nlt (a := 3) (by omega) (by omega)), if_pos (show x ≤ al by rw [i_le]; exact ex), i00]
          · have hm4 := mnI_4 F be.toInt
            have hmo := mnI_mono (f := F) (a := be.toInt) (c := c) (4 - c)
            rw [show c + (4 - c) = 4 by omega] at hmo
            rw [hv]
            unfold cl at u4 ⊢
            omega
        · obtain ⟨r, s1, s', e1, e2, g1, g2, g3⟩ := child st c al x hc4 u1 (fun i hi => by rw [u2 d (Nat.le_refl _)]; exact hl i hi) (by omega)
          left
          have em : (if r < x then r else x).toInt = min x.toInt r.toInt := by
            by_cases e : r < x
            · rw [if_pos e]
              rw [i_lt] at e
              omega
            · rw [if_neg e]
              rw [i_lt] at e
              omega
          refine ⟨(if r < x then r else x, s'), ⟨g1, fun j hj => by rw [g2 j hj, u2 j hj], ?_, ?_⟩, ?_⟩
          · show (if r < x then r else x).toInt ≤ be.toInt
            rw [em]
            omega
          · show cl al.toInt be.toInt (if r < x then r else x).toInt = cl al.toInt be.toInt (min (mnI F be.toInt c) (F c))
            have hmo := mnI_mono (f := F) (a := be.toInt) (c := 0) c
            rw [Nat.zero_add] at hmo
            have hmo' : mnI F be.toInt c ≤ be.toInt := hmo
            rw [em]
            unfold cl at u4 g3 ⊢
            omega
          · conv => lhs; unfold L4_outcome_66
            simp only [jn_e, bnd_e]
            rw [if_neg (show ¬ (3 : Int32) < nI c from nI_nlt (a := 3) (by omega) (by omega)), if_neg (show ¬ x ≤ al by rw [i_le]; exact ex), e1, b2_s, nI_1, e2, b2_s, if_pos trivial, nI_1]
      · intro f st hs
        obtain ⟨x, st⟩ := st
        obtain ⟨u1, u2, u3, u4⟩ := hs
        dsimp only at u1 u2 u3 u4 ⊢
        refine ⟨x, st, ?_, u1, u2, ?_⟩
        · unfold L4_outcome_66
          rw [if_pos (show (3 : Int32) < nI 4 by decide), i00]
        · rw [u4, mnI_4, hv]
          unfold cl
          omega
theorem c_duelOf {σ : St} {n a b t : Nat} {kd : Nat → Nat} {D : Dk} (hc : CX σ n kd D) (ha : a < n) (hb : b < n) (ht : t ≤ 3) : ∃ r s', f4_duelOf σ (nI a) (nI b) (nI t) = some (r, s') ∧ frS σ s' ∧ r.toInt = val kd a b (2 * t) 0 D := by
  obtain ⟨σ1, e1, f1, l1⟩ := hc.start
  have fr : frS σ (wI (wI (wI σ1 21 3 (nI a)) 21 6 (nI b)) 21 7 (nI (2 * t))) := ⟨fun c hc' => by rw [wI_n _ _ _ (by omega), wI_n _ _ _ (by omega), wI_n _ _ _ (by omega)]; exact f1.1 c hc', f1.2⟩
  obtain ⟨r, s', e2, g1, g2, g3⟩ := c_out (T := 2 * t) (hc.fr fr) ha hb rfl rfl rfl (by omega) (2 * t) 0 7 _ D (-6) 6 (by omega) (by omega) (frT.rf _) hc.2.2.2.2 rfl (fun i hi => by rw [wI_n _ _ _ (by omega), wI_n _ _ _ (by omega), wI_n _ _ _ (by omega)]; exact l1 i hi) (by decide)
  refine ⟨r, s', ?_, fr.tr g1.1, ?_⟩
  · unfold f4_duelOf
    simp only [bnd_e]
    rw [e1, b1_s, show (2 : Int32) = nI 2 from rfl, pk_mul, show (wI (wI (wI σ1 21 3 (nI a)) 21 6 (nI b)) 21 7 (nI (2 * t))).1 13 8 = nI D.2.2 from by rw [fr.1 13 (by omega)]; exact hc.2.2.2.1.2.2]
    replace e2 : f4_outcome 7 (wI (wI (wI σ1 21 3 (nI a)) 21 6 (nI b)) 21 7 (nI (2 * t))) 0 (nI D.2.2) (-6) 6 = _ := e2
    rw [e2, b2_s]
  · have hv := val_le (kd := kd) hc.2.1 ha hb (2 * t) 0 D hc.2.2.2.2
    have e6 : (-6 : Int32).toInt = -6 := by decide
    have e7 : (6 : Int32).toInt = 6 := by decide
    rw [e6, e7] at g3
    unfold cl at g3
    omega
