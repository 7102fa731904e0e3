/-! what is told of a card -/
def plc : List Nat → Nat → Nat
  | [], _ => 0
  | x :: l, i => if x = i then 0 else plc l i + 1
theorem plc_eq {i : Nat} : ∀ (l : List Nat) (k : Nat), k < l.length → l.getD k 0 = i → (∀ j, j < k → l.getD j 0 ≠ i) → plc l i = k
  | [], _, h, _, _ => absurd h (Nat.not_lt_zero _)
  | x :: l, 0, _, h, _ => if_pos h
  | x :: l, k + 1, h, h1, h2 => by
    show (if x = i then 0 else plc l i + 1) = k + 1
    rw [if_neg (show ¬ x = i from h2 0 (by omega)), plc_eq l k (by simpa using h) h1 (fun j hj => h2 (j + 1) (by omega))]
theorem plc_at {i : Nat} : ∀ {l : List Nat}, i ∈ l → plc l i < l.length ∧ l.getD (plc l i) 0 = i ∧ ∀ j, j < plc l i → l.getD j 0 ≠ i
  | [], h => by cases h
  | x :: l, h => by
    by_cases c : x = i
    · have e : plc (x :: l) i = 0 := if_pos c
      rw [e]
      exact ⟨Nat.succ_pos _, c, fun j hj => absurd hj (Nat.not_lt_zero _)⟩
    · have e : plc (x :: l) i = plc l i + 1 := if_neg c
      have hm : i ∈ l := by
        rcases List.mem_cons.mp h with q | q
        · exact absurd q.symm c
        · exact q
      obtain ⟨h1, h2, h3⟩ := plc_at hm
      rw [e]
      refine ⟨Nat.succ_lt_succ h1, h2, fun j hj => ?_⟩
      cases j with
      | zero => exact c
      | succ j => exact h3 j (by omega)
theorem c_placeIn {σ : St} {a n i : Nat} {l : List Nat} (ha : lnC a = 6) (hn : n ≤ 6) (hl : l.length = n) (hm : ∀ x ∈ l, x < n) (hv : ∀ j, j < n → σ.1 a j = nI (l.getD j 0)) (hi : i ∈ l) : f5_placeIn σ a (nI i) (nI n) = some (nI (plc l i)) := by
  obtain ⟨p1, p2, p3⟩ := plc_at hi
  have hin := hm i hi
  unfold f5_placeIn
  refine up (fun q x (_ : Unit) => L5_placeIn_2 σ a (nI i) (nI n) (some (-9)) q x) (plc l i) (fun k _ => k ≤ plc l i) (fun o => o = some (nI (plc l i))) ?_ ?_ (plc l i) 0 () FU (by omega) (by rw [FU_e]; omega) (by omega)
  · intro q k _ hk _
    left
    refine ⟨(), by omega, ?_⟩
    conv => lhs; unfold L5_placeIn_2
    have hx := hm _ (getD_m (l := l) (i := k) (by omega))
    rw [if_neg (nI_ge (by omega) (by omega)), ha, gi_nI (by omega) (by omega), nI_clamp (by omega), hv k (by omega), if_neg (show ¬ nI (l.getD k 0) = nI i by rw [nI_eq (by omega) (by omega)]; exact p3 k hk), bnd_e, nI_1]
  · intro q _ _
    unfold L5_placeIn_2
    rw [if_neg (nI_ge (by omega) (by omega)), ha, gi_nI (by omega) (by omega), nI_clamp (by omega), hv _ (by omega), p2, if_pos rfl]
theorem m_placeOf {τ : St} {a n i : Nat} {l : List Nat} (ha : lnM a = 25) (hn : n ≤ 6) (hl : l.length = n) (hm : ∀ x ∈ l, x < n) (hv : ∀ j, j < n → τ.1 a j = nI (l.getD j 0)) (hi : i ∈ l) : f6_placeOf τ a (nI i) = some (nI (plc l i)) := by
  obtain ⟨p1, p2, p3⟩ := plc_at hi
  have hin := hm i hi
  unfold f6_placeOf
  refine up (fun q x (_ : Unit) => L6_placeOf_2 τ a (nI i) (fun x => some x) q x) (plc l i) (fun k _ => k ≤ plc l i) (fun o => o = some (nI (plc l i))) ?_ ?_ (plc l i) 0 () FU (by omega) (by rw [FU_e]; omega) (by omega)
  · intro q k _ hk _
    left
    refine ⟨(), by omega, ?_⟩
    conv => lhs; unfold L6_placeOf_2
    have hx := hm _ (getD_m (l := l) (i := k) (by omega))
    rw [ha, gi_nI (by omega) (by omega), nI_clamp (by omega), hv k (by omega), if_neg (show ¬ nI (l.getD k 0) = nI i by rw [nI_eq (by omega) (by omega)]; exact p3 k hk), bnd_e, nI_1]
  · intro q _ _
    unfold L6_placeOf_2
    rw [ha, gi_nI (by omega) (by omega), nI_clamp (by omega), hv _ (by omega), p2, if_pos rfl]
def CX (σ : St) (n : Nat) (kd : Nat → Nat) (D : Dk) : Prop := σ.1 13 7 = nI n ∧ n ≤ 6 ∧ (∀ i, i < n → σ.1 14 i = nI (kd i) ∧ kd i < 6) ∧ clD σ n D ∧ okD n D
theorem DC.cx {σ : St} {n : Nat} {kd bs : Nat → Nat} {ds : List Nat} {kp : Nat → Option (List Nat)} (hA : DA n kd bs ds kp) (hC : DC σ n kd bs ds kp) : CX σ n kd (rpl n kd bs ds) :=
  ⟨hC.1, hA.2.1, fun i hi => ⟨hC.2.2.1 i hi, hA.2.2.1 i hi⟩, hC.2.2.2.2.2.1, okD_rpl hA.2.2.2.1 hA.2.2.2.2.1.2⟩
theorem DM.mx {τ : St} {n : Nat} {kd bs : Nat → Nat} {ds : List Nat} {kp : Nat → Option (List Nat)} (hA : DA n kd bs ds kp) (hM : DM τ n kd bs ds kp) : mD τ 6 n kd (rpl n kd bs ds) :=
  ⟨hM.1, hA.2.1, fun i hi => ⟨hM.2.2.1 i hi, hA.2.2.1 i hi⟩, hM.2.2.2.1, okD_rpl hA.2.2.2.1 hA.2.2.2.2.1.2⟩
theorem full_mem {n : Nat} {l : List Nat} (h1 : l.length = n) (h2 : l.Nodup) (h3 : ∀ i ∈ l, i < n) {i : Nat} (hi : i < n) : i ∈ l := by
  apply Decidable.byContradiction
  intro hni
  have hnd : (i :: l).Nodup := List.nodup_cons.mpr ⟨hni, h2⟩
  have hle := hnd.length_le_of_subset (l₂ := List.range n) (fun x hx => by
    rcases List.mem_cons.mp hx with e | e
    · rw [e]; exact List.mem_range.mpr hi
    · exact List.mem_range.mpr (h3 x e))
  rw [List.length_cons, List.length_range] at hle
  omega
theorem c_placeOf {σ : St} {n i : Nat} {kd : Nat → Nat} {D : Dk} (h : CX σ n kd D) (hi : i < n) : f1_placeOf σ (nI i) = some (nI (plc D.1 i)) := by
  obtain ⟨h1, h2, h3, h4, h5⟩ := h
  unfold f1_placeOf
  rw [h1, c_placeIn rfl h2 h5.1 h5.2.2.1 h4.1 (full_mem h5.1 h5.2.1 h5.2.2.1 hi), b1_s]
theorem mD.placeOf {τ : St} {a n i : Nat} {kd : Nat → Nat} {D : Dk} (h : mD τ a n kd D) (ha : a = 6 ∨ a = 7) (hi : i < n) : f6_placeOf τ a (nI i) = some (nI (plc D.1 i)) := by
  obtain ⟨h1, h2, h3, h4, h5⟩ := h
  refine m_placeOf (by rcases ha with rfl | rfl <;> rfl) h2 h5.1 h5.2.2.1 (fun j hj => ?_) (full_mem h5.1 h5.2.1 h5.2.2.1 hi)
  have := h4.1 j hj
  rw [Nat.zero_add] at this
  exact this
theorem c_readsBehind {σ : St} {n i c p : Nat} {kd : Nat → Nat} {D : Dk} (h : CX σ n kd D) (hi : i < n) (hc : c < 3) (hp : p ≤ 60) : f1_readsBehind σ (nI i) (nI c) (nI p) = some (nI (pkt kd D.2.1 p c i)) := by
  obtain ⟨h1, h2, h3, h4, h5⟩ := h
  have hrd := c_reading (σ := σ) (a := 16) (o := 3 * i) (c := c) (kd := kd i) (p := p) (g := fun c => D.2.1 (3 * i + c)) (by show 3 * i + 3 ≤ 18; omega) (by decide) (fun c hc => h4.2.1 _ (by omega)) (fun c hc => h5.2.2.2.1 _ (by omega)) hc (h3 i hi).2 hp
  unfold f1_readsBehind
  rw [gi_nI (by omega) (by omega), nI_clamp (by omega), (h3 i hi).1, show (3 : Int32) = nI 3 from rfl, pk_mul, Nat.mul_comm i 3, hrd, b1_s]
  rfl
def cardV (kd : Nat → Nat) (D : Dk) (i w : Nat) : Nat := if w = 0 then kd i else if w ≤ 3 then D.2.1 (3 * i + (w - 1)) else if w = 4 then plc D.1 i else pkt kd D.2.1 D.2.2 (w - 5) i
theorem c_cardFact {σ : St} {n i w : Nat} {kd : Nat → Nat} {D : Dk} (h : CX σ n kd D) (hi : i < n) (hw : w < 8) : f5_cardFact σ (nI i) (nI w) = some (nI (cardV kd D i w)) := by
  have h0 := h
  obtain ⟨h1, h2, h3, h4, h5⟩ := h
  unfold f5_cardFact cardV
  by_cases c0 : w = 0
  · subst c0
    rw [if_pos (by rfl), if_pos rfl, gi_nI (by omega) (by omega), nI_clamp (by omega), (h3 i hi).1]
  rw [if_neg (nI_ne0 (by omega) (by omega)), if_neg c0]
  by_cases c3 : w ≤ 3
  · rw [if_neg (show ¬ (3 : Int32) < nI w from nI_nlt (a := 3) c3 (by omega)), if_pos c3, show nI w - 1 = nI (w - 1) from pk_sub (b := 1) (by omega), c_figureOf h4 h2 hi (by omega), b1_s]
  rw [if_pos (show (3 : Int32) < nI w from nI_lt (a := 3) (by omega) (by omega)), if_neg c3]
  by_cases c4 : w = 4
  · subst c4
    rw [if_pos (by rfl), if_pos rfl, c_placeOf h0 hi, b1_s]
  · rw [if_neg (show ¬ nI w = 4 by rw [show (4 : Int32) = nI 4 from rfl, nI_eq (by omega) (by omega)]; exact c4), if_neg c4, show nI w - 3 - 2 = nI (w - 5) by rw [show (3 : Int32) = nI 3 from rfl, pk_sub (by omega), show (2 : Int32) = nI 2 from rfl, pk_sub (by omega), show w - 3 - 2 = w - 5 by omega], h4.2.2, c_readsBehind h0 hi (by omega) h5.2.2.2.2, b1_s]
theorem e_card {σ τ : St} (h : Rel σ τ) (x y : Int32) : Sim (f5_card σ x y) (f6_card τ x y) := by
  obtain ⟨n, kd, bs, ds, kp, hA, hC, hM⟩ := h.2.2.2.2
  have hn6 := hA.2.1
  have hc := hC.cx hA
  have hm := hM.mx hA
  generalize rpl n kd bs ds = D at hc hm
  have e8 : (8 : Int32).toInt = 8 := by decide
  unfold f5_card f6_card
  simp only [jn_e, bnd_e]
  rw [c_isCard hC.1 hn6, m_isCard hM.1 hn6, b1_s, b1_s]
  rcases ix x n (by omega) with hx | ⟨i, hi, rfl⟩
  · rw [inB_out hx, i00, i00]
    exact Sim.of h _
  rw [inB_nI hi (by omega), i10, i10, m_inB y 8 7 (by decide), b1_s]
  rcases ix y 8 (by omega) with hy | ⟨w, hw, rfl⟩
  · rw [inB_out hy, i00]
    by_cases c1 : y.toInt < 0
    · rw [if_pos (show y < 0 by rw [i_lt, i_0]; exact c1)]
      exact Sim.of h _
    · rw [if_neg (show ¬ y < 0 by rw [i_lt, i_0]; exact c1), if_neg (show ¬ y < 8 by rw [i_lt, e8]; omega)]
      exact Sim.of h _
  rw [inB_nI hw (by omega), i10, if_neg (nI_pos (by omega)), if_pos (show nI w < 8 from nI_lt (b := 8) hw (by omega)), c_cardFact hc hi hw, b1_s]
  have fin : ∀ v, v = nI (cardV kd D i w) → Sim (some (1, wI σ 0 9 (nI (cardV kd D i w)))) (b2 (f6_tell τ v) fun r σ => some (r, σ)) := fun v hv => by
    rw [hv]
    unfold f6_tell
    rw [bnd_e, b2_s]
    exact Sim.of (h.tell _) _
  obtain ⟨h1, h2, h3, h4, h5⟩ := hm
  by_cases c0 : w = 0
  · subst c0
    rw [if_pos (by rfl), gi_nI (by omega) (by omega), nI_clamp (by omega)]
    exact fin _ (h3 i hi).1
  rw [if_neg (nI_ne0 (by omega) (by omega))]
  by_cases c3 : w ≤ 3
  · rw [if_neg (show ¬ (4 : Int32) ≤ nI w from nI_ge (b := 4) (by omega) (by omega)), show (6 : Int32) + 3 * nI i + nI w - 1 = nI (6 + (3 * i + (w - 1))) by rw [show (6 : Int32) = nI 6 from rfl, show (3 : Int32) = nI 3 from rfl, pk_mul, nI_add, nI_add, show (1 : Int32) = nI 1 from rfl, pk_sub (by omega), show 6 + 3 * i + w - 1 = 6 + (3 * i + (w - 1)) by omega], gi_nI (by omega) (by omega), nI_clamp (by omega)]
    refine fin _ ?_
    have := h4.2.1 (3 * i + (w - 1)) (by omega)
    rw [Nat.zero_add] at this
    rw [this]
    unfold cardV
    rw [if_neg c0, if_pos c3]
  rw [if_pos (show (4 : Int32) ≤ nI w from nI_le (a := 4) (by omega) (by omega))]
  by_cases c4 : w = 4
  · subst c4
    rw [if_pos (by rfl), mD.placeOf ⟨h1, h2, h3, h4, h5⟩ (Or.inl rfl) hi, b1_s]
    exact fin _ rfl
  · rw [if_neg (show ¬ nI w = 4 by rw [show (4 : Int32) = nI 4 from rfl, nI_eq (by omega) (by omega)]; exact c4), show nI w - 5 = nI (w - 5) from pk_sub (b := 5) (by omega), m_readOn ⟨h1, h2, h3, h4, h5⟩ (Or.inl rfl) hi (by omega), b1_s]
    refine fin _ ?_
    unfold cardV
    rw [if_neg c0, if_neg c3, if_neg c4]
/-! answers that leave all as it is -/
def SimR {α : Type} (x y : Option α) : Prop := ∃ r, x = some r ∧ y = some r
theorem e_pocket {σ τ : St} (h : Rel σ τ) (x y z : Int32) : SimR (f5_pocket σ x y z) (f6_pocket τ x y z) := by
  obtain ⟨n, kd, bs, ds, kp, hA, hC, hM⟩ := h.2.2.2.2
  have hn6 := hA.2.1
  have hc := hC.cx hA
  have hm := hM.mx hA
  generalize rpl n kd bs ds = D at hc hm
  have e60 : (60 : Int32).toInt = 60 := by decide
  unfold f5_pocket f6_pocket
  rw [c_isCard hC.1 hn6, m_isCard hM.1 hn6, b1_s, b1_s]
  rcases ix x n (by omega) with hx | ⟨i, hi, rfl⟩
  · rw [inB_out hx, i00, i00]
    exact ⟨_, rfl, rfl⟩
  rw [inB_nI hi (by omega), i10, i10, c_isColumn, m_isColumn, b1_s, b1_s]
  rcases ix y 3 (by omega) with hy | ⟨c, hc3, rfl⟩
  · rw [inB_out hy, i00, i00]
    exact ⟨_, rfl, rfl⟩
  rw [inB_nI hc3 (by omega), i10, i10, m_inB z 61 60 (by decide), b1_s]
  rcases ix z 61 (by omega) with hz | ⟨p, hp, rfl⟩
  · rw [inB_out hz, i00]
    by_cases c1 : z.toInt < 0
    · rw [if_pos (show z < 0 by rw [i_lt, i_0]; exact c1)]
      exact ⟨_, rfl, rfl⟩
    · rw [if_neg (show ¬ z < 0 by rw [i_lt, i_0]; exact c1), if_neg (show ¬ z ≤ 60 by rw [i_le, e60]; omega)]
      exact ⟨_, rfl, rfl⟩
  obtain ⟨h1, h2, h3, h4, h5⟩ := hm
  have hrd := m_readsBy (τ := τ) (a := 6) (o := 6 + 3 * i) (c := c) (kd := kd i) (p := p) (g := fun c => D.2.1 (3 * i + c)) (by show 6 + 3 * i + 3 ≤ 25; omega) (by decide) (fun c hc => by
    have := h4.2.1 (3 * i + c) (by omega)
    rw [Nat.zero_add] at this
    rw [Nat.add_assoc]
    exact this) (fun c hc => h5.2.2.2.1 _ (by omega)) hc3 (h3 i hi).2 (show p ≤ 60 by omega)
  rw [inB_nI hp (by omega), i10, if_neg (nI_pos (by omega)), if_pos (show nI p ≤ 60 from nI_le (b := 60) (by omega) (by omega)), c_readsBehind hc hi hc3 (by omega), b1_s, gi_nI (by omega) (by omega), nI_clamp (by omega), (h3 i hi).1, show (6 : Int32) = nI 6 from rfl, show (3 : Int32) = nI 3 from rfl, pk_mul, nI_add, hrd, b1_s]
  exact ⟨_, rfl, rfl⟩
theorem e_asked {σ τ : St} (h : Rel σ τ) : SimR (f5_asked σ) (f6_asked τ) := ⟨_, rfl, by unfold f6_asked; rw [h.2.2.2.1.1]⟩
theorem e_upper {σ τ : St} (h : Rel σ τ) : SimR (f5_upper σ) (f6_upper τ) := ⟨_, rfl, by unfold f6_upper; rw [h.2.2.2.1.2.1]⟩
theorem e_lower {σ τ : St} (h : Rel σ τ) : SimR (f5_lower σ) (f6_lower τ) := ⟨_, rfl, by unfold f6_lower; rw [h.2.2.2.1.2.2.1]⟩
theorem e_finding {σ τ : St} (h : Rel σ τ) : SimR (f5_finding σ) (f6_finding τ) := ⟨_, rfl, by unfold f6_finding; rw [h.2.2.2.1.2.2.2.1]⟩
theorem e_findings {σ τ : St} (h : Rel σ τ) (x : Int32) : SimR (f5_findings σ x) (f6_findings τ x) := by
  have e1 : (1 : Int32).toInt = 1 := by decide
  have e5 : (5 : Int32).toInt = 5 := by decide
  unfold f5_findings f6_findings
  rw [m_in x 1 5 1 5 (by decide) (by decide), b1_s]
  by_cases a1 : x.toInt < 1
  · rw [if_pos (show x < 1 by rw [i_lt, e1]; exact a1), if_neg (show ¬ (1 ≤ x.toInt ∧ x.toInt ≤ 5) by omega), i00]
    exact ⟨_, rfl, rfl⟩
  rw [if_neg (show ¬ x < 1 by rw [i_lt, e1]; exact a1)]
  by_cases a2 : x.toInt ≤ 5
  · obtain ⟨f, hf, rfl⟩ : ∃ f : Nat, f < 6 ∧ x = nI f := by
      rcases ix x 6 (by omega) with q | q
      · omega
      · exact q
    rw [if_pos (show nI f ≤ 5 by rw [i_le, e5]; exact a2), if_pos (show (1 ≤ (nI f).toInt ∧ (nI f).toInt ≤ 5) by omega), i10, gi_nI hf (by omega), gi_nI hf (by omega), nI_clamp (by omega), h.2.2.2.1.2.2.2.2 f hf]
    exact ⟨_, rfl, rfl⟩
  · rw [if_neg (show ¬ x ≤ 5 by rw [i_le, e5]; exact a2), if_neg (show ¬ (1 ≤ x.toInt ∧ x.toInt ≤ 5) by omega), i00]
    exact ⟨_, rfl, rfl⟩
