/-! the deck as mathematics: how the cards lie, their figures (card i, column c at 3 i + c), how many passes there were -/
abbrev Dk : Type := List Nat × (Nat → Nat) × Nat
def rdg (kd : Nat) (g : Nat → Nat) (c p : Nat) : Nat :=
  if kd = 1 then g (2 - c) else if kd = 2 then g c - p / 4 else if kd = 3 then max (g c) (g ((c + 1) % 3))
  else if kd = 4 then (if g c = 0 then 10 else g c - p / 4)
  else if kd = 5 then (if max (g c) (g ((c + 1) % 3)) = 9 then 0 else max (g c) (g ((c + 1) % 3))) else g c
def pkt (kd fig : Nat → Nat) (p col i : Nat) : Nat := rdg (kd i) (fun c => fig (3 * i + c)) col p
def key (kd fig : Nat → Nat) (p col mis i : Nat) : Nat := 2 * (if mis / 2 ^ i % 2 = 1 then 10 else pkt kd fig p col i) + (if kd i = 5 then 0 else 1)
def bkt (ky : Nat → Nat) (R : Nat) (l : List Nat) : List Nat := (List.range R).flatMap (fun r => l.filter (fun i => ky i == r))
def srt (ky : Nat → Nat) (l : List Nat) : List Nat := bkt ky 22 l
def pas (kd : Nat → Nat) (D : Dk) (col mis : Nat) : List Nat := srt (key kd D.2.1 D.2.2 col mis) D.1
def updN (f : Nat → Nat) (k v : Nat) : Nat → Nat := fun j => if j = k then v else f j
def deed1 (kd : Nat → Nat) (D : Dk) (d : Nat) : Dk :=
  if d / 1000 = 0 then (pas kd D (d / 100 % 10) 0, D.2.1, min 60 (D.2.2 + 1))
  else if d / 1000 = 1 then (D.1.reverse, D.2)
  else if d / 1000 = 2 then (D.1.drop (d / 100 % 10) ++ D.1.take (d / 100 % 10), D.2)
  else (D.1, updN D.2.1 (3 * (d / 100 % 10) + d / 10 % 10) (d % 10), D.2.2)
def rpl (n : Nat) (kd bs : Nat → Nat) (ds : List Nat) : Dk := ds.foldl (deed1 kd) (List.range n, bs, 0)
def okd (n d : Nat) : Prop := d / 1000 < 4 ∧ (d / 1000 = 0 → d / 100 % 10 < 3) ∧ (d / 1000 = 2 → 1 ≤ d / 100 % 10 ∧ d / 100 % 10 < n) ∧ (d / 1000 = 3 → d / 100 % 10 < n ∧ d / 10 % 10 < 3)
def okds (n : Nat) (ds : List Nat) : Prop := ds.length ≤ 40 ∧ ∀ d ∈ ds, okd n d
def okD (n : Nat) (D : Dk) : Prop := D.1.length = n ∧ D.1.Nodup ∧ (∀ i ∈ D.1, i < n) ∧ (∀ k, k < 3 * n → D.2.1 k ≤ 9) ∧ D.2.2 ≤ 60
/-- a row of cards and figures as the reference keeps it -/
def snp (n : Nat) (f : Nat → Int32) (o : Nat) (D : Dk) : Prop := (∀ i, i < n → f (o + i) = nI (D.1.getD i 0)) ∧ (∀ k, k < 3 * n → f (o + 6 + k) = nI (D.2.1 k)) ∧ f (o + 24) = nI D.2.2
/-- the cards as the class has them -/
def clD (σ : St) (n : Nat) (D : Dk) : Prop := (∀ i, i < n → σ.1 17 i = nI (D.1.getD i 0)) ∧ (∀ k, k < 3 * n → σ.1 16 k = nI (D.2.1 k)) ∧ σ.1 13 8 = nI D.2.2
def DA (n : Nat) (kd bs : Nat → Nat) (ds : List Nat) (kp : Nat → Option (List Nat)) : Prop :=
  (n = 0 ∨ 2 ≤ n) ∧ n ≤ 6 ∧ (∀ i, i < n → kd i < 6) ∧ (∀ k, k < 3 * n → bs k ≤ 9) ∧ okds n ds ∧ (∀ k e, kp k = some e → okds n e) ∧ (n = 0 → ds = [] ∧ ∀ k, kp k = none)
def DC (σ : St) (n : Nat) (kd bs : Nat → Nat) (ds : List Nat) (kp : Nat → Option (List Nat)) : Prop :=
  σ.1 13 7 = nI n ∧ σ.1 13 9 = nI ds.length ∧ (∀ i, i < n → σ.1 14 i = nI (kd i)) ∧ (∀ k, k < 3 * n → σ.1 15 k = nI (bs k)) ∧ (∀ j, j < ds.length → σ.1 20 j = nI (ds.getD j 0)) ∧ clD σ n (rpl n kd bs ds) ∧
  (∀ k, k < 3 → kp k = none → σ.1 9 k = -1) ∧ (∀ k e, k < 3 → kp k = some e → σ.1 9 k = nI e.length ∧ ∀ j, j < e.length → σ.1 8 (40 * k + j) = nI (e.getD j 0))
def DM (τ : St) (n : Nat) (kd bs : Nat → Nat) (ds : List Nat) (kp : Nat → Option (List Nat)) : Prop :=
  τ.1 0 4 = nI n ∧ τ.1 0 9 = nI ds.length ∧ (∀ i, i < n → τ.1 5 i = nI (kd i)) ∧ snp n (τ.1 6) 0 (rpl n kd bs ds) ∧ (∀ j, j < ds.length → snp n (τ.1 8) (25 * j) (rpl n kd bs (ds.take j))) ∧
  (∀ k, k < 3 → kp k = none → τ.1 10 k = 0) ∧ (∀ k e, k < 3 → kp k = some e → τ.1 10 k = 1 ∧ τ.1 9 (1026 * k + 25) = nI e.length ∧ snp n (τ.1 9) (1026 * k) (rpl n kd bs e) ∧ ∀ j, j < e.length → snp n (τ.1 9) (1026 * k + 26 + 25 * j) (rpl n kd bs (e.take j)))
theorem DC.cg {σ σ' : St} {n : Nat} {kd bs : Nat → Nat} {ds : List Nat} {kp : Nat → Option (List Nat)} (h : DC σ n kd bs ds kp) (e13 : ∀ k, 7 ≤ k → σ'.1 13 k = σ.1 13 k) (e : ∀ c ∈ [14, 15, 16, 17, 20, 8, 9], σ'.1 c = σ.1 c) : DC σ' n kd bs ds kp := by
  unfold DC clD at h ⊢
  rw [e13 7 (by omega), e13 8 (by omega), e13 9 (by omega), e 14 (by simp), e 15 (by simp), e 16 (by simp), e 17 (by simp), e 20 (by simp), e 8 (by simp), e 9 (by simp)]
  exact h
theorem DM.cg {τ τ' : St} {n : Nat} {kd bs : Nat → Nat} {ds : List Nat} {kp : Nat → Option (List Nat)} (h : DM τ n kd bs ds kp) (e4 : τ'.1 0 4 = τ.1 0 4) (e9 : τ'.1 0 9 = τ.1 0 9) (e : ∀ c ∈ [5, 6, 8, 9, 10], τ'.1 c = τ.1 c) : DM τ' n kd bs ds kp := by
  unfold DM at h ⊢
  rw [e4, e9, e 5 (by simp), e 6 (by simp), e 8 (by simp), e 9 (by simp), e 10 (by simp)]
  exact h
/-! rows, texts, what is told -/
def rowsR (w N : Nat) (s c ts tc : Nat → Int32) : Prop := ∀ r, r < N → (s r = -1 ∧ ts r = -1) ∨ ∃ n, n ≤ w ∧ s r = nI n ∧ ts r = nI n ∧ ∀ i, i < n → c (w * r + i) = tc (w * r + i)
def tellR (σ τ : St) : Prop := σ.1 0 9 = τ.1 0 12 ∧ σ.2 0 10 = τ.2 0 13 ∧ σ.2 0 11 = τ.2 0 14 ∧ σ.1 0 8 = τ.1 0 15 ∧ ∀ f, f < 6 → σ.1 34 f = τ.1 11 f
def DR (σ τ : St) : Prop := ∃ n kd bs ds kp, DA n kd bs ds kp ∧ DC σ n kd bs ds kp ∧ DM τ n kd bs ds kp
def Rel (σ τ : St) : Prop := (σ.1 1 2 = nI 40 ∧ σ.1 4 2 = nI 60 ∧ σ.1 7 2 = nI 40) ∧ rowsR 40 6 (σ.1 3) (σ.1 2) (τ.1 1) (τ.1 2) ∧ rowsR 60 4 (σ.1 6) (σ.1 5) (τ.1 3) (τ.1 4) ∧ tellR σ τ ∧ DR σ τ
def Sim (x y : Option (Int32 × St)) : Prop := ∃ r σ τ, x = some (r, σ) ∧ y = some (r, τ) ∧ Rel σ τ
theorem Sim.of {σ τ : St} (h : Rel σ τ) (v : Int32) : Sim (some (v, σ)) (some (v, τ)) := ⟨v, σ, τ, rfl, rfl, h⟩
/-- the class's store changed in rows, texts, what is told, or aside alone; the reference's likewise -/
theorem DR.cg {σ σ' τ τ' : St} (h : DR σ τ) (e13 : ∀ k, 7 ≤ k → σ'.1 13 k = σ.1 13 k) (e : ∀ c ∈ [14, 15, 16, 17, 20, 8, 9], σ'.1 c = σ.1 c) (e4 : τ'.1 0 4 = τ.1 0 4) (e9 : τ'.1 0 9 = τ.1 0 9) (f : ∀ c ∈ [5, 6, 8, 9, 10], τ'.1 c = τ.1 c) : DR σ' τ' := by
  obtain ⟨n, kd, bs, ds, kp, h1, h2, h3⟩ := h
  exact ⟨n, kd, bs, ds, kp, h1, h2.cg e13 e, h3.cg e4 e9 f⟩
theorem Rel.found {σ τ : St} (h : Rel σ τ) {k : Nat} (hk : k < 6) : f5_found σ (nI k) = some (-3, wI (wI σ 0 8 (nI k)) 34 k (σ.1 34 k + 1)) ∧ f6_found τ (nI k) = some (-3, wI (wI τ 0 15 (nI k)) 11 k (τ.1 11 k + 1)) ∧ Rel (wI (wI σ 0 8 (nI k)) 34 k (σ.1 34 k + 1)) (wI (wI τ 0 15 (nI k)) 11 k (τ.1 11 k + 1)) := by
  refine ⟨?_, ?_, ?_⟩
  · unfold f5_found
    rw [bnd_e, gi_nI hk (by omega), gi_nI hk (by omega), bnd_e, nI_clamp (by omega)]
    rfl
  · unfold f6_found
    rw [bnd_e, gi_nI hk (by omega), gi_nI hk (by omega), bnd_e, nI_clamp (by omega)]
    rfl
  · obtain ⟨⟨w1, w2, w3⟩, h1, h2, ⟨t1, t2, t3, t4, t5⟩, h3⟩ := h
    refine ⟨⟨w1, w2, w3⟩, h1, h2, ⟨t1, t2, t3, ?_, ?_⟩, h3.cg (fun k _ => rfl) (fun c hc => ?_) rfl rfl (fun c hc => ?_)⟩
    · simp [wI, upd]
    · intro f hf
      show upd (σ.1 34) k (σ.1 34 k + 1) f = upd (τ.1 11) k (τ.1 11 k + 1) f
      rw [upd_a, upd_a, t5 f hf, t5 k hk]
    · simp only [List.mem_cons, List.not_mem_nil, or_false] at hc
      rcases hc with rfl | rfl | rfl | rfl | rfl | rfl | rfl <;> rfl
    · simp only [List.mem_cons, List.not_mem_nil, or_false] at hc
      rcases hc with rfl | rfl | rfl | rfl | rfl <;> rfl
theorem Sim.found {σ τ : St} (h : Rel σ τ) {k : Nat} (hk : k < 6) : Sim (b2 (f5_found σ (nI k)) fun r σ => some (r, σ)) (b2 (f6_found τ (nI k)) fun r σ => some (r, σ)) := by
  obtain ⟨h1, h2, h3⟩ := h.found hk
  rw [h1, h2]
  exact Sim.of h3 _
/-! small tests of numbers -/
def inB (x : Int32) (n : Nat) : Int32 := if 0 ≤ x.toInt ∧ x.toInt < n then 1 else 0
theorem inB_nI {j n : Nat} (h : j < n) (hn : n < 2147483648) : inB (nI j) n = 1 := by
  unfold inB
  rw [i_lit j (by omega), if_pos (by omega)]
theorem inB_out {x : Int32} {n : Nat} (h : x.toInt < 0 ∨ (n : Int) ≤ x.toInt) : inB x n = 0 := by
  unfold inB
  rw [if_neg (by omega)]
theorem t_up {x : Int32} (n : Nat) (hn : n < 2147483648) : (if x < 0 then some 0 else if nI n ≤ x then some 0 else some 1) = some (inB x n) := by
  unfold inB
  have e := i_lit n hn
  by_cases h1 : x.toInt < 0
  · rw [if_pos (by rw [i_lt, i_0]; exact h1), if_neg (by omega)]
  · rw [if_neg (by rw [i_lt, i_0]; exact h1)]
    by_cases h2 : (n : Int) ≤ x.toInt
    · rw [if_pos (by rw [i_le, e]; exact h2), if_neg (by omega)]
    · rw [if_neg (by rw [i_le, e]; exact h2), if_pos (by omega)]
theorem m_in (x : Int32) (a b : Int) (la lb : Int64) (ha : la.toInt = a) (hb : lb.toInt = b) : f6_in x.toInt64 la lb = some (if a ≤ x.toInt ∧ x.toInt ≤ b then 1 else 0) := by
  unfold f6_in
  by_cases h1 : x.toInt < a
  · rw [if_pos (by rw [l_lt, l_of, ha]; exact h1), if_neg (by omega)]
  · rw [if_neg (by rw [l_lt, l_of, ha]; exact h1)]
    by_cases h2 : b < x.toInt
    · rw [if_pos (by rw [l_lt, l_of, hb]; exact h2), if_neg (by omega)]
    · rw [if_neg (by rw [l_lt, l_of, hb]; exact h2), if_pos (by omega)]
theorem m_inB (x : Int32) (n : Nat) (lb : Int64) (hb : lb.toInt = (n : Int) - 1) : f6_in x.toInt64 0 lb = some (inB x n) := by
  rw [m_in x 0 ((n : Int) - 1) 0 lb (by decide) hb]
  unfold inB
  by_cases h : 0 ≤ x.toInt ∧ x.toInt < n
  · rw [if_pos h, if_pos (by omega)]
  · rw [if_neg h, if_neg (by omega)]
theorem bz_inB {β : Type} (x : Int32) (n : Nat) (y : Option β) : bz (inB x n) y = y := by
  unfold inB
  by_cases h : 0 ≤ x.toInt ∧ x.toInt < n
  · rw [if_pos h, bz_1]
  · rw [if_neg h, bz_0]
theorem c_isRow (x : Int32) : f5_isRow x = some (inB x 6) := t_up 6 (by omega)
theorem c_isText (x : Int32) : f5_isText x = some (inB x 4) := t_up 4 (by omega)
theorem c_isColumn (x : Int32) : f5_isColumn x = some (inB x 3) := t_up 3 (by omega)
theorem m_isRow (x : Int32) : f6_isRow x = some (inB x 6) := by
  unfold f6_isRow
  rw [m_inB x 6 5 (by decide), b1_s, bz_inB]
theorem m_isText (x : Int32) : f6_isText x = some (inB x 4) := by
  unfold f6_isText
  rw [m_inB x 4 3 (by decide), b1_s, bz_inB]
theorem m_isColumn (x : Int32) : f6_isColumn x = some (inB x 3) := by
  unfold f6_isColumn
  rw [m_inB x 3 2 (by decide), b1_s, bz_inB]
theorem m_isPlace (x : Int32) : f6_isPlace x = some (inB x 3) := by
  unfold f6_isPlace
  rw [m_inB x 3 2 (by decide), b1_s, bz_inB]
theorem Rel.sh1 {σ τ : St} (h : Rel σ τ) : shf σ 1 40 6 := ⟨Or.inl rfl, rfl, rfl, h.1.1, by omega, by omega⟩
theorem Rel.sh4 {σ τ : St} (h : Rel σ τ) : shf σ 4 60 4 := ⟨Or.inr (Or.inl rfl), rfl, rfl, h.1.2.1, by omega, by omega⟩
theorem Rel.sh7 {σ τ : St} (h : Rel σ τ) : shf σ 7 40 3 := ⟨Or.inr (Or.inr rfl), rfl, rfl, h.1.2.2, by omega, by omega⟩
