/-! words of the pure part -/
theorem b1_s {α β : Type} (x : α) (F : α → Option β) : b1 (some x) F = F x := rfl
theorem b2_s {α β : Type} (x : α) (σ : St) (F : α → St → Option β) : b2 (some (x, σ)) F = F x σ := rfl
theorem bnd_e {α β : Type} (x : α) (F : α → β) : bnd x F = F x := rfl
theorem jn_e {α β : Type} (x : α) (F : α → β) : jn x F = F x := rfl
theorem gi_in {β : Type} {i : Int32} {n : Nat} {x : Option β} (h : vp_in i n) : gi i n x = x := if_neg h
theorem gi_nI {β : Type} {j n : Nat} {x : Option β} (h : j < n) (hn : n < 2 ^ 31) : gi (nI j) n x = x := if_neg (vp_in_nI h hn)
theorem oN (n : Nat) : Int32.ofNat n = nI n := rfl
theorem bz_1 {β : Type} (x : Option β) : bz 1 x = x := if_pos (Or.inr rfl)
theorem bz_0 {β : Type} (x : Option β) : bz 0 x = x := if_pos (Or.inl rfl)
theorem nz_e {β : Type} {d : Int32} {x : Option β} (h : ¬ d = 0) : nz d x = x := if_neg h
theorem nzl_e {β : Type} {d : Int64} {x : Option β} (h : ¬ d = 0) : nzl d x = x := if_neg h
theorem i_lt {a b : Int32} : a < b ↔ a.toInt < b.toInt := Int32.lt_iff_toInt_lt
theorem i_le {a b : Int32} : a ≤ b ↔ a.toInt ≤ b.toInt := Int32.le_iff_toInt_le
theorem i_eq {a b : Int32} : a = b ↔ a.toInt = b.toInt := Int32.toInt_inj.symm
theorem i_add {a b : Int32} (h1 : -2147483648 ≤ a.toInt + b.toInt) (h2 : a.toInt + b.toInt < 2147483648) : (a + b).toInt = a.toInt + b.toInt := by
  rw [Int32.toInt_add]
  exact Int.bmod_eq_of_le (by omega) (by omega)
theorem i_sub {a b : Int32} (h1 : -2147483648 ≤ a.toInt - b.toInt) (h2 : a.toInt - b.toInt < 2147483648) : (a - b).toInt = a.toInt - b.toInt := by
  rw [Int32.toInt_sub]
  exact Int.bmod_eq_of_le (by omega) (by omega)
theorem i_rng (a : Int32) : -2147483648 ≤ a.toInt ∧ a.toInt < 2147483648 := ⟨Int32.le_toInt a, Int32.toInt_lt a⟩
theorem i_lit (n : Nat) (h : n < 2147483648) : (nI n).toInt = n := nI_toInt h
theorem i_m1 : (-1 : Int32).toInt = -1 := by decide
theorem i_0 : (0 : Int32).toInt = 0 := by decide
theorem l_lt {a b : Int64} : a < b ↔ a.toInt < b.toInt := Int64.lt_iff_toInt_lt
theorem l_le {a b : Int64} : a ≤ b ↔ a.toInt ≤ b.toInt := Int64.le_iff_toInt_le
theorem l_of (a : Int32) : a.toInt64.toInt = a.toInt := Int32.toInt_toInt64 a
/-- an int as a small number, or outside -/
theorem ix (x : Int32) (n : Nat) (hn : n < 2147483648) : (x.toInt < 0 ∨ (n : Int) ≤ x.toInt) ∨ ∃ j : Nat, j < n ∧ x = nI j := by
  rcases pk_ix x (n := n) (by omega) with h | h | h
  · exact Or.inl (Or.inl (by rw [i_lt, i_0] at h; exact h))
  · exact Or.inl (Or.inr (by rw [i_le, i_lit n hn] at h; exact h))
  · exact Or.inr h
/-- a cell's whole contents set -/
def wA (σ : St) (c : Nat) (f : Nat → Int32) : St := (fun c' => if c' = c then f else σ.1 c', σ.2)
theorem wI_A (σ : St) (c k : Nat) (v : Int32) : wI σ c k v = wA σ c (upd (σ.1 c) k v) := rfl
theorem wA_s (σ : St) (c : Nat) (f : Nat → Int32) : (wA σ c f).1 c = f := by simp [wA]
theorem wA_n (σ : St) {c c' : Nat} (f : Nat → Int32) (h : c' ≠ c) : (wA σ c f).1 c' = σ.1 c' := by simp [wA, h]
theorem wA_2 (σ : St) (c : Nat) (f : Nat → Int32) : (wA σ c f).2 = σ.2 := rfl
theorem wA_wA (σ : St) (c : Nat) (f g : Nat → Int32) : wA (wA σ c f) c g = wA σ c g := by
  unfold wA
  refine Prod.ext ?_ rfl
  funext c'
  by_cases h : c' = c <;> simp [h]
theorem wA_self (σ : St) (c : Nat) : wA σ c (σ.1 c) = σ := by
  unfold wA
  refine Prod.ext ?_ rfl
  funext c'
  by_cases h : c' = c <;> simp [h]
theorem wI_s (σ : St) (c k : Nat) (v : Int32) : (wI σ c k v).1 c = upd (σ.1 c) k v := wA_s _ _ _
theorem wI_n (σ : St) {c c' : Nat} (k : Nat) (v : Int32) (h : c' ≠ c) : (wI σ c k v).1 c' = σ.1 c' := wA_n _ _ h
theorem wI_2 (σ : St) (c k : Nat) (v : Int32) : (wI σ c k v).2 = σ.2 := rfl
theorem upd_s (f : Nat → Int32) (k : Nat) (v : Int32) : upd f k v k = v := pk_us
theorem upd_n (f : Nat → Int32) {k j : Nat} (v : Int32) (h : j ≠ k) : upd f k v j = f j := pk_un h
theorem upd_a (f : Nat → Int32) (k j : Nat) (v : Int32) : upd f k v j = if j = k then v else f j := rfl
/-- loops that count up -/
theorem up {S β : Type} (L : Nat → Int32 → S → Option β) (N : Nat) (P : Nat → S → Prop) (R : Option β → Prop)
    (hs : ∀ (n i : Nat) (s : S), i < N → P i s → (∃ s', P (i + 1) s' ∧ L (n + 1) (nI i) s = L n (nI (i + 1)) s') ∨ R (L (n + 1) (nI i) s))
    (hx : ∀ (n : Nat) (s : S), P N s → R (L (n + 1) (nI N) s)) : ∀ (m i : Nat) (s : S) (fuel : Nat), i + m = N → m < fuel → P i s → R (L fuel (nI i) s) := by
  intro m
  induction m with
  | zero =>
    intro i s fuel h1 h2 hP
    obtain ⟨q, rfl⟩ : ∃ q, fuel = q + 1 := ⟨fuel - 1, by omega⟩
    rw [Nat.add_zero] at h1
    subst h1
    exact hx q s hP
  | succ m ih =>
    intro i s fuel h1 h2 hP
    obtain ⟨q, rfl⟩ : ∃ q, fuel = q + 1 := ⟨fuel - 1, by omega⟩
    rcases hs q i s (by omega) hP with ⟨s', hP', he⟩ | h
    · rw [he]
      exact ih (i + 1) s' q (by omega) (by omega) hP'
    · exact h
theorem up0 {S β : Type} (L : Nat → Int32 → S → Option β) (N : Nat) (hN : N < 5000) (P : Nat → S → Prop) (R : Option β → Prop)
    (hs : ∀ (n i : Nat) (s : S), i < N → P i s → (∃ s', P (i + 1) s' ∧ L (n + 1) (nI i) s = L n (nI (i + 1)) s') ∨ R (L (n + 1) (nI i) s))
    (hx : ∀ (n : Nat) (s : S), P N s → R (L (n + 1) (nI N) s)) (s : S) (h0 : P 0 s) : R (L FU 0 s) :=
  up L N P R hs hx N 0 s FU (by omega) (by rw [FU_e]; exact hN) h0
/-- part of a row filled -/
def flF (f : Nat → Int32) (a n : Nat) (v : Int32) : Nat → Int32 := fun j => if a ≤ j ∧ j < a + n then v else f j
theorem flF_0 (f : Nat → Int32) (a : Nat) (v : Int32) : flF f a 0 v = f := by
  funext j
  unfold flF
  rw [if_neg (by omega)]
theorem flF_s (f : Nat → Int32) (a n : Nat) (v : Int32) : upd (flF f a n v) (a + n) v = flF f a (n + 1) v := by
  funext j
  unfold flF upd
  by_cases h1 : j = a + n
  · rw [if_pos h1, if_pos (by omega)]
  · by_cases h2 : a ≤ j ∧ j < a + n
    · rw [if_neg h1]
      show (if a ≤ j ∧ j < a + n then v else f j) = _
      rw [if_pos h2, if_pos (by omega)]
    · rw [if_neg h1]
      show (if a ≤ j ∧ j < a + n then v else f j) = _
      rw [if_neg h2, if_neg (by omega)]
/-! shelves of the class -/
def shf (σ : St) (c w N : Nat) : Prop := shC c ∧ lnC (c + 1) = N * w ∧ lnC (c + 2) = N ∧ σ.1 c 2 = nI w ∧ w ≤ 60 ∧ N ≤ 6
theorem c_sizeOf {σ : St} {c w N r : Nat} (h : shf σ c w N) (hr : r < N) : f3_sizeOf σ c (nI r) = some (σ.1 (c + 2) r) := by
  obtain ⟨h1, h2, h3, h4, h5, h6⟩ := h
  unfold f3_sizeOf
  rw [if_neg (nI_pos (by omega)), h3, oN, if_neg (nI_ge hr (by omega)), gi_nI hr (by omega), nI_clamp (by omega)]
theorem c_holds {σ : St} {c w N r : Nat} (h : shf σ c w N) (hr : r < N) : f3_holds σ c (nI r) = some (if 0 ≤ (σ.1 (c + 2) r).toInt then 1 else 0) := by
  unfold f3_holds
  rw [c_sizeOf h hr, b1_s]
  by_cases q : σ.1 (c + 2) r < 0
  · rw [if_pos q, if_neg (by rw [i_lt, i_0] at q; omega)]
  · rw [if_neg q, if_pos (by rw [i_lt, i_0] at q; omega)]
theorem c_spans {σ : St} {c w N r : Nat} (h : shf σ c w N) (hr : r < N) (h1 : -1 ≤ (σ.1 (c + 2) r).toInt) (h2 : (σ.1 (c + 2) r).toInt ≤ 60) (i n : Int32) :
    f3_spans σ c (nI r) i n = some (if 0 ≤ i.toInt ∧ 0 ≤ n.toInt ∧ i.toInt + n.toInt ≤ (σ.1 (c + 2) r).toInt then 1 else 0) := by
  unfold f3_spans
  rw [c_sizeOf h hr, b1_s, b1_s]
  generalize σ.1 (c + 2) r = s at h1 h2 ⊢
  have q1 := i_rng i
  have q2 := i_rng n
  by_cases a1 : i.toInt < 0
  · rw [if_pos (by rw [i_lt, i_0]; exact a1), if_neg (by omega)]
  rw [if_neg (by rw [i_lt, i_0]; exact a1)]
  by_cases a2 : n.toInt < 0
  · rw [if_pos (by rw [i_lt, i_0]; exact a2), if_neg (by omega)]
  rw [if_neg (by rw [i_lt, i_0]; exact a2)]
  by_cases a3 : s.toInt < i.toInt
  · rw [if_pos (by rw [i_lt]; exact a3), if_neg (by omega)]
  rw [if_neg (by rw [i_lt]; exact a3)]
  have e := i_sub (a := s) (b := i) (by omega) (by omega)
  by_cases a4 : s.toInt - i.toInt < n.toInt
  · rw [if_pos (by rw [i_lt, e]; exact a4), if_neg (by omega)]
  · rw [if_neg (by rw [i_lt, e]; exact a4), if_pos (by omega)]
theorem c_spans1 {σ : St} {c w N r i n m : Nat} (h : shf σ c w N) (hr : r < N) (hs : σ.1 (c + 2) r = nI m) (hm : m ≤ w) (hi : i + n ≤ m) : f3_spans σ c (nI r) (nI i) (nI n) = some 1 := by
  have hw : w ≤ 60 := h.2.2.2.2.1
  rw [c_spans h hr (by rw [hs, i_lit m (by omega)]; omega) (by rw [hs, i_lit m (by omega)]; omega), hs, i_lit m (by omega), i_lit i (by omega), i_lit n (by omega), if_pos (by omega)]
theorem c_idx {σ : St} {c w N r i : Nat} (h : shf σ c w N) (hr : r < N) (hi : i < w) : nI r * σ.1 c 2 + nI i = nI (w * r + i) ∧ w * r + i < N * w ∧ N * w ≤ 360 := by
  obtain ⟨h1, h2, h3, h4, h5, h6⟩ := h
  refine ⟨?_, ?_, ?_⟩
  · rw [h4, pk_mul, nI_add, Nat.mul_comm r w]
  · have : w * r + w ≤ N * w := by
      have := Nat.mul_le_mul_right w (show r + 1 ≤ N from hr)
      rw [Nat.add_mul, Nat.one_mul, Nat.mul_comm r w] at this
      exact this
    omega
  · calc N * w ≤ 6 * 60 := Nat.mul_le_mul h6 h5
      _ = 360 := rfl
theorem c_get {σ : St} {c w N r i m : Nat} (h : shf σ c w N) (hr : r < N) (hs : σ.1 (c + 2) r = nI m) (hm : m ≤ w) (hi : i < m) : f3_get σ c (nI r) (nI i) = some (σ.1 (c + 1) (w * r + i)) := by
  have hw : w ≤ 60 := h.2.2.2.2.1
  have hh := c_idx h hr (i := i) (by omega)
  unfold f3_get
  rw [show (1 : Int32) = nI 1 from rfl, c_spans1 h hr hs hm (show i + 1 ≤ m by omega), b1_s, if_neg (by decide), hh.1, h.2.1, gi_nI hh.2.1 (by omega), nI_clamp (by omega)]
theorem c_set {σ : St} {c w N r i m : Nat} {v : Int32} (h : shf σ c w N) (hr : r < N) (hs : σ.1 (c + 2) r = nI m) (hm : m ≤ w) (hi : i < m) : f3_set σ c (nI r) (nI i) v = some (wI σ (c + 1) (w * r + i) v) := by
  have hw : w ≤ 60 := h.2.2.2.2.1
  have hh := c_idx h hr (i := i) (by omega)
  unfold f3_set
  rw [show (1 : Int32) = nI 1 from rfl, c_spans1 h hr hs hm (show i + 1 ≤ m by omega), b1_s, if_neg (by decide), bnd_e, hh.1, h.2.1, gi_nI hh.2.1 (by omega), nI_clamp (by omega)]
theorem c_make {σ : St} {c w N r n : Nat} {v : Int32} (h : shf σ c w N) (hr : r < N) (hn : n ≤ w) :
    f3_make σ c (nI r) (nI n) v = some (wA (wI σ (c + 2) r (nI n)) (c + 1) (flF (σ.1 (c + 1)) (w * r) n v)) := by
  have h0 := h
  obtain ⟨h1, h2, h3, h4, h5, h6⟩ := h
  unfold f3_make
  rw [if_neg (nI_pos (by omega)), h3, oN, if_neg (nI_ge hr (by omega)), if_neg (nI_pos (by omega)), h4, if_pos (nI_le hn (by omega)), gi_nI hr (by omega), bnd_e, nI_clamp (by omega)]
  have hc : c + 1 ≠ c + 2 := by omega
  have hc2 : c ≠ c + 1 := by omega
  have hc3 : c ≠ c + 2 := by omega
  refine up0 (fun q i s => L3_make_36 c (nI r) (nI n) v (fun σ => some σ) q i s) n (by omega) (fun i s => s = wA (wI σ (c + 2) r (nI n)) (c + 1) (flF (σ.1 (c + 1)) (w * r) i v)) (fun o => o = some (wA (wI σ (c + 2) r (nI n)) (c + 1) (flF (σ.1 (c + 1)) (w * r) n v))) ?_ ?_ _ ?_
  · intro q i s hi hs
    left
    refine ⟨_, rfl, ?_⟩
    subst hs
    have hh := c_idx h0 hr (i := i) (by omega)
    rw [h4] at hh
    conv => lhs; unfold L3_make_36
    rw [if_neg (nI_ge hi (by omega)), wA_n _ _ hc2, wI_n _ _ _ hc3, h4, hh.1, h2, gi_nI hh.2.1 (by omega), bnd_e, bnd_e, nI_clamp (by omega), nI_1, wI_A, wA_s, wA_wA, flF_s]
  · intro q s hs
    subst hs
    unfold L3_make_36
    rw [if_pos (nI_le (Nat.le_refl _) (by omega))]
  · rw [flF_0]
    conv => lhs; rw [← wA_self (wI σ (c + 2) r (nI n)) (c + 1)]
    rw [wI_n _ _ _ hc]
theorem c_remove {σ : St} {c w N r : Nat} (h : shf σ c w N) (hr : r < N) : f3_remove σ c (nI r) = some (wI σ (c + 2) r (-1)) := by
  obtain ⟨h1, h2, h3, h4, h5, h6⟩ := h
  unfold f3_remove
  simp only [jn_e, bnd_e]
  rw [if_neg (nI_pos (by omega)), h3, oN, if_neg (nI_ge hr (by omega)), gi_nI hr (by omega), nI_clamp (by omega)]
