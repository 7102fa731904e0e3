/-! what a card reads -/
theorem n_div4 (p : Nat) (h : p < 2147483648) : nI p / 4 = nI (p / 4) := by
  rw [show (4 : Int32) = nI 4 from rfl, pk_div (by omega) (by omega) (by omega)]
theorem n_rem3 (c : Nat) (h : c < 2147483647) : (nI c + 1) - (nI c + 1) / 3 * 3 = nI ((c + 1) % 3) := by
  rw [nI_1, show (3 : Int32) = nI 3 from rfl, pk_rem (by omega) (by omega) (by omega)]
theorem n_worn (a b : Nat) (ha : a < 1073741824) (hb : b < 1073741824) : (0 < nI a - nI b → nI a - nI b = nI (a - b)) ∧ (¬ 0 < nI a - nI b → a - b = 0) := by
  have e := pk_sub_toInt (a := a) (b := b) (by omega) (by omega)
  constructor
  · intro h
    rw [i_lt, i_0, e] at h
    exact pk_sub (by omega)
  · intro h
    rw [i_lt, i_0, e] at h
    omega
theorem c_wornBy {a p : Nat} (ha : a ≤ 9) (hp : p ≤ 60) : f5_wornBy (nI a) (nI p) = some (nI (a - p / 4)) := by
  unfold f5_wornBy
  obtain ⟨h1, h2⟩ := n_worn a (p / 4) (by omega) (by omega)
  rw [n_div4 p (by omega)]
  by_cases c : 0 < nI a - nI (p / 4)
  · rw [if_pos c, h1 c]
  · rw [if_neg c, h2 c]
    rfl
theorem m_worn {a p : Nat} (ha : a ≤ 9) (hp : p ≤ 60) : f6_more 0 (nI a - nI p / 4) = some (nI (a - p / 4)) := by
  unfold f6_more
  obtain ⟨h1, h2⟩ := n_worn a (p / 4) (by omega) (by omega)
  have e := pk_sub_toInt (a := a) (b := p / 4) (by omega) (by omega)
  rw [n_div4 p (by omega)]
  by_cases c : 0 ≤ nI a - nI (p / 4)
  · rw [if_pos c]
    rw [i_le, i_0, e] at c
    rw [pk_sub (by omega)]
  · rw [if_neg c]
    rw [i_le, i_0, e] at c
    rw [show a - p / 4 = 0 by omega]
    rfl
theorem n_max {a b : Nat} (ha : a < 2147483648) (hb : b < 2147483648) : (if nI a ≤ nI b then some (nI b) else some (nI a)) = some (nI (max a b)) := by
  by_cases c : a ≤ b
  · rw [if_pos (nI_le c (by omega)), Nat.max_eq_right c]
  · rw [if_neg (nI_ge (by omega) (by omega)), Nat.max_eq_left (by omega)]
theorem m_more {a b : Nat} (ha : a < 2147483648) (hb : b < 2147483648) : f6_more (nI a) (nI b) = some (nI (max a b)) := n_max ha hb
theorem rdg_le {kd c p : Nat} {g : Nat → Nat} (hg : ∀ c, c < 3 → g c ≤ 9) (hc : c < 3) : rdg kd g c p ≤ 10 := by
  have h1 := hg c hc
  have h2 := hg (2 - c) (by omega)
  have h3 := hg ((c + 1) % 3) (by omega)
  unfold rdg
  repeat (first | omega | split)
theorem c_doubled {σ : St} {a o c : Nat} {g : Nat → Nat} (ha : o + 3 ≤ lnC a) (hl : lnC a < 2147483648) (hv : ∀ c, c < 3 → σ.1 a (o + c) = nI (g c)) (hg : ∀ c, c < 3 → g c ≤ 9) (hc : c < 3) : f5_doubled σ a (nI o) (nI c) = some (nI (max (g c) (g ((c + 1) % 3)))) := by
  have h1 := hg c hc
  have h3 := hg ((c + 1) % 3) (by omega)
  unfold f5_doubled
  rw [n_rem3 c (by omega), nI_add, nI_add, gi_nI (by omega) (by omega), bnd_e, gi_nI (by omega) (by omega), bnd_e, nI_clamp (by omega), nI_clamp (by omega), hv c hc, hv ((c + 1) % 3) (by omega)]
  exact n_max (by omega) (by omega)
theorem c_reading {σ : St} {a o c kd p : Nat} {g : Nat → Nat} (ha : o + 3 ≤ lnC a) (hl : lnC a < 2147483648) (hv : ∀ c, c < 3 → σ.1 a (o + c) = nI (g c)) (hg : ∀ c, c < 3 → g c ≤ 9) (hc : c < 3) (hk : kd < 6) (hp : p ≤ 60) : f5_reading σ (nI kd) a (nI o) (nI c) (nI p) = some (nI (rdg kd g c p)) := by
  have h1 := hg c hc
  have h2 := hg (2 - c) (by omega)
  have h3 := hg ((c + 1) % 3) (by omega)
  unfold f5_reading
  rw [c_doubled ha hl hv hg hc, nI_add, gi_nI (by omega) (by omega), bnd_e, nI_clamp (by omega), hv c hc, c_wornBy h1 hp]
  rcases (show kd = 0 ∨ kd = 1 ∨ kd = 2 ∨ kd = 3 ∨ kd = 4 ∨ kd = 5 by omega) with rfl | rfl | rfl | rfl | rfl | rfl
  · rw [if_neg (by decide), if_neg (by decide), if_neg (by decide), if_neg (by decide), if_neg (by decide)]
    rfl
  · rw [if_pos (by rfl), show (3 : Int32) = nI 3 from rfl, nI_add, show (1 : Int32) = nI 1 from rfl, pk_sub (by omega), pk_sub (by omega), gi_nI (by omega) (by omega), nI_clamp (by omega), show o + 3 - 1 - c = o + (2 - c) by omega, hv (2 - c) (by omega)]
    rfl
  · rw [if_neg (by decide), if_pos (by rfl), b1_s]
    rfl
  · rw [if_neg (by decide), if_neg (by decide), if_pos (by rfl), b1_s]
    rfl
  · rw [if_neg (by decide), if_neg (by decide), if_neg (by decide), if_pos (by rfl), b1_s]
    show _ = some (nI (if g c = 0 then 10 else g c - p / 4))
    by_cases e : g c = 0
    · rw [e, if_pos (by rfl), if_pos rfl]
      rfl
    · rw [if_neg (nI_ne0 (by omega) (by omega)), if_neg e]
  · rw [if_neg (by decide), if_neg (by decide), if_neg (by decide), if_neg (by decide), if_pos (by rfl), b1_s]
    show _ = some (nI (if max (g c) (g ((c + 1) % 3)) = 9 then 0 else max (g c) (g ((c + 1) % 3))))
    have hmx : max (g c) (g ((c + 1) % 3)) ≤ 9 := by omega
    by_cases e : max (g c) (g ((c + 1) % 3)) = 9
    · rw [e, if_pos (by rfl), if_pos rfl]
      rfl
    · rw [if_neg (by rw [show (9 : Int32) = nI 9 from rfl, nI_eq (by omega) (by omega)]; exact e), if_neg e]
theorem m_readsBy {τ : St} {a o c kd p : Nat} {g : Nat → Nat} (ha : o + 3 ≤ lnM a) (hl : lnM a < 2147483648) (hv : ∀ c, c < 3 → τ.1 a (o + c) = nI (g c)) (hg : ∀ c, c < 3 → g c ≤ 9) (hc : c < 3) (hk : kd < 6) (hp : p ≤ 60) : f6_readsBy τ a (nI o) (nI kd) (nI c) (nI p) = some (nI (rdg kd g c p)) := by
  have h1 := hg c hc
  have h2 := hg (2 - c) (by omega)
  have h3 := hg ((c + 1) % 3) (by omega)
  have hmx : max (g c) (g ((c + 1) % 3)) ≤ 9 := by omega
  unfold f6_readsBy
  rw [n_rem3 c (by omega), nI_add, nI_add, gi_nI (by omega) (by omega), bnd_e, gi_nI (by omega) (by omega), nI_clamp (by omega), nI_clamp (by omega), hv c hc, hv ((c + 1) % 3) (by omega), m_more (by omega) (by omega), b1_s, m_worn h1 hp]
  rcases (show kd = 0 ∨ kd = 1 ∨ kd = 2 ∨ kd = 3 ∨ kd = 4 ∨ kd = 5 by omega) with rfl | rfl | rfl | rfl | rfl | rfl
  · rw [if_neg (by decide), if_neg (by decide), if_neg (by decide), if_neg (by decide), if_neg (by decide)]
    rfl
  · rw [if_pos (by rfl), show (2 : Int32) = nI 2 from rfl, nI_add, pk_sub (by omega), gi_nI (by omega) (by omega), nI_clamp (by omega), show o + 2 - c = o + (2 - c) by omega, hv (2 - c) (by omega)]
    rfl
  · rw [if_neg (by decide), if_pos (by rfl), b1_s]
    rfl
  · rw [if_neg (by decide), if_neg (by decide), if_pos (by rfl)]
    rfl
  · rw [if_neg (by decide), if_neg (by decide), if_neg (by decide), if_pos (by rfl), b1_s]
    show _ = some (nI (if g c = 0 then 10 else g c - p / 4))
    by_cases e : g c = 0
    · rw [e, if_pos (by rfl), if_pos rfl]
      rfl
    · rw [if_neg (nI_ne0 (by omega) (by omega)), if_neg e]
  · rw [if_neg (by decide), if_neg (by decide), if_neg (by decide), if_neg (by decide), if_pos (by rfl)]
    show _ = some (nI (if max (g c) (g ((c + 1) % 3)) = 9 then 0 else max (g c) (g ((c + 1) % 3))))
    by_cases e : max (g c) (g ((c + 1) % 3)) = 9
    · rw [e, if_pos (by rfl), if_pos rfl]
      rfl
    · rw [if_neg (by rw [show (9 : Int32) = nI 9 from rfl, nI_eq (by omega) (by omega)]; exact e), if_neg e]
