theorem getD_r (P Q : List Nat) (j : Nat) : (P ++ Q).getD (P.length + j) 0 = Q.getD j 0 := by
  rw [List.getD_eq_getElem?_getD, List.getD_eq_getElem?_getD, List.getElem?_append_right (by omega)]
  congr 2
  omega
theorem getD_l {P : List Nat} (Q : List Nat) {i : Nat} (h : i < P.length) : (P ++ Q).getD i 0 = P.getD i 0 := by
  rw [List.getD_eq_getElem?_getD, List.getD_eq_getElem?_getD, List.getElem?_append_left h]
theorem getD_m {l : List Nat} {i : Nat} (h : i < l.length) : l.getD i 0 ∈ l := by
  rw [List.getD_eq_getElem?_getD, List.getElem?_eq_getElem h]
  exact List.getElem_mem h
theorem take_s {l : List Nat} {k : Nat} (h : k < l.length) : l.take (k + 1) = l.take k ++ [l.getD k 0] := by
  rw [List.take_succ, List.getD_eq_getElem?_getD, List.getElem?_eq_getElem h]
  rfl
theorem n_sh : ∀ i, i < 32 → ((nI i &&& 31).toBitVec.smod 32).toNat = i := by decide
theorem n_bit {m i : Nat} (hm : m < 2147483648) (hi : i < 32) : (nI m >>> (nI i &&& 31)) &&& 1 = nI (m / 2 ^ i % 2) := by
  rw [pk_shrN (by omega) _ i (n_sh i hi)]
  have : m / 2 ^ i ≤ m := Nat.div_le_self _ _
  exact pk_andN (by omega) 1 (by decide)
theorem key_lt {kd fig : Nat → Nat} {p col mis i n : Nat} (hf : ∀ k, k < 3 * n → fig k ≤ 9) (hc : col < 3) (hi : i < n) : key kd fig p col mis i < 22 := by
  have : pkt kd fig p col i ≤ 10 := rdg_le (fun c hc => hf _ (by omega)) hc
  unfold key
  repeat (first | omega | split)
def cD (σ : St) (n : Nat) (kd fig : Nat → Nat) : Prop := σ.1 13 7 = nI n ∧ n ≤ 6 ∧ (∀ i, i < n → σ.1 14 i = nI (kd i) ∧ kd i < 6) ∧ ∀ k, k < 3 * n → σ.1 16 k = nI (fig k) ∧ fig k ≤ 9
def okA (a : Nat) : Prop := a = 17 ∨ (24 ≤ a ∧ a ≤ 30)
theorem okA.ln {a : Nat} (h : okA a) : lnC a = 6 := by
  rcases h with rfl | h
  · rfl
  · obtain ⟨j, rfl⟩ : ∃ j, a = 24 + j := ⟨a - 24, by omega⟩
    exact lnC_lies (by omega)
/-- the shifting: all of Q goes one place up -/
theorem c_ins {ky : Nat → Nat} {a1 a2 own : Nat} {x3 x4 x5 x6 x7 : Int32} {k : Int32 → St → Option St} {σ0 : St} {P Q : List Nat} (ha : okA a2) (hQ : ∀ y ∈ Q, own < ky y) (hP : ∀ y ∈ P, ky y ≤ own) (hky : ∀ y ∈ P ++ Q, ky y < 22) (hown : own < 22) (hL : P.length + Q.length < 6) :
    ∀ (j : Nat) (σ : St) (fuel : Nat), j ≤ Q.length → j < fuel → (∀ c, c ≠ a2 → c ≠ 19 → σ.1 c = σ0.1 c) → σ.2 = σ0.2 → (∀ i, P.length + Q.length < i → σ.1 a2 i = σ0.1 a2 i) →
    (∀ i, i < P.length + j → σ.1 a2 i = nI ((P ++ Q).getD i 0) ∧ σ.1 19 i = nI (ky ((P ++ Q).getD i 0))) →
    (∀ i, P.length + j ≤ i → i < P.length + Q.length → σ.1 a2 (i + 1) = nI ((P ++ Q).getD i 0) ∧ σ.1 19 (i + 1) = nI (ky ((P ++ Q).getD i 0))) →
    ∃ σ', L1_sift_95 a1 a2 x3 x4 x5 x6 x7 (nI own) k fuel (nI (P.length + j)) σ = k (nI P.length) σ' ∧ (∀ c, c ≠ a2 → c ≠ 19 → σ'.1 c = σ0.1 c) ∧ σ'.2 = σ0.2 ∧ (∀ i, P.length + Q.length < i → σ'.1 a2 i = σ0.1 a2 i) ∧
      (∀ i, i < P.length → σ'.1 a2 i = nI ((P ++ Q).getD i 0) ∧ σ'.1 19 i = nI (ky ((P ++ Q).getD i 0))) ∧ (∀ i, P.length ≤ i → i < P.length + Q.length → σ'.1 a2 (i + 1) = nI ((P ++ Q).getD i 0) ∧ σ'.1 19 (i + 1) = nI (ky ((P ++ Q).getD i 0))) := by
  have hln := ha.ln
  have hne : a2 ≠ 19 := by rcases ha with h | h <;> omega
  intro j
  induction j with
  | zero =>
    intro σ fuel hj hf f1 f2 f3 lo hi
    obtain ⟨q, rfl⟩ : ∃ q, fuel = q + 1 := ⟨fuel - 1, by omega⟩
    refine ⟨σ, ?_, f1, f2, f3, lo, hi⟩
    unfold L1_sift_95
    rw [Nat.add_zero]
    by_cases c : P.length = 0
    · rw [c, if_pos (by decide)]
    · rw [if_neg (nI_nle (by omega) (by omega)), show (1 : Int32) = nI 1 from rfl, pk_sub (by omega), gi_nI (by omega) (by omega), nI_clamp (by omega), (lo (P.length - 1) (by omega)).2, getD_l Q (by omega)]
      have hm := hP _ (getD_m (l := P) (i := P.length - 1) (by omega))
      rw [if_pos (nI_le hm (by omega))]
  | succ j ih =>
    intro σ fuel hj hf f1 f2 f3 lo hi
    obtain ⟨q, rfl⟩ : ∃ q, fuel = q + 1 := ⟨fuel - 1, by omega⟩
    have hmem : (P ++ Q).getD (P.length + j) 0 ∈ Q := by
      rw [getD_r]
      exact getD_m (by omega)
    have hv := hQ _ hmem
    have hv2 := hky _ (List.mem_append_right P hmem)
    obtain ⟨l1, l2⟩ := lo (P.length + j) (by omega)
    have e : L1_sift_95 a1 a2 x3 x4 x5 x6 x7 (nI own) k (q + 1) (nI (P.length + (j + 1))) σ = L1_sift_95 a1 a2 x3 x4 x5 x6 x7 (nI own) k q (nI (P.length + j)) (wI (wI σ 19 (P.length + j + 1) (nI (ky ((P ++ Q).getD (P.length + j) 0)))) a2 (P.length + j + 1) (nI ((P ++ Q).getD (P.length + j) 0))) := by
      conv => lhs; unfold L1_sift_95
      rw [← Nat.add_assoc, if_neg (nI_nle (by omega) (by omega)), show nI (P.length + j + 1) - 1 = nI (P.length + j) from nI_pred _, gi_nI (by omega) (by omega), nI_clamp (by omega), l2, if_neg (nI_ge hv (by omega)), gi_nI (by omega) (by omega), gi_nI (by omega) (by omega), bnd_e, hln, gi_nI (by omega) (by omega), gi_nI (by omega) (by omega), bnd_e, bnd_e, pk_m1, nI_clamp (by omega), wI_n _ _ _ hne, l1]
    rw [e]
    refine ih _ q (by omega) (by omega) (fun c h1 h2 => ?_) f2 (fun i hi' => ?_) (fun i hi' => ?_) (fun i h1 h2 => ?_)
    · rw [wI_n _ _ _ h1, wI_n _ _ _ h2]
      exact f1 c h1 h2
    · rw [wI_s, upd_n _ _ (by omega), wI_n _ _ _ hne]
      exact f3 i hi'
    · rw [wI_s, upd_n _ _ (by omega), wI_n _ _ _ hne, wI_n _ _ _ (fun e => hne e.symm), wI_s, upd_n _ _ (by omega)]
      exact lo i (by omega)
    · rw [wI_s, wI_n _ _ _ (fun e => hne e.symm), wI_s]
      by_cases ei : i = P.length + j
      · rw [ei, upd_s, upd_s]
        exact ⟨rfl, rfl⟩
      · rw [upd_n _ _ (by omega), upd_n _ _ (by omega), wI_n _ _ _ hne]
        exact hi i (by omega) h2
theorem c_sift {σ : St} {n : Nat} {kd fig : Nat → Nat} {a1 a2 : Nat} {l : List Nat} {col p mis : Nat} (hD : cD σ n kd fig) (h1 : okA a1) (h2 : okA a2) (hl : l.length = n) (hm : ∀ i ∈ l, i < n) (hv : ∀ i, i < n → σ.1 a1 i = nI (l.getD i 0)) (hcol : col < 3) (hp : p ≤ 60) (hmis : mis < 64) :
    ∃ σ', f1_sift σ a1 a2 (nI col) (nI p) (nI mis) = some σ' ∧ (∀ c, c ≠ a2 → c ≠ 19 → σ'.1 c = σ.1 c) ∧ σ'.2 = σ.2 ∧ ∀ i, i < n → σ'.1 a2 i = nI ((srt (key kd fig p col mis) l).getD i 0) := by
  obtain ⟨d1, d2, d3, d4⟩ := hD
  generalize hky : key kd fig p col mis = ky
  have hk22 : ∀ i, i < n → ky i < 22 := fun i hi => by rw [← hky]; exact key_lt (fun k hk => (d4 k hk).2) hcol hi
  have hln := h2.ln
  have hln1 := h1.ln
  have hne : a2 ≠ 19 := by rcases h2 with h | h <;> omega
  have hne1 : a1 ≠ 19 := by rcases h1 with h | h <;> omega
  have hx : ∀ c, c = 13 ∨ c = 14 ∨ c = 16 → c ≠ a2 ∧ c ≠ 19 := fun c hc => by rcases h2 with h | h <;> omega
  have hsl : ∀ k, k ≤ n → (srt ky (l.take k)).length = k := fun k hk => by
    rw [(srt_perm (fun i hi => hk22 i (hm i (List.mem_of_mem_take hi)))).length_eq, List.length_take]
    omega
  unfold f1_sift
  refine up0 (fun q i s => L1_sift_3 a1 a2 (nI col) (nI p) (nI mis) (fun σ => some σ) q i s) n (by omega)
    (fun k s => (∀ c, c ≠ a2 → c ≠ 19 → s.1 c = σ.1 c) ∧ s.2 = σ.2 ∧ (∀ i, k ≤ i → s.1 a2 i = σ.1 a2 i) ∧ ∀ i, i < k → s.1 a2 i = nI ((srt ky (l.take k)).getD i 0) ∧ s.1 19 i = nI (ky ((srt ky (l.take k)).getD i 0)))
    (fun o => ∃ σ', o = some σ' ∧ (∀ c, c ≠ a2 → c ≠ 19 → σ'.1 c = σ.1 c) ∧ σ'.2 = σ.2 ∧ ∀ i, i < n → σ'.1 a2 i = nI ((srt ky l).getD i 0)) ?_ ?_ _ ?_
  · intro q k s hk hs
    left
    obtain ⟨f1, f2, f3, f4⟩ := hs
    have ec : s.1 a1 k = nI (l.getD k 0) := by
      by_cases e : a1 = a2
      · rw [e, f3 k (Nat.le_refl _), ← e]
        exact hv k hk
      · rw [f1 a1 e hne1]
        exact hv k hk
    have hxm : l.getD k 0 ∈ l := getD_m (by omega)
    have hxn := hm _ hxm
    generalize hxe : l.getD k 0 = x at *
    have hkx := hk22 x hxn
    obtain ⟨P, Q, e1, e2, hP, hQ⟩ := srt_snoc (ky := ky) (l.take k) (x := x) hkx
    have hlen : P.length + Q.length = k := by
      have := hsl k (by omega)
      rw [e1, List.length_append] at this
      exact this
    have hkk : ∀ y ∈ P ++ Q, ky y < 22 := fun y hy => by
      rw [← e1] at hy
      exact (bkt_mem.mp hy).2
    rw [e1] at f4
    obtain ⟨σ', g0, g1, g2, g3, g4, g5⟩ := c_ins (a1 := a1) (x3 := nI col) (x4 := nI p) (x5 := nI mis) (x6 := nI k) (x7 := nI x) (k := fun x11 σ25 => gi x11 6 (bnd (wI σ25 19 x11.toNatClampNeg (nI (ky x))) fun σ26 => gi x11 (lnC a2) (bnd (wI σ26 a2 x11.toNatClampNeg (nI x)) fun σ27 => bnd (nI k + 1) fun x6 => L1_sift_3 a1 a2 (nI col) (nI p) (nI mis) (fun σ => some σ) q x6 σ27))) h2 hQ hP hkk hkx (by omega) Q.length s FU (Nat.le_refl _) (by rw [FU_e]; omega) f1 f2 (fun i hi => f3 i (by omega)) (fun i hi => f4 i (by omega)) (fun i h1 h2 => absurd h2 (by omega))
    refine ⟨wI (wI σ' 19 P.length (nI (ky x))) a2 P.length (nI x), ⟨fun c h1 h2 => ?_, g2, fun i hi => ?_, fun i hi => ?_⟩, ?_⟩
    · rw [wI_n _ _ _ h1, wI_n _ _ _ h2]
      exact g1 c h1 h2
    · rw [wI_s, upd_n _ _ (by omega), wI_n _ _ _ hne]
      exact g3 i (by omega)
    · rw [wI_s, wI_n _ _ _ (fun e => hne e.symm), wI_s, take_s (by omega), hxe, e2]
      by_cases c1 : i < P.length
      · rw [upd_n _ _ (by omega), upd_n _ _ (by omega), wI_n _ _ _ hne, (g4 i c1).1, (g4 i c1).2, getD_l _ c1, getD_l _ c1]
        exact ⟨rfl, rfl⟩
      · by_cases c2 : i = P.length
        · subst c2
          have := getD_r P (x :: Q) 0
          rw [Nat.add_zero] at this
          rw [upd_s, upd_s, this]
          exact ⟨rfl, rfl⟩
        · obtain ⟨j, rfl⟩ : ∃ j, i = P.length + j + 1 := ⟨i - P.length - 1, by omega⟩
          have r1 := getD_r P (x :: Q) (j + 1)
          have r2 := getD_r P Q j
          have gg := g5 (P.length + j) (by omega) (by omega)
          rw [r2] at gg
          rw [upd_n _ _ (by omega), upd_n _ _ (by omega), wI_n _ _ _ hne, gg.1, gg.2, Nat.add_assoc, r1]
          exact ⟨rfl, rfl⟩
    · have e14 : s.1 14 x = nI (kd x) := by rw [f1 14 (hx 14 (by omega)).1 (hx 14 (by omega)).2]; exact (d3 x hxn).1
      have hrd := c_reading (σ := s) (a := 16) (o := 3 * x) (c := col) (kd := kd x) (p := p) (g := fun c => fig (3 * x + c)) (by show 3 * x + 3 ≤ 18; omega) (by decide) (fun c hc => by rw [f1 16 (hx 16 (by omega)).1 (hx 16 (by omega)).2]; exact (d4 _ (by omega)).1) (fun c hc => (d4 _ (by omega)).2) hcol (d3 x hxn).2 hp
      conv => lhs; unfold L1_sift_3
      simp only [jn_e]
      rw [f1 13 (hx 13 (by omega)).1 (hx 13 (by omega)).2, d1, if_neg (nI_ge hk (by omega)), hln1, gi_nI (by omega) (by omega), bnd_e, nI_clamp (by omega), ec, gi_nI (by omega) (by omega), nI_clamp (by omega), e14, show (3 : Int32) = nI 3 from rfl, pk_mul, Nat.mul_comm x 3, hrd, b1_s, n_bit (by omega) (by omega)]
      have hout : ∀ y : Nat, ky x = 2 * y + (if kd x = 5 then 0 else 1) → (if nI (kd x) = 5 then bnd (2 * nI y + 0) fun x10_16 => L1_sift_95 a1 a2 (nI col) (nI p) (nI mis) (nI k) (nI x) x10_16 (fun x11_24 σ_25 => gi x11_24 6 (bnd (wI σ_25 19 x11_24.toNatClampNeg x10_16) fun σ_26 => gi x11_24 (lnC a2) (bnd (wI σ_26 a2 x11_24.toNatClampNeg (nI x)) fun σ_27 => bnd (nI k + 1) fun x6_28 => L1_sift_3 a1 a2 (nI col) (nI p) (nI mis) (fun σ => some σ) q x6_28 σ_27))) FU (nI k) s
          else bnd (2 * nI y + 1) fun x10_16 => L1_sift_95 a1 a2 (nI col) (nI p) (nI mis) (nI k) (nI x) x10_16 (fun x11_24 σ_25 => gi x11_24 6 (bnd (wI σ_25 19 x11_24.toNatClampNeg x10_16) fun σ_26 => gi x11_24 (lnC a2) (bnd (wI σ_26 a2 x11_24.toNatClampNeg (nI x)) fun σ_27 => bnd (nI k + 1) fun x6_28 => L1_sift_3 a1 a2 (nI col) (nI p) (nI mis) (fun σ => some σ) q x6_28 σ_27))) FU (nI k) s) = L1_sift_3 a1 a2 (nI col) (nI p) (nI mis) (fun σ => some σ) q (nI (k + 1)) (wI (wI σ' 19 P.length (nI (ky x))) a2 P.length (nI x)) := by
        intro y hy
        have eo : (if nI (kd x) = 5 then nI (2 * y + 0) else nI (2 * y + 1)) = nI (ky x) := by
          rw [hy]
          by_cases c5 : kd x = 5
          · rw [c5, if_pos (by rfl), if_pos rfl]
          · rw [if_neg (by rw [show (5 : Int32) = nI 5 from rfl, nI_eq (by have := (d3 x hxn).2; omega) (by omega)]; exact c5), if_neg c5]
        rw [hlen] at g0
        by_cases c5 : nI (kd x) = 5
        · rw [if_pos c5] at eo
          rw [if_pos c5, bnd_e, show (2 : Int32) = nI 2 from rfl, pk_mul, show (0 : Int32) = nI 0 from rfl, nI_add, eo, g0, gi_nI (by omega) (by omega), bnd_e, hln, gi_nI (by omega) (by omega), bnd_e, bnd_e, nI_1, nI_clamp (by omega)]
        · rw [if_neg c5] at eo
          rw [if_neg c5, bnd_e, show (2 : Int32) = nI 2 from rfl, pk_mul, show (1 : Int32) = nI 1 from rfl, nI_add, eo, ← show (1 : Int32) = nI 1 from rfl, g0, gi_nI (by omega) (by omega), bnd_e, hln, gi_nI (by omega) (by omega), bnd_e, bnd_e, nI_1, nI_clamp (by omega)]
      by_cases cb : mis / 2 ^ x % 2 = 1
      · rw [cb, if_neg (by decide), i10, gi_nI (by omega) (by omega)]
        exact hout 10 (by rw [← hky]; unfold key; rw [if_pos cb])
      · rw [show mis / 2 ^ x % 2 = 0 by omega, if_pos (by rfl), if_pos trivial, gi_nI (by omega) (by omega)]
        exact hout _ (by rw [← hky]; unfold key; rw [if_neg cb]; rfl)
  · intro q s hs
    obtain ⟨f1, f2, f3, f4⟩ := hs
    refine ⟨s, ?_, f1, f2, fun i hi => ?_⟩
    · unfold L1_sift_3
      rw [f1 13 (hx 13 (by omega)).1 (hx 13 (by omega)).2, d1, if_pos (nI_le (Nat.le_refl _) (by omega))]
    · have := (f4 i hi).1
      rw [List.take_of_length_le (by omega)] at this
      exact this
  · exact ⟨fun _ _ _ => rfl, rfl, fun _ _ => rfl, fun i hi => absurd hi (by omega)⟩
