/-! the class's deeds -/
theorem getD_rev {l : List Nat} {i : Nat} (h : i < l.length) : l.reverse.getD i 0 = l.getD (l.length - 1 - i) 0 := by
  rw [List.getD_eq_getElem?_getD, List.getD_eq_getElem?_getD, List.getElem?_reverse h]
theorem getD_rot {l : List Nat} {a k : Nat} (ha : a ≤ l.length) (hk : k < l.length) : (l.drop a ++ l.take a).getD k 0 = l.getD ((k + a) % l.length) 0 := by
  rw [List.getD_eq_getElem?_getD, List.getD_eq_getElem?_getD]
  congr 1
  by_cases c : k + a < l.length
  · rw [List.getElem?_append_left (by rw [List.length_drop]; omega), List.getElem?_drop, Nat.mod_eq_of_lt c]
    congr 1
    omega
  · rw [List.getElem?_append_right (by rw [List.length_drop]; omega), List.length_drop, List.getElem?_take_of_lt (by omega), Nat.mod_eq_sub_mod (by omega), Nat.mod_eq_of_lt (by omega)]
    congr 1
    omega
theorem rot_perm (l : List Nat) (a : Nat) : (l.drop a ++ l.take a).Perm l := by
  have := (List.perm_append_comm (l₁ := l.drop a) (l₂ := l.take a))
  rw [List.take_append_drop] at this
  exact this
theorem okD_deed1 {n d : Nat} {kd : Nat → Nat} {D : Dk} (h : okD n D) (hd : okd n d) : okD n (deed1 kd D d) := by
  obtain ⟨d1, d2, d3, d4⟩ := hd
  unfold deed1
  by_cases c0 : d / 1000 = 0
  · rw [if_pos c0]
    exact okD_pas h (d2 c0)
  rw [if_neg c0]
  obtain ⟨o1, o2, o3, o4, o5⟩ := h
  by_cases c1 : d / 1000 = 1
  · rw [if_pos c1]
    exact ⟨by rw [List.length_reverse]; exact o1, (List.reverse_perm D.1).symm.nodup o2, fun i hi => o3 i (List.mem_reverse.mp hi), o4, o5⟩
  rw [if_neg c1]
  by_cases c2 : d / 1000 = 2
  · rw [if_pos c2]
    have hp := rot_perm D.1 (d / 100 % 10)
    exact ⟨hp.length_eq.trans o1, hp.symm.nodup o2, fun i hi => o3 i (hp.mem_iff.mp hi), o4, o5⟩
  rw [if_neg c2]
  refine ⟨o1, o2, o3, fun k hk => ?_, o5⟩
  show updN D.2.1 _ _ k ≤ 9
  unfold updN
  by_cases e : k = 3 * (d / 100 % 10) + d / 10 % 10
  · rw [if_pos e]
    omega
  · rw [if_neg e]
    exact o4 k hk
theorem okD_0 {n : Nat} {bs : Nat → Nat} (hb : ∀ k, k < 3 * n → bs k ≤ 9) : okD n (List.range n, bs, 0) := ⟨List.length_range, List.nodup_range, fun i hi => List.mem_range.mp hi, hb, by show 0 ≤ 60; omega⟩
theorem rpl_s (n : Nat) (kd bs : Nat → Nat) (ds : List Nat) (d : Nat) : rpl n kd bs (ds ++ [d]) = deed1 kd (rpl n kd bs ds) d := by
  unfold rpl
  rw [List.foldl_append]
  rfl
theorem okD_fold {n : Nat} {kd : Nat → Nat} : ∀ (ds : List Nat) (D : Dk), okD n D → (∀ d ∈ ds, okd n d) → okD n (ds.foldl (deed1 kd) D)
  | [], _, h, _ => h
  | d :: ds, D, h, hd => okD_fold ds (deed1 kd D d) (okD_deed1 h (hd d List.mem_cons_self)) (fun e he => hd e (List.mem_cons_of_mem _ he))
theorem okD_rpl {n : Nat} {kd bs : Nat → Nat} {ds : List Nat} (hb : ∀ k, k < 3 * n → bs k ≤ 9) (hd : ∀ d ∈ ds, okd n d) : okD n (rpl n kd bs ds) := okD_fold ds _ (okD_0 hb) hd
/-- what deeds leave of the class's store -/
def fr1 (σ σ' : St) : Prop := (∀ c, c ≠ 13 → c ≠ 16 → c ≠ 17 → c ≠ 18 → c ≠ 19 → σ'.1 c = σ.1 c) ∧ (∀ k, k ≠ 8 → σ'.1 13 k = σ.1 13 k) ∧ σ'.2 = σ.2
theorem fr1.rf (σ : St) : fr1 σ σ := ⟨fun _ _ _ _ _ _ => rfl, fun _ _ => rfl, rfl⟩
theorem fr1.tr {σ σ' σ'' : St} (h : fr1 σ σ') (g : fr1 σ' σ'') : fr1 σ σ'' := ⟨fun c a1 a2 a3 a4 a5 => (g.1 c a1 a2 a3 a4 a5).trans (h.1 c a1 a2 a3 a4 a5), fun k hk => (g.2.1 k hk).trans (h.2.1 k hk), g.2.2.trans h.2.2⟩
theorem c_turnOver {σ : St} {n : Nat} {l : List Nat} (h7 : σ.1 13 7 = nI n) (hn : n ≤ 6) (hl : l.length = n) (hv : ∀ i, i < n → σ.1 17 i = nI (l.getD i 0)) : ∃ σ', f1_turnOver σ = some σ' ∧ (∀ c, c ≠ 17 → σ'.1 c = σ.1 c) ∧ σ'.2 = σ.2 ∧ ∀ i, i < n → σ'.1 17 i = nI (l.reverse.getD i 0) := by
  unfold f1_turnOver
  refine up0 (fun q i s => L1_turnOver_2 (fun σ => some σ) q i s) (n / 2) (by omega)
    (fun i s => (∀ c, c ≠ 17 → s.1 c = σ.1 c) ∧ s.2 = σ.2 ∧ ∀ j, j < n → s.1 17 j = nI (if j < i ∨ n ≤ j + i then l.getD (n - 1 - j) 0 else l.getD j 0))
    (fun o => ∃ σ', o = some σ' ∧ (∀ c, c ≠ 17 → σ'.1 c = σ.1 c) ∧ σ'.2 = σ.2 ∧ ∀ i, i < n → σ'.1 17 i = nI (l.reverse.getD i 0)) ?_ ?_ σ ?_
  · intro q i s hi hs
    left
    obtain ⟨f1, f2, f3⟩ := hs
    have e7 : s.1 13 7 = nI n := by rw [f1 13 (by omega)]; exact h7
    refine ⟨wI (wI s 17 i (s.1 17 (n - 1 - i))) 17 (n - 1 - i) (s.1 17 i), ⟨fun c hc => ?_, f2, fun j hj => ?_⟩, ?_⟩
    · rw [wI_n _ _ _ hc, wI_n _ _ _ hc]
      exact f1 c hc
    · rw [wI_s, wI_s, upd_a, upd_a]
      by_cases c1 : j = n - 1 - i
      · rw [if_pos c1, f3 i (by omega), if_neg (by omega), if_pos (by omega), show n - 1 - j = i by omega]
      · rw [if_neg c1]
        by_cases c2 : j = i
        · rw [if_pos c2, f3 (n - 1 - i) (by omega), if_neg (by omega), if_pos (by omega), show n - 1 - j = n - 1 - i by omega]
        · rw [if_neg c2, f3 j hj]
          by_cases c3 : j < i ∨ n ≤ j + i
          · rw [if_pos c3, if_pos (by omega)]
          · rw [if_neg c3, if_neg (by omega)]
    · conv => lhs; unfold L1_turnOver_2
      rw [e7, show (2 : Int32) = nI 2 from rfl, pk_div (by omega) (by omega) (by omega), if_neg (nI_ge hi (by omega)), gi_nI (by omega) (by omega), bnd_e, show (1 : Int32) = nI 1 from rfl, pk_sub (by omega), pk_sub (by omega), gi_nI (by omega) (by omega), gi_nI (by omega) (by omega), bnd_e, nI_clamp (by omega), nI_clamp (by omega), show (wI s 17 i (s.1 17 (n - 1 - i))).1 13 7 = nI n from e7, pk_sub (by omega), pk_sub (by omega), gi_nI (by omega) (by omega), bnd_e, bnd_e, nI_clamp (by omega), ← show (1 : Int32) = nI 1 from rfl, nI_1]
  · intro q s hs
    obtain ⟨f1, f2, f3⟩ := hs
    refine ⟨s, ?_, f1, f2, fun i hi => ?_⟩
    · unfold L1_turnOver_2
      rw [f1 13 (by omega), h7, show (2 : Int32) = nI 2 from rfl, pk_div (by omega) (by omega) (by omega), if_pos (nI_le (Nat.le_refl _) (by omega))]
    · rw [f3 i hi, getD_rev (by omega), hl]
      by_cases c : i < n / 2 ∨ n ≤ i + n / 2
      · rw [if_pos c]
      · rw [if_neg c, show n - 1 - i = i by omega]
  · refine ⟨fun _ _ => rfl, rfl, fun j hj => ?_⟩
    rw [if_neg (by omega)]
    exact hv j hj
theorem n_rem {a d : Nat} (ha : a < 2147483648) (h0 : 0 < d) (hd : d < 2147483648) : nI a - nI a / nI d * nI d = nI (a % d) := pk_rem (by omega) h0 (by omega)
theorem c_liftOff {σ : St} {n a : Nat} {l : List Nat} (h7 : σ.1 13 7 = nI n) (hn : n ≤ 6) (hl : l.length = n) (ha : a < n) (hv : ∀ i, i < n → σ.1 17 i = nI (l.getD i 0)) : ∃ σ', f1_liftOff σ (nI a) = some σ' ∧ (∀ c, c ≠ 17 → c ≠ 18 → σ'.1 c = σ.1 c) ∧ σ'.2 = σ.2 ∧ ∀ i, i < n → σ'.1 17 i = nI ((l.drop a ++ l.take a).getD i 0) := by
  unfold f1_liftOff
  refine up0 (fun q i s => L1_liftOff_2 (nI a) (fun σ_6 => L1_liftOff_30 (nI a) (fun σ => some σ) FU 0 σ_6) q i s) n (by omega)
    (fun i s => (∀ c, c ≠ 18 → s.1 c = σ.1 c) ∧ s.2 = σ.2 ∧ ∀ j, j < i → s.1 18 j = nI (l.getD j 0))
    (fun o => ∃ σ', o = some σ' ∧ (∀ c, c ≠ 17 → c ≠ 18 → σ'.1 c = σ.1 c) ∧ σ'.2 = σ.2 ∧ ∀ i, i < n → σ'.1 17 i = nI ((l.drop a ++ l.take a).getD i 0)) ?_ ?_ σ ?_
  · intro q i s hi hs
    left
    obtain ⟨f1, f2, f3⟩ := hs
    refine ⟨wI s 18 i (nI (l.getD i 0)), ⟨fun c hc => ?_, f2, fun j hj => ?_⟩, ?_⟩
    · rw [wI_n _ _ _ hc]
      exact f1 c hc
    · rw [wI_s, upd_a]
      by_cases c : j = i
      · rw [if_pos c, c]
      · rw [if_neg c]
        exact f3 j (by omega)
    · conv => lhs; unfold L1_liftOff_2
      rw [f1 13 (by omega), h7, if_neg (nI_ge hi (by omega)), gi_nI (by omega) (by omega), gi_nI (by omega) (by omega), bnd_e, bnd_e, nI_clamp (by omega), f1 17 (by omega), hv i hi, nI_1]
  · intro q s hs
    obtain ⟨f1, f2, f3⟩ := hs
    have e : L1_liftOff_2 (nI a) (fun σ_6 => L1_liftOff_30 (nI a) (fun σ => some σ) FU 0 σ_6) (q + 1) (nI n) s = L1_liftOff_30 (nI a) (fun σ => some σ) FU 0 s := by
      conv => lhs; unfold L1_liftOff_2
      rw [f1 13 (by omega), h7, if_pos (nI_le (Nat.le_refl _) (by omega))]
    rw [e]
    refine up0 (fun q i s => L1_liftOff_30 (nI a) (fun σ => some σ) q i s) n (by omega)
      (fun i u => (∀ c, c ≠ 17 → u.1 c = s.1 c) ∧ u.2 = s.2 ∧ ∀ j, j < i → u.1 17 j = nI ((l.drop a ++ l.take a).getD j 0))
      (fun o => ∃ σ', o = some σ' ∧ (∀ c, c ≠ 17 → c ≠ 18 → σ'.1 c = σ.1 c) ∧ σ'.2 = σ.2 ∧ ∀ i, i < n → σ'.1 17 i = nI ((l.drop a ++ l.take a).getD i 0)) ?_ ?_ s ?_
    · intro q i u hi hu
      left
      obtain ⟨g1, g2, g3⟩ := hu
      have hmod : (i + a) % n < n := Nat.mod_lt _ (by omega)
      refine ⟨wI u 17 i (nI (l.getD ((i + a) % n) 0)), ⟨fun c hc => ?_, g2, fun j hj => ?_⟩, ?_⟩
      · rw [wI_n _ _ _ hc]
        exact g1 c hc
      · rw [wI_s, upd_a]
        by_cases c : j = i
        · rw [if_pos c, c, getD_rot (by omega) (by omega), hl]
        · rw [if_neg c]
          exact g3 j (by omega)
      · conv => lhs; unfold L1_liftOff_30
        rw [g1 13 (by omega), f1 13 (by omega), h7, if_neg (nI_ge hi (by omega)), nz_e (nI_ne0 (by omega) (by omega)), nI_add, n_rem (by omega) (by omega) (by omega), gi_nI (by omega) (by omega), gi_nI (by omega) (by omega), bnd_e, bnd_e, nI_clamp (by omega), nI_clamp (by omega), g1 18 (by omega), f3 _ hmod, nI_1]
    · intro q u hu
      obtain ⟨g1, g2, g3⟩ := hu
      refine ⟨u, ?_, fun c h1 h2 => (g1 c h1).trans (f1 c h2), g2.trans f2, g3⟩
      unfold L1_liftOff_30
      rw [g1 13 (by omega), f1 13 (by omega), h7, if_pos (nI_le (Nat.le_refl _) (by omega))]
    · exact ⟨fun _ _ => rfl, rfl, fun j hj => absurd hj (by omega)⟩
  · exact ⟨fun _ _ => rfl, rfl, fun j hj => absurd hj (by omega)⟩
theorem c_more {p : Nat} (hp : p ≤ 60) : f5_onePassMore (nI p) = some (nI (min 60 (p + 1))) := by
  unfold f5_onePassMore
  rw [nI_1]
  by_cases c : p + 1 < 60
  · rw [if_pos (show nI (p + 1) < 60 from nI_lt (b := 60) c (by omega)), show min 60 (p + 1) = p + 1 by omega]
  · rw [if_neg (show ¬ nI (p + 1) < 60 from nI_nlt (b := 60) (by omega) (by omega)), show min 60 (p + 1) = 60 by omega]
    rfl
theorem c_carry {σ : St} {n d : Nat} {kd : Nat → Nat} {D : Dk} (h7 : σ.1 13 7 = nI n) (hn : n ≤ 6) (hk : ∀ i, i < n → σ.1 14 i = nI (kd i) ∧ kd i < 6) (hD : clD σ n D) (ho : okD n D) (hd : okd n d) : ∃ σ', f1_carryOut σ (nI d) = some σ' ∧ fr1 σ σ' ∧ clD σ' n (deed1 kd D d) := by
  obtain ⟨a1, a2, a3⟩ := hD
  have ho' := ho
  obtain ⟨o1, o2, o3, o4, o5⟩ := ho
  obtain ⟨d1, d2, d3, d4⟩ := hd
  have e1 : nI d / 100 - nI d / 100 / 10 * 10 = nI (d / 100 % 10) := by
    rw [show (100 : Int32) = nI 100 from rfl, pk_div (by omega) (by omega) (by omega), show (10 : Int32) = nI 10 from rfl, n_rem (by omega) (by omega) (by omega)]
  have e2 : nI d / 10 - nI d / 10 / 10 * 10 = nI (d / 10 % 10) := by
    rw [show (10 : Int32) = nI 10 from rfl, pk_div (by omega) (by omega) (by omega), n_rem (by omega) (by omega) (by omega)]
  have e3 : nI d - nI d / 10 * 10 = nI (d % 10) := by
    rw [show (10 : Int32) = nI 10 from rfl, n_rem (by omega) (by omega) (by omega)]
  have e4 : nI d / 1000 = nI (d / 1000) := by
    rw [show (1000 : Int32) = nI 1000 from rfl, pk_div (by omega) (by omega) (by omega)]
  unfold f1_carryOut deed1
  rw [e1, e2, e3, e4, bnd_e]
  by_cases c0 : d / 1000 = 0
  · rw [if_pos c0, c0, if_pos (by rfl), a3]
    obtain ⟨σ', q1, q2, q3, q4⟩ := c_sift (σ := σ) (n := n) (kd := kd) (fig := D.2.1) (a1 := 17) (a2 := 17) (l := D.1) (col := d / 100 % 10) (p := D.2.2) (mis := 0) ⟨h7, hn, hk, fun k hk => ⟨a2 k hk, o4 k hk⟩⟩ (Or.inl rfl) (Or.inl rfl) o1 o3 a1 (d2 c0) o5 (by omega)
    rw [show (0 : Int32) = nI 0 from rfl, q1, b1_s, q2 13 (by omega) (by omega), a3, c_more o5, b1_s, bnd_e]
    refine ⟨_, rfl, ⟨fun c b1 b2 b3 b4 b5 => ?_, fun k hk => ?_, q3⟩, fun i hi => ?_, fun k hk => ?_, ?_⟩
    · rw [wI_n _ _ _ b1]
      exact q2 c b3 b5
    · rw [wI_s, upd_n _ _ hk, q2 13 (by omega) (by omega)]
    · rw [wI_n _ _ _ (by omega)]
      exact q4 i hi
    · rw [wI_n _ _ _ (by omega), q2 16 (by omega) (by omega)]
      exact a2 k hk
    · rw [wI_s, upd_s]
  rw [if_neg c0]
  by_cases c1 : d / 1000 = 1
  · rw [if_pos c1, c1, if_neg (by decide), if_pos (by rfl)]
    obtain ⟨σ', q1, q2, q3, q4⟩ := c_turnOver h7 hn o1 a1
    rw [q1, b1_s]
    refine ⟨σ', rfl, ⟨fun c b1 b2 b3 b4 b5 => q2 c b3, fun k hk => by rw [q2 13 (by omega)], q3⟩, q4, fun k hk => by rw [q2 16 (by omega)]; exact a2 k hk, by rw [q2 13 (by omega)]; exact a3⟩
  rw [if_neg c1]
  by_cases c2 : d / 1000 = 2
  · rw [if_pos c2, c2, if_neg (by decide), if_neg (by decide), if_pos (by rfl)]
    obtain ⟨σ', q1, q2, q3, q4⟩ := c_liftOff h7 hn o1 (d3 c2).2 a1
    rw [q1, b1_s]
    refine ⟨σ', rfl, ⟨fun c b1 b2 b3 b4 b5 => q2 c b3 b4, fun k hk => by rw [q2 13 (by omega) (by omega)], q3⟩, q4, fun k hk => by rw [q2 16 (by omega) (by omega)]; exact a2 k hk, by rw [q2 13 (by omega) (by omega)]; exact a3⟩
  rw [if_neg c2]
  have c3 : d / 1000 = 3 := by omega
  obtain ⟨b1, b2⟩ := d4 c3
  rw [c3, if_neg (by decide), if_neg (by decide), if_neg (by decide), show (3 : Int32) = nI 3 from rfl, pk_mul, nI_add, gi_nI (by omega) (by omega), bnd_e, nI_clamp (by omega)]
  refine ⟨_, rfl, ⟨fun c b1 b2 b3 b4 b5 => by rw [wI_n _ _ _ b2], fun k hk => by rw [wI_n _ _ _ (by omega)], rfl⟩, fun i hi => by rw [wI_n _ _ _ (by omega)]; exact a1 i hi, fun k hk => ?_, by rw [wI_n _ _ _ (by omega)]; exact a3⟩
  rw [wI_s, upd_a]
  show _ = nI (updN D.2.1 _ _ k)
  unfold updN
  by_cases e : k = 3 * (d / 100 % 10) + d / 10 % 10
  · rw [if_pos (by omega), if_pos e]
  · rw [if_neg (by omega), if_neg e]
    exact a2 k hk
