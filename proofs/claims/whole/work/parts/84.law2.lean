/-! the law's rows: two worlds side by side -/
theorem l_left {D : va_G} {cl : List vw_C} {A : Nat → Prop} {wa wb : va_W} {H : Heap} (hP : va_P D cl (wa ++ wb) H) (hD : va_D A (wa ++ wb)) : va_P D cl wa H ∧ va_D A wa ∧ va_P D cl wb H ∧ va_D A wb ∧ ∀ (i j : Nat) (p q : Nat × va_E), wa[i]? = some p → wb[j]? = some q → p.1 ≠ q.1 := by
  have h1 : ∀ (k : Nat) (q : Nat × va_E), wa[k]? = some q → (wa ++ wb)[k]? = some q := fun k q h => by
    rw [List.getElem?_append_left (List.getElem?_eq_some_iff.mp h).1]
    exact h
  have h2 : ∀ (k : Nat) (q : Nat × va_E), wb[k]? = some q → (wa ++ wb)[wa.length + k]? = some q := fun k q h => by
    rw [List.getElem?_append_right (Nat.le_add_right _ _), Nat.add_sub_cancel_left]
    exact h
  refine ⟨fun k q h => hP k q (h1 k q h), ⟨fun i j p q a b c => hD.1 i j p q (h1 i p a) (h1 j q b) c, fun k q h => hD.2 k q (h1 k q h)⟩, fun k q h => hP _ q (h2 k q h), ⟨fun i j p q a b c => ?_, fun k q h => hD.2 _ q (h2 k q h)⟩, fun i j p q a b c => ?_⟩
  · have := hD.1 _ _ p q (h2 i p a) (h2 j q b) c
    omega
  · have := hD.1 _ _ p q (h1 i p a) (h2 j q b) c
    have := (List.getElem?_eq_some_iff.mp a).1
    omega
theorem l_keep {D : va_G} {cl : List vw_C} {A : Nat → Prop} {wa wb w1 : va_W} {H H1 : Heap} (hPb : va_P D cl wb H) (hx : ∀ (i j : Nat) (p q : Nat × va_E), wa[i]? = some p → wb[j]? = some q → p.1 ≠ q.1) (hD1 : va_D (va_A wa H.size) w1) (hk : ∀ q : Nat, q < H.size → ¬ va_A wa H.size q → H1[q]? = H[q]?) : va_P D cl wb H1 ∧ ∀ (i j : Nat) (p q : Nat × va_E), w1[i]? = some p → wb[j]? = some q → p.1 ≠ q.1 := by
  have hf : ∀ (k : Nat) (q : Nat × va_E), wb[k]? = some q → q.1 < H.size ∧ ¬ va_A wa H.size q.1 := fun k q h => by
    have hlt := (hPb k q h).lt
    refine ⟨hlt, fun z => ?_⟩
    rcases z with ⟨j, e', hj⟩ | z
    · exact hx j k _ q hj h rfl
    · exact absurd z (Nat.not_le.mpr hlt)
  exact ⟨fun k q h => (hPb k q h).kept (hk q.1 (hf k q h).1 (hf k q h).2), fun i j p q a b c => (hf j q b).2 (by rw [← c]; exact hD1.2 i p a)⟩
def lF (X : Gx (St × St)) (KC KM : Kx) (b L : Nat) (xs : Nat → Int32) : Prop := X.2.1 = KC.1 ∧ KM.1 = KC.1 ∧ X.2.2.1 = (fun q => kwl KC q.1 ++ kwl KM q.2) ∧ va_K KC.1 vwCl KC.2.2.2.2.1 X.1.2.2.2.2.1 ∧ va_K KM.1 vwCl KM.2.2.2.2.1 X.1.2.2.2.2.1 ∧ stOK KC X.2.2.2.1 X.1.2.2.2.2.1 ∧ stOK KM X.2.2.2.1 X.1.2.2.2.2.1 ∧ va_X b L xs X.1.2.2.2.2.1 X.1.2.2.2.2.1.heap ∧ b < X.1.2.2.2.2.1.heap.size ∧ ¬ X.2.2.2.1 b
section LR
variable {X : Gx (St × St)} {cc : ByteArray} {own : String} {ret : Option FieldType} {nL : Nat} {R : Room} {q : St × St} {σ τ : St} {pc : Nat} {lv : List (Nat × Value)} {st : List Value} {KC KM : Kx} {b L c ci N index : Nat} {xs : Nat → Int32} {T : u_T}
theorem l_sld (C : gF X cc own ret nL R) (F : lF X KC KM b L xs) {i : Int32} (hin : vp_in i L) (hdg : decode cc pc = .ok (.iaload, 1)) (k : gG X q (pc + 1) lv (.int (xs i.toNatClampNeg) :: st)) : gG X q pc lv (.int i :: .ref b :: st) :=
  fun H locs ls hP hD hS hl => va_sld C.1 C.2.1 F.2.2.2.2.2.2.2.1 F.2.2.2.2.2.2.2.2.1 F.2.2.2.2.2.2.2.2.2 hS hin hdg (k H locs ls hP hD hS hl)
theorem l_slen (C : gF X cc own ret nL R) (F : lF X KC KM b L xs) (hdg : decode cc pc = .ok (.arraylength, 1)) (k : gG X q (pc + 1) lv (.int (Int32.ofNat L) :: st)) : gG X q pc lv (.ref b :: st) :=
  fun H locs ls hP hD hS hl => va_slen C.1 C.2.1 F.2.2.2.2.2.2.2.1 F.2.2.2.2.2.2.2.2.1 F.2.2.2.2.2.2.2.2.2 hS hdg (k H locs ls hP hD hS hl)
theorem l_cC (C : gF X cc own ret nL R) (F : lF X KC KM b L xs) {y : MethodName} {cb : ByteArray} {mL n : Nat} {rt : Option FieldType} {rm : Room} {v : Value} {σ1 : St} {rest : List Value} (As : List Value) (hm : mC KC X.1.2.1 y cb mL rt rm (.ref (KC.2.1 c) :: As) σ (some v) σ1) (mi : miV y cb mL rt n) (hO : kO KC c ci) (hcl : vwCl[ci]? = some (y.cls, T, N)) (hlk : Cond.methodLink own index y ∈ lw_tbl) (hrm : rmOK rm R mL) (hn : As.length = n) (hstack : st = As.reverse ++ .ref (KC.2.1 c) :: rest) (hcat : (rest.map fun v => v.category).sum ≤ 8) (hdg : decode cc pc = .ok (.invokevirtual index, 3)) (kk : gG X (σ1, τ) (pc + 3) lv (v :: rest)) : gG X (σ, τ) pc lv st := by
  obtain ⟨⟨p, l, e, R0, s, m, args, below, meth, co⟩, D, wl, A, nL0, cells, slots, Q⟩ := X
  obtain ⟨h1, h1m, h2, hK, hKm, hst, hstm, hX⟩ := F
  dsimp only at h1 h1m h2 hK hKm hst hstm hX hm
  subst h1
  subst h2
  intro H locs ls hP0 hD0 hS hl
  subst hstack
  obtain ⟨hP, hD, hPb, hDb, hdis⟩ := l_left hP0 hD0
  dsimp only at hP hD hPb hDb hdis hS hl
  have hR0 : R0 = R := C.2.2.2.2.2.2.2.2.2.1
  have hA := kwl_free hD hS C.2.2.2.2.2.2.1
  have hws : ∀ w ∈ [Cond.code y cb mL rt], ∀ (a' : Array Value) (U : State), s.WarmedH U.vm → w.before a' U = true := fun w hw a' U hW => by
    rw [List.mem_singleton.mp hw]
    exact tbOK.warm hW C.2.2.2.2.2.1 _ mi.1 rfl a'
  have hsig : ∀ sig, parseMethodDescriptor y.desc = some sig → n = sig.parameters.length := fun sig h => by
    have h2 := mi.2.2.2.2.2
    rw [h] at h2
    exact (Option.some.inj h2).symm
  have hpre : ∀ U : State, U.heap = H → s.WarmedH U.vm → va_Pc (.ref (KC.2.1 c) :: As) (gPre KC σ H.size) (((.ref (KC.2.1 c) :: As) : List Value)).toArray U := fun U hU hW => by
    refine ⟨rfl, by rw [hU], by rw [hU]; exact hP, va_K.moved hW.alike hK, hD.weaken (fun _ _ _ _ => trivial), tbOK.warm hW C.2.2.2.2.2.1, ?_⟩
    exact hst.to (locs := locs) hW.alike (by rw [hU]; exact hS) hA
  obtain ⟨hcN, hOO⟩ := hO
  obtain ⟨fs, hfs0⟩ := hOO (σ.1 c) (σ.2 c)
  have hfs := kwl_at KC σ hcN
  rw [hfs0] at hfs
  refine g_back (S := St) (rest := rest) (A1 := va_A (kwl KC σ) H.size) (va_runV (Ts := []) (As := As) (rest := rest) (nL := nL0) (own := own) ⟨C.1, C.2.1, C.2.2.2.1, C.2.2.2.2.1, fun _ h => absurd h List.not_mem_nil⟩ (hm H.size) ⟨⟨hrm.1, hrm.2.1, by rw [hR0]; exact hrm.2.2.1, by rw [hR0]; exact hrm.2.2.2, hws, List.mem_singleton.mpr rfl, C.2.2.2.2.2.1 _ mi.1 rfl _, C.2.2.2.2.2.1 _ mi.2.1 rfl _, mi.2.2.2.2.1, hsig, C.2.2.2.2.2.1 _ hlk rfl _⟩, C.2.2.2.2.2.1 _ mi.2.2.1 rfl _, C.2.2.2.2.2.1 _ mi.2.2.2.1 rfl _⟩ ⟨gPre_blind KC σ _ _, va_recv hK hP hcl hfs, hpre⟩ rfl hn hl.1 rfl (lv_room hcat) hdg ⟨C.2.2.2.2.2.2.2.2.2.2.1, C.2.2.2.2.2.2.2.2.2.2.2⟩) hS hA (fun H1 locs1 hP1 hD1 hk1 hS1 => ?_)
  obtain ⟨hPb1, hdis1⟩ := l_keep (A := A) hPb hdis hD1 hk1
  exact kk H1 locs1 ls (hP1.app hPb1) ((hD1.weaken (fun _ q _ h => hA q.1 h)).app hDb hdis1) hS1 hl
theorem l_cM (C : gF X cc own ret nL R) (F : lF X KC KM b L xs) {y : MethodName} {cb : ByteArray} {mL n : Nat} {rt : Option FieldType} {rm : Room} {v : Value} {τ1 : St} {rest : List Value} (As : List Value) (hm : mC KM X.1.2.1 y cb mL rt rm (.ref (KM.2.1 c) :: As) τ (some v) τ1) (mi : miV y cb mL rt n) (hO : kO KM c ci) (hcl : vwCl[ci]? = some (y.cls, T, N)) (hlk : Cond.methodLink own index y ∈ lw_tbl) (hrm : rmOK rm R mL) (hn : As.length = n) (hstack : st = As.reverse ++ .ref (KM.2.1 c) :: rest) (hcat : (rest.map fun v => v.category).sum ≤ 8) (hdg : decode cc pc = .ok (.invokevirtual index, 3)) (kk : gG X (σ, τ1) (pc + 3) lv (v :: rest)) : gG X (σ, τ) pc lv st := by
  obtain ⟨⟨p, l, e, R0, s, m, args, below, meth, co⟩, D, wl, A, nL0, cells, slots, Q⟩ := X
  obtain ⟨h1, h1m, h2, hK, hKm, hst, hstm, hX⟩ := F
  dsimp only at h1 h1m h2 hK hKm hst hstm hX hm
  subst h1
  subst h2
  intro H locs ls hP0 hD0 hS hl
  subst hstack
  obtain ⟨hPb, hDb, hP, hD, hdis0⟩ := l_left hP0 hD0
  dsimp only at hP hD hPb hDb hdis0 hS hl
  have hdis : ∀ (i j : Nat) (p q : Nat × va_E), (kwl KM τ)[i]? = some p → (kwl KC σ)[j]? = some q → p.1 ≠ q.1 := fun i j p q a b c => hdis0 j i q p b a c.symm
  have hPk : va_P KM.1 vwCl (kwl KM τ) H := by rw [h1m]; exact hP
  have hR0 : R0 = R := C.2.2.2.2.2.2.2.2.2.1
  have hA := kwl_free hD hS C.2.2.2.2.2.2.1
  have hws : ∀ w ∈ [Cond.code y cb mL rt], ∀ (a' : Array Value) (U : State), s.WarmedH U.vm → w.before a' U = true := fun w hw a' U hW => by
    rw [List.mem_singleton.mp hw]
    exact tbOK.warm hW C.2.2.2.2.2.1 _ mi.1 rfl a'
  have hsig : ∀ sig, parseMethodDescriptor y.desc = some sig → n = sig.parameters.length := fun sig h => by
    have h2 := mi.2.2.2.2.2
    rw [h] at h2
    exact (Option.some.inj h2).symm
  have hpre : ∀ U : State, U.heap = H → s.WarmedH U.vm → va_Pc (.ref (KM.2.1 c) :: As) (gPre KM τ H.size) (((.ref (KM.2.1 c) :: As) : List Value)).toArray U := fun U hU hW => by
    refine ⟨rfl, by rw [hU], by rw [hU]; exact hPk, va_K.moved hW.alike hKm, hD.weaken (fun _ _ _ _ => trivial), tbOK.warm hW C.2.2.2.2.2.1, ?_⟩
    exact hstm.to (locs := locs) hW.alike (by rw [hU]; exact hS) hA
  obtain ⟨hcN, hOO⟩ := hO
  obtain ⟨fs, hfs0⟩ := hOO (τ.1 c) (τ.2 c)
  have hfs := kwl_at KM τ hcN
  rw [hfs0] at hfs
  refine g_back (S := St) (rest := rest) (A1 := va_A (kwl KM τ) H.size) (va_runV (Ts := []) (As := As) (rest := rest) (nL := nL0) (own := own) ⟨C.1, C.2.1, C.2.2.2.1, C.2.2.2.2.1, fun _ h => absurd h List.not_mem_nil⟩ (hm H.size) ⟨⟨hrm.1, hrm.2.1, by rw [hR0]; exact hrm.2.2.1, by rw [hR0]; exact hrm.2.2.2, hws, List.mem_singleton.mpr rfl, C.2.2.2.2.2.1 _ mi.1 rfl _, C.2.2.2.2.2.1 _ mi.2.1 rfl _, mi.2.2.2.2.1, hsig, C.2.2.2.2.2.1 _ hlk rfl _⟩, C.2.2.2.2.2.1 _ mi.2.2.1 rfl _, C.2.2.2.2.2.1 _ mi.2.2.2.1 rfl _⟩ ⟨gPre_blind KM τ _ _, va_recv hKm hPk hcl hfs, hpre⟩ rfl hn hl.1 rfl (lv_room hcat) hdg ⟨C.2.2.2.2.2.2.2.2.2.2.1, C.2.2.2.2.2.2.2.2.2.2.2⟩) hS hA (fun H1 locs1 hP1 hD1 hk1 hS1 => ?_)
  obtain ⟨hPb1, hdis1⟩ := l_keep (A := A) hPb hdis hD1 hk1
  rw [h1m] at hP1
  exact kk H1 locs1 ls (hPb1.app hP1) (hDb.app (hD1.weaken (fun _ q _ h => hA q.1 h)) (fun i j p q a b c => hdis1 j i q p b a c.symm)) hS1 hl
abbrev LV (b a0 m0 : Nat) (x : Int32) : List (Nat × Value) := [(3, .int x), (2, .ref m0), (1, .ref a0), (0, .ref b)]
/-- one argument out of the script -/
theorem l_arg (C : gF X cc own ret nL R) (F : lF X KC KM b L xs) {a0 m0 : Nat} {x v : Int32} {n : Int} (h0 : decode cc pc = .ok (.aload_n 0, 1)) (h1 : decode cc (pc + 1) = .ok (.iload_n 3, 1)) (h2 : decode cc (pc + 1 + 1) = .ok (.iconst n, 1)) (h3 : decode cc (pc + 1 + 1 + 1) = .ok (.iadd, 1)) (h4 : decode cc (pc + 1 + 1 + 1 + 1) = .ok (.iaload, 1)) (hv : Int32.ofInt n = v) (hin : vp_in (x + v) L) (k : gG X q (pc + 1 + 1 + 1 + 1 + 1) (LV b a0 m0 x) (.int (xs (x + v).toNatClampNeg) :: st)) : gG X q pc (LV b a0 m0 x) st := by
  refine g_aload_n C 3 h0 rfl ?_
  refine g_iload_n C 0 h1 rfl ?_
  refine g_iconst C h2 hv ?_
  refine g_iadd C h3 ?_
  exact l_sld C F hin h4 k
end LR
