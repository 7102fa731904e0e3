/-! the call of a constructor -/
theorem iPre_blind (D : va_G) (cI cZ cA : ClassId) (w0 : va_W) (sz : Nat) (as : List Value) : FrameBlind (va_Pc as (iPre D cI cZ cA w0 sz)) := by
  intro a U g mk h
  obtain ⟨h0, h1, h2, h3, h4, h5, h6⟩ := h
  exact ⟨h0, h1, h2, va_K.moved (u := U) (U := U.calling g mk a) (Vm.Alike.refl U.vm) h3, h4, tbOK.warm (U := U.calling g mk a) (State.WarmedH.refl U) h5, va_AOA.moved (u := U) (U := U.calling g mk a) (Vm.Alike.refl U.vm) h6⟩
def miI (y : MethodName) (cb : ByteArray) (mL : Nat) (n : Nat) : Prop := Cond.code y cb mL none ∈ lw_tbl ∧ Cond.initialized y.cls ∈ lw_tbl ∧ Cond.instanceMethod y ∈ lw_tbl ∧ y.name = "<init>" ∧ (y.cls ≠ "java/lang/invoke/MethodHandle" ∧ y.cls ≠ "java/lang/invoke/VarHandle") ∧ (parseMethodDescriptor y.desc).map (fun d => d.parameters.length) = some n
/-- behind the call of a constructor -/
theorem w_back {p : Program} {l : Launch} {e : Env} {R0 : Room} {s : State} {m : MethodId} {args : Array Value} {below : List Frame} {meth : Method} {co : Code} {A : Nat → Prop} {cells slots mc ms : Nat} {Q : State → Prop} {H : Heap} {locs : List Loc} {ls : Array Slot} {st rest : List Value} {a : Array Value} {D : va_G} {w : (Nat → Nat) → va_W} {wr : va_W} {x : Nat × va_E} {pc : Nat}
    (hr : va_Run p l e R0 s m args below meth co H locs cells slots mc ms (F0 m pc ls st) rest (iQ D w (va_A [x] H.size) a) (va_A [x] H.size)) (hS : va_S A s.heap H locs) (hA : ∀ q, va_A [x] H.size q → A q) (hP : va_P D vwCl (wr ++ [x]) H) (hD : va_D A (wr ++ [x]))
    (kk : ∀ (r : Nat → Nat) (H1 : Heap) (locs1 : List Loc), va_P D vwCl (wr ++ w r) H1 → va_D A (wr ++ w r) → va_S A s.heap H1 locs1 → W p l e R0 s m args below meth co H1 locs1 (cells + mc) (slots + ms) Q (F0 m (pc + 3) ls rest)) : W p l e R0 s m args below meth co H locs cells slots Q (F0 m pc ls st) := by
  intro T hT X
  obtain ⟨v', st₀, t, T', L, h0, X', hL, e1, e2, ⟨⟨r, hv, hp, hd⟩, hz, hk⟩, stp⟩ := hr T hT X
  cases hv
  rw [h0] at hz hk
  have hat : ∀ (k : Nat) (q : Nat × va_E), wr[k]? = some q → (wr ++ [x])[k]? = some q := fun k q h => by
    have hl := (List.getElem?_eq_some_iff.mp h).1
    rw [List.getElem?_append_left hl]
    exact h
  have hx : (wr ++ [x])[wr.length]? = some x := by simp
  have hfree : ∀ (k : Nat) (q : Nat × va_E), wr[k]? = some q → q.1 < H.size ∧ ¬ va_A [x] H.size q.1 := fun k q h => by
    have hlt := (hP k q (hat k q h)).lt
    have hl := (List.getElem?_eq_some_iff.mp h).1
    refine ⟨hlt, fun hq => ?_⟩
    rcases hq with ⟨j, e', hj⟩ | hq
    · have hj0 : j < 1 := (List.getElem?_eq_some_iff.mp hj).1
      rw [show j = 0 by omega] at hj
      have hx' : x = (q.1, e') := Option.some.inj hj
      have := hD.1 k wr.length q x (hat k q h) hx (by rw [hx'])
      omega
    · exact absurd hq (Nat.not_le.mpr hlt)
  have hP1 : va_P D vwCl wr t.heap := fun k q h => (hP k q (hat k q h)).kept (hk q.1 (hfree k q h).1 (hfree k q h).2)
  have hD1 : va_D A wr := ⟨fun i j p q h1 h2 h3 => hD.1 i j p q (hat i p h1) (hat j q h2) h3, fun k q h => hD.2 k q (hat k q h)⟩
  obtain ⟨t2, a1, b1⟩ := kk r T'.heap (locs ++ L) (by rw [e1]; exact hP1.app hp) (hD1.app (hd.weaken (fun _ q _ h => hA q.1 h)) (fun i j p q h1 h2 h3 => (hfree i p h1).2 (by rw [h3]; exact hd.2 j q h2)))
    ⟨Nat.le_trans hS.1 (by rw [e1]; exact hz), fun q h1 h2 => by rw [e1, hk q (Nat.lt_of_lt_of_le h1 hS.1) (fun z => h2 (hA q z))]; exact hS.2.1 q h1 h2, fun q hq => by
      rcases List.mem_append.mp hq with h | h
      · exact hS.2.2 q h
      · exact hA _ (hL q h)⟩ T' rfl X'
  exact ⟨t2, stp t2 a1, b1⟩
section WC
variable {X : Gx va_W} {cc : ByteArray} {own host : String} {ret : Option FieldType} {nL : Nat} {R : Room} {wr : va_W} {pc : Nat} {lv : List (Nat × Value)} {st : List Value} {D : va_G} {cI cZ cA : ClassId} {y : MethodName} {cb : ByteArray} {mL n index q mc ms : Nat} {rm : Room} {e0 : va_E} {w : (Nat → Nat) → va_W} {rest : List Value}
theorem w_callIN (C : gF X cc own ret nL R) (Kf : wF X D cI cZ cA) (As : List Value) (hm : iC D cI cZ cA X.1.2.1 y cb mL rm (.ref q :: As) [(q, e0)] w mc ms) (mi : miI y cb mL n) (hlk : Cond.methodLinkNest own index y host ∈ lw_tbl) (hrm : rm.cells = mc ∧ rm.slots = ms ∧ rm.frames + 1 ≤ R.frames ∧ 8 + (mL + 11) + rm.locals ≤ R.locals) (hn : As.length = n) (hstack : st = As.reverse ++ .ref q :: rest) (hcat : (rest.map fun v => v.category).sum ≤ 8) (hc : X.2.2.2.2.2.1 + mc ≤ R.cells) (hs : X.2.2.2.2.2.2.1 + ms ≤ R.slots) (hdg : decode cc pc = .ok (.invokespecial index, 3))
    (kk : ∀ r : Nat → Nat, gG (Xc X (X.2.2.2.2.2.1 + mc) (X.2.2.2.2.2.2.1 + ms)) (wr ++ w r) (pc + 3) lv rest) : gG X (wr ++ [(q, e0)]) pc lv st := by
  obtain ⟨⟨p, l, e, R0, s, m, args, below, meth, co⟩, D', wl, A, nL0, cells, slots, Q⟩ := X
  obtain ⟨h1, h2, hK, hao⟩ := Kf
  dsimp only at h1 h2 hK hao hc hs hm
  subst h1
  subst h2
  intro H locs ls hP hD hS hl
  subst hstack
  have hR0 : R0 = R := C.2.2.2.2.2.2.2.2.2.1
  subst hR0
  have hx : (wr ++ [(q, e0)])[wr.length]? = some (q, e0) := by simp
  have hA : ∀ a, va_A [(q, e0)] H.size a → A a := fun a h => by
    rcases h with ⟨j, e', hj⟩ | h
    · have hj0 : j < 1 := (List.getElem?_eq_some_iff.mp hj).1
      rw [show j = 0 by omega] at hj
      cases hj
      exact hD.2 wr.length (q, e0) hx
    · exact C.2.2.2.2.2.2.1 a (Nat.le_trans hS.1 h)
  have hP0 : va_P D' vwCl [(q, e0)] H := fun k a h => by
    have hj0 : k < 1 := (List.getElem?_eq_some_iff.mp h).1
    rw [show k = 0 by omega] at h
    cases h
    exact hP wr.length (q, e0) hx
  have hD0 : va_D (fun _ => True) [(q, e0)] := ⟨fun i j p q h1 h2 _ => by
    have h3 := (List.getElem?_eq_some_iff.mp h1).1
    have h4 := (List.getElem?_eq_some_iff.mp h2).1
    simp only [List.length_cons, List.length_nil] at h3 h4
    omega, fun _ _ _ => trivial⟩
  have hws : ∀ w ∈ [Cond.code y cb mL none], ∀ (a' : Array Value) (U : State), s.WarmedH U.vm → w.before a' U = true := fun w hw a' U hW => by
    rw [List.mem_singleton.mp hw]
    exact tbOK.warm hW C.2.2.2.2.2.1 _ mi.1 rfl a'
  have hsig : ∀ sig, parseMethodDescriptor y.desc = some sig → n = sig.parameters.length := fun sig h => by
    have h2 := mi.2.2.2.2.2
    rw [h] at h2
    exact (Option.some.inj h2).symm
  have hpre : ∀ U : State, U.heap = H → s.WarmedH U.vm → va_Pc (.ref q :: As) (iPre D' cI cZ cA [(q, e0)] H.size) (((.ref q :: As) : List Value)).toArray U := fun U hU hW => ⟨rfl, by rw [hU], by rw [hU]; exact hP0, va_K.moved hW.alike hK, hD0, tbOK.warm hW C.2.2.2.2.2.1, va_AOA.moved hW.alike hao⟩
  refine w_back (rest := rest) (va_runIN (Ts := []) (As := As) (rest := rest) (nL := nL0) (own := own) ⟨C.1, C.2.1, C.2.2.2.1, C.2.2.2.2.1, fun _ h => absurd h List.not_mem_nil⟩ (hm H.size) ⟨⟨⟨hrm.1, hrm.2.1, hrm.2.2.1, hrm.2.2.2, hws, List.mem_singleton.mpr rfl⟩, C.2.2.2.2.2.1 _ mi.1 rfl _, C.2.2.2.2.2.1 _ mi.2.1 rfl _, mi.2.2.2.2.1, hsig, C.2.2.2.2.2.1 _ hlk rfl _⟩, mi.2.2.2.1, C.2.2.2.2.2.1 _ mi.2.2.1 rfl _⟩ ⟨iPre_blind D' cI cZ cA _ _ _, hpre⟩ rfl hn hl.1 rfl (lv_room hcat) hdg ⟨hc, hs⟩) hS hA hP hD (fun r H1 locs1 hP1 hD1 hS1 => ?_)
  exact kk r H1 locs1 ls hP1 hD1 hS1 hl
theorem w_callI (C : gF X cc own ret nL R) (Kf : wF X D cI cZ cA) (As : List Value) (hm : iC D cI cZ cA X.1.2.1 y cb mL rm (.ref q :: As) [(q, e0)] w mc ms) (mi : miI y cb mL n) (hlk : Cond.methodLink own index y ∈ lw_tbl) (hrm : rm.cells = mc ∧ rm.slots = ms ∧ rm.frames + 1 ≤ R.frames ∧ 8 + (mL + 11) + rm.locals ≤ R.locals) (hn : As.length = n) (hstack : st = As.reverse ++ .ref q :: rest) (hcat : (rest.map fun v => v.category).sum ≤ 8) (hc : X.2.2.2.2.2.1 + mc ≤ R.cells) (hs : X.2.2.2.2.2.2.1 + ms ≤ R.slots) (hdg : decode cc pc = .ok (.invokespecial index, 3))
    (kk : ∀ r : Nat → Nat, gG (Xc X (X.2.2.2.2.2.1 + mc) (X.2.2.2.2.2.2.1 + ms)) (wr ++ w r) (pc + 3) lv rest) : gG X (wr ++ [(q, e0)]) pc lv st := by
  obtain ⟨⟨p, l, e, R0, s, m, args, below, meth, co⟩, D', wl, A, nL0, cells, slots, Q⟩ := X
  obtain ⟨h1, h2, hK, hao⟩ := Kf
  dsimp only at h1 h2 hK hao hc hs hm
  subst h1
  subst h2
  intro H locs ls hP hD hS hl
  subst hstack
  have hR0 : R0 = R := C.2.2.2.2.2.2.2.2.2.1
  subst hR0
  have hx : (wr ++ [(q, e0)])[wr.length]? = some (q, e0) := by simp
  have hA : ∀ a, va_A [(q, e0)] H.size a → A a := fun a h => by
    rcases h with ⟨j, e', hj⟩ | h
    · have hj0 : j < 1 := (List.getElem?_eq_some_iff.mp hj).1
      rw [show j = 0 by omega] at hj
      cases hj
      exact hD.2 wr.length (q, e0) hx
    · exact C.2.2.2.2.2.2.1 a (Nat.le_trans hS.1 h)
  have hP0 : va_P D' vwCl [(q, e0)] H := fun k a h => by
    have hj0 : k < 1 := (List.getElem?_eq_some_iff.mp h).1
    rw [show k = 0 by omega] at h
    cases h
    exact hP wr.length (q, e0) hx
  have hD0 : va_D (fun _ => True) [(q, e0)] := ⟨fun i j p q h1 h2 _ => by
    have h3 := (List.getElem?_eq_some_iff.mp h1).1
    have h4 := (List.getElem?_eq_some_iff.mp h2).1
    simp only [List.length_cons, List.length_nil] at h3 h4
    omega, fun _ _ _ => trivial⟩
  have hws : ∀ w ∈ [Cond.code y cb mL none], ∀ (a' : Array Value) (U : State), s.WarmedH U.vm → w.before a' U = true := fun w hw a' U hW => by
    rw [List.mem_singleton.mp hw]
    exact tbOK.warm hW C.2.2.2.2.2.1 _ mi.1 rfl a'
  have hsig : ∀ sig, parseMethodDescriptor y.desc = some sig → n = sig.parameters.length := fun sig h => by
    have h2 := mi.2.2.2.2.2
    rw [h] at h2
    exact (Option.some.inj h2).symm
  have hpre : ∀ U : State, U.heap = H → s.WarmedH U.vm → va_Pc (.ref q :: As) (iPre D' cI cZ cA [(q, e0)] H.size) (((.ref q :: As) : List Value)).toArray U := fun U hU hW => ⟨rfl, by rw [hU], by rw [hU]; exact hP0, va_K.moved hW.alike hK, hD0, tbOK.warm hW C.2.2.2.2.2.1, va_AOA.moved hW.alike hao⟩
  refine w_back (rest := rest) (va_runI (Ts := []) (As := As) (rest := rest) (nL := nL0) (own := own) ⟨C.1, C.2.1, C.2.2.2.1, C.2.2.2.2.1, fun _ h => absurd h List.not_mem_nil⟩ (hm H.size) ⟨⟨hrm.1, hrm.2.1, hrm.2.2.1, hrm.2.2.2, hws, List.mem_singleton.mpr rfl, C.2.2.2.2.2.1 _ mi.1 rfl _, C.2.2.2.2.2.1 _ mi.2.1 rfl _, mi.2.2.2.2.1, hsig, C.2.2.2.2.2.1 _ hlk rfl _⟩, mi.2.2.2.1, C.2.2.2.2.2.1 _ mi.2.2.1 rfl _⟩ ⟨iPre_blind D' cI cZ cA _ _ _, hpre⟩ rfl hn hl.1 rfl (lv_room hcat) hdg ⟨hc, hs⟩) hS hA hP hD (fun r H1 locs1 hP1 hD1 hS1 => ?_)
  exact kk r H1 locs1 ls hP1 hD1 hS1 hl
end WC
/-! words of the constructors -/
theorem koL : Cond.instanceMethod Lib.objectInit ∈ lw_tbl ∧ Cond.code Lib.objectInit ⟨#[0xb1]⟩ 1 none ∈ lw_tbl := ⟨List.mem_of_getElem? (i := 99) (by decide +kernel), List.mem_of_getElem? (i := 100) (by decide +kernel)⟩
theorem kaI : Cond.arrayClass .int ∈ lw_tbl := List.mem_of_getElem? (i := 117) (by decide +kernel)
theorem kaZ : Cond.arrayClass .boolean ∈ lw_tbl := List.mem_of_getElem? (i := 821) (by decide +kernel)
theorem cb_int : componentBytes .int = 4 := rfl
theorem cb_bool : componentBytes .boolean = 1 := rfl
