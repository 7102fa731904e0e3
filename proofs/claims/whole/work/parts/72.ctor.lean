/-! the making of objects: worlds as plain lists -/
def va_AOA (ty : FieldType) (U : State) : Prop := (Cond.arrayOver (.array ty)).before #[] U = true
theorem va_AOA.use {ty : FieldType} {A : Array Value} {U : State} (h : va_AOA ty U) : (Cond.arrayOver (.array ty)).before A U = true := h
theorem va_AOA.moved {ty : FieldType} {u U : State} (hvm : u.vm.Alike U.vm) (h : va_AOA ty u) : va_AOA ty U := by
  have h1 := Cond.arrayOver_setVmC (args := #[]) hvm (.array ty)
  have h2 : (Cond.arrayOver (.array ty)).before #[] (u.setVm U.vm) = true := h1.trans h
  exact h2
def Xc {S : Type} (X : Gx S) (k n : Nat) : Gx S := (X.1, X.2.1, X.2.2.1, X.2.2.2.1, X.2.2.2.2.1, k, n, X.2.2.2.2.2.2.2)
theorem gF.at {S : Type} {X : Gx S} {cc : ByteArray} {own : String} {ret : Option FieldType} {nL : Nat} {R : Room} (C : gF X cc own ret nL R) {k n : Nat} (hk : k ≤ R.cells) (hn : n ≤ R.slots) : gF (Xc X k n) cc own ret nL R := by
  obtain ⟨h1, h2, h3, h4, h5, h6, h7, h8, h9, h10, h11, h12⟩ := C
  exact ⟨h1, h2, h3, h4, h5, h6, h7, h8, h9, h10, by rw [← h10] at hk; exact hk, by rw [← h10] at hn; exact hn⟩
def wF (X : Gx va_W) (D : va_G) (cI cZ cA : ClassId) : Prop := X.2.1 = D ∧ X.2.2.1 = (fun w => w) ∧ va_K D vwCl [(cI, .int), (cZ, .boolean), (cA, .array .int)] X.1.2.2.2.2.1 ∧ va_AOA .int X.1.2.2.2.2.1
theorem wF.at {X : Gx va_W} {D : va_G} {cI cZ cA : ClassId} (h : wF X D cI cZ cA) (k n : Nat) : wF (Xc X k n) D cI cZ cA := h
theorem ha9 (N : Nat) (cA : ClassId) : vp_cell cA (N, .inl (fun _ => 0)) = arrV cA N (fun _ => .int 0) := rfl
section WR
variable {X : Gx va_W} {cc : ByteArray} {own : String} {ret : Option FieldType} {nL : Nat} {R : Room} {ws : va_W} {pc : Nat} {lv : List (Nat × Value)} {st : List Value} {D : va_G} {cI cZ cA : ClassId}
theorem w_obj (C : gF X cc own ret nL R) {a idx : Nat} (hdg : decode cc pc = .ok (.invokespecial idx, 3)) (hlk : Cond.methodLink own idx Lib.objectInit ∈ lw_tbl) (hw : Cond.instanceMethod Lib.objectInit ∈ lw_tbl ∧ Cond.code Lib.objectInit ⟨#[0xb1]⟩ 1 none ∈ lw_tbl) (hr : 1 ≤ R.frames ∧ (st.map fun v => v.category).sum + 12 ≤ R.locals) (k : gG X ws (pc + 3) lv st) : gG X ws pc lv (.ref a :: st) := by
  intro H locs ls hP hD hS hl
  refine W.objInit C.1 C.2.1 C.2.2.2.2.1 (C.2.2.2.2.2.1 _ hlk rfl _) (C.2.2.2.2.2.1 _ hw.1 rfl _) (C.2.2.2.2.2.1 _ hw.2 rfl _) rfl (hl.1.trans C.2.2.2.1.symm) rfl hdg (by rw [C.2.2.2.2.2.2.2.2.2.1]; exact hr.1) (by rw [C.2.2.2.2.2.2.2.2.2.1]; show 2 * 0 + _ + 12 ≤ _; rw [Nat.mul_zero, Nat.zero_add]; exact hr.2) ?_
  exact k H locs ls hP hD hS hl
theorem w_newi (C : gF X cc own ret nL R) (Kf : wF X D cI cZ cA) {n : Int32} {N : Nat} (hw : Cond.arrayClass .int ∈ lw_tbl) (hn : ¬ n < 0) (hN : n.toNatClampNeg = N) (hb : N * componentBytes .int ≤ 536870912) (hc : X.2.2.2.2.2.1 + 1 ≤ R.cells) (hs : X.2.2.2.2.2.2.1 + N ≤ R.slots) (hdg : decode cc pc = .ok (.newarray .int, 2))
    (kk : ∀ q : Nat, gG (Xc X (X.2.2.2.2.2.1 + 1) (X.2.2.2.2.2.2.1 + N)) (ws ++ [(q, .inl (cI, N, .inl (fun _ => 0)))]) (pc + 2) lv (.ref q :: st)) : gG X ws pc lv (.int n :: st) := by
  obtain ⟨⟨p, l, e, R0, s, m, args, below, meth, co⟩, D', wl, A, nL0, cells, slots, Q⟩ := X
  obtain ⟨h1, h2, hK, hao⟩ := Kf
  dsimp only at h1 h2 hK hc hs
  subst h1
  subst h2
  intro H locs ls hP hD hS hl
  have hR : R0 = R := C.2.2.2.2.2.2.2.2.2.1
  subst hR
  refine va_newa (atype := .int) (ty := .int) C.1 C.2.1 (C.2.2.2.2.2.1 _ hw rfl _) rfl hK hP hD hS C.2.2.2.2.2.2.1 (a0 := (N, .inl (fun _ => 0))) (ha9 N) hn hN hb hc hs hdg (fun q cB H1 hK1 hP1 hD1 hS1 => ?_)
  have e1 : s.vm.findClass ("[" ++ FieldType.int.toString) = some cB := (hK1.2 3 (cB, .int) rfl).2
  have e2 : s.vm.findClass ("[" ++ FieldType.int.toString) = some cI := (hK1.2 0 (cI, .int) rfl).2
  have e3 : cB = cI := Option.some.inj (e1.symm.trans e2)
  subst e3
  exact kk q H1 locs ls hP1 hD1 hS1 hl
theorem w_newz (C : gF X cc own ret nL R) (Kf : wF X D cI cZ cA) {n : Int32} {N : Nat} (hw : Cond.arrayClass .boolean ∈ lw_tbl) (hn : ¬ n < 0) (hN : n.toNatClampNeg = N) (hb : N * componentBytes .boolean ≤ 536870912) (hc : X.2.2.2.2.2.1 + 1 ≤ R.cells) (hs : X.2.2.2.2.2.2.1 + N ≤ R.slots) (hdg : decode cc pc = .ok (.newarray .boolean, 2))
    (kk : ∀ q : Nat, gG (Xc X (X.2.2.2.2.2.1 + 1) (X.2.2.2.2.2.2.1 + N)) (ws ++ [(q, .inl (cZ, N, .inl (fun _ => 0)))]) (pc + 2) lv (.ref q :: st)) : gG X ws pc lv (.int n :: st) := by
  obtain ⟨⟨p, l, e, R0, s, m, args, below, meth, co⟩, D', wl, A, nL0, cells, slots, Q⟩ := X
  obtain ⟨h1, h2, hK, hao⟩ := Kf
  dsimp only at h1 h2 hK hc hs
  subst h1
  subst h2
  intro H locs ls hP hD hS hl
  have hR : R0 = R := C.2.2.2.2.2.2.2.2.2.1
  subst hR
  refine va_newa (atype := .boolean) (ty := .boolean) C.1 C.2.1 (C.2.2.2.2.2.1 _ hw rfl _) rfl hK hP hD hS C.2.2.2.2.2.2.1 (a0 := (N, .inl (fun _ => 0))) (ha9 N) hn hN hb hc hs hdg (fun q cB H1 hK1 hP1 hD1 hS1 => ?_)
  have e1 : s.vm.findClass ("[" ++ FieldType.boolean.toString) = some cB := (hK1.2 3 (cB, .boolean) rfl).2
  have e2 : s.vm.findClass ("[" ++ FieldType.boolean.toString) = some cZ := (hK1.2 1 (cZ, .boolean) rfl).2
  have e3 : cB = cZ := Option.some.inj (e1.symm.trans e2)
  subst e3
  exact kk q H1 locs ls hP1 hD1 hS1 hl
theorem w_new (C : gF X cc own ret nL R) (Kf : wF X D cI cZ cA) {ci N index : Nat} {Cn : String} {T : u_T} {ty : Nat → FieldType} {fs : List Value} (ck : clOK ci Cn T N ty) (hfs : ∀ j, j < N → defaultValue (ty j) = vp_V fs j) (hw : Cond.classLink own index Cn ∈ lw_tbl ∧ Cond.instantiable Cn N ∈ lw_tbl ∧ Cond.initialized Cn ∈ lw_tbl) (hc : X.2.2.2.2.2.1 + 1 ≤ R.cells) (hs : X.2.2.2.2.2.2.1 + N ≤ R.slots) (hdg : decode cc pc = .ok (.new index, 3))
    (kk : ∀ q : Nat, gG (Xc X (X.2.2.2.2.2.1 + 1) (X.2.2.2.2.2.2.1 + N)) (ws ++ [(q, .inr (ci, fs))]) (pc + 3) lv (.ref q :: st)) : gG X ws pc lv st := by
  obtain ⟨⟨p, l, e, R0, s, m, args, below, meth, co⟩, D', wl, A, nL0, cells, slots, Q⟩ := X
  obtain ⟨h1, h2, hK, hao⟩ := Kf
  dsimp only at h1 h2 hK hc hs
  subst h1
  subst h2
  intro H locs ls hP hD hS hl
  have hR : R0 = R := C.2.2.2.2.2.2.2.2.2.1
  subst hR
  exact va_new (Ts := u_ws Cn T N) C.1 C.2.1 (fun w hw => C.2.2.2.2.2.1 w (ck.2.1 w hw).1 (ck.2.1 w hw).2 _) (fun _ h => h) ty ck.2.2.1 C.2.2.2.2.1 (C.2.2.2.2.2.1 _ hw.1 rfl _) (C.2.2.2.2.2.1 _ hw.2.1 rfl _) (C.2.2.2.2.2.1 _ hw.2.2 rfl _) hK hP hD hS C.2.2.2.2.2.2.1 ck.1 hfs hc hs hdg (fun q H1 hP1 hD1 hS1 => kk q H1 locs ls hP1 hD1 hS1 hl)
theorem w_putF (C : gF X cc own ret nL R) (Kf : wF X D cI cZ cA) {ci N index k a : Nat} {Cn : String} {T : u_T} {ty : Nat → FieldType} {fs : List Value} {v : Value} (q0 : Nat) (ws' : va_W) (ck : clOK ci Cn T N ty) (hin : X.1.2.2.2.2.2.2.2.2.1.name = "<init>") (he : ws[q0]? = some (a, .inr (ci, fs))) (hset : ws.set q0 (a, .inr (ci, fs.set k v)) = ws') (hk : k < N) (hfin : (T k).2.2.2 = true) (hdecl : (T k).1 = own) (hn : narrow (ty k) v = v) (hfit : fits (ty k) v = true) (hl0 : k < fs.length) (hdg : decode cc pc = .ok (.putfield index, 3)) (hw : Cond.fieldLink own index (T k).1 (T k).2.1 (T k).2.2.1 ∈ lw_tbl)
    (kk : gG X ws' (pc + 3) lv st) : gG X ws pc lv (v :: .ref a :: st) := by
  obtain ⟨⟨p, l, e, R0, s, m, args, below, meth, co⟩, D', wl, A, nL0, cells, slots, Q⟩ := X
  obtain ⟨h1, h2, hK, hao⟩ := Kf
  dsimp only at h1 h2 hK hin
  subst h1
  subst h2
  subst hset
  intro H locs ls hP hD hS hl
  exact va_putF (Ts := u_ws Cn T N) C.1 C.2.1 (fun w hw => C.2.2.2.2.2.1 w (ck.2.1 w hw).1 (ck.2.1 w hw).2 _) (fun _ h => h) ty ck.2.2.1 ck.2.2.2 C.2.2.2.2.1 hK hP hD hS q0 he ck.1 k hk (C.2.2.2.2.2.1 _ hw rfl _) (fun _ h => h) hfin hin hdecl (ck.2.2.1 k hk) hn hfit hl0 hdg (fun H1 locs1 hP hD hS => kk H1 locs1 ls hP hD hS hl)
theorem w_put (C : gF X cc own ret nL R) (Kf : wF X D cI cZ cA) {ci N index k a : Nat} {Cn : String} {T : u_T} {ty : Nat → FieldType} {fs : List Value} {v : Value} (q0 : Nat) (ws' : va_W) (ck : clOK ci Cn T N ty) (he : ws[q0]? = some (a, .inr (ci, fs))) (hset : ws.set q0 (a, .inr (ci, fs.set k v)) = ws') (hk : k < N) (hfin : (T k).2.2.2 = false) (hn : narrow (ty k) v = v) (hfit : fits (ty k) v = true) (hl0 : k < fs.length) (hdg : decode cc pc = .ok (.putfield index, 3)) (hw : Cond.fieldLink own index (T k).1 (T k).2.1 (T k).2.2.1 ∈ lw_tbl)
    (kk : gG X ws' (pc + 3) lv st) : gG X ws pc lv (v :: .ref a :: st) := by
  obtain ⟨⟨p, l, e, R0, s, m, args, below, meth, co⟩, D', wl, A, nL0, cells, slots, Q⟩ := X
  obtain ⟨h1, h2, hK, hao⟩ := Kf
  dsimp only at h1 h2 hK
  subst h1
  subst h2
  subst hset
  intro H locs ls hP hD hS hl
  exact va_put (Ts := u_ws Cn T N) C.1 C.2.1 (fun w hw => C.2.2.2.2.2.1 w (ck.2.1 w hw).1 (ck.2.1 w hw).2 _) (fun _ h => h) ty ck.2.2.1 ck.2.2.2 C.2.2.2.2.1 hK hP hD hS q0 he ck.1 k hk (C.2.2.2.2.2.1 _ hw rfl _) (fun _ h => h) hfin (ck.2.2.1 k hk) hn hfit hl0 hdg (fun H1 locs1 hP hD hS => kk H1 locs1 ls hP hD hS hl)
theorem w_get (C : gF X cc own ret nL R) (Kf : wF X D cI cZ cA) {ci N index k a : Nat} {Cn : String} {T : u_T} {ty : Nat → FieldType} {fs : List Value} {v : Value} (q0 : Nat) (ck : clOK ci Cn T N ty) (he : ws[q0]? = some (a, .inr (ci, fs))) (hk : k < N) (hv : fs[k]? = some v) (hdg : decode cc pc = .ok (.getfield index, 3)) (hw : Cond.fieldLink own index (T k).1 (T k).2.1 (T k).2.2.1 ∈ lw_tbl)
    (kk : gG X ws (pc + 3) lv (v :: st)) : gG X ws pc lv (.ref a :: st) := by
  obtain ⟨⟨p, l, e, R0, s, m, args, below, meth, co⟩, D', wl, A, nL0, cells, slots, Q⟩ := X
  obtain ⟨h1, h2, hK, hao⟩ := Kf
  dsimp only at h1 h2 hK
  subst h1
  subst h2
  intro H locs ls hP hD hS hl
  exact va_get (Ts := u_ws Cn T N) C.1 C.2.1 (fun w hw => C.2.2.2.2.2.1 w (ck.2.1 w hw).1 (ck.2.1 w hw).2 _) (fun _ h => h) C.2.2.2.2.1 hK hP q0 he ck.1 k hk (C.2.2.2.2.2.1 _ hw rfl _) (fun _ h => h) hv hdg (kk H locs ls hP hD hS hl)
theorem w_iast (C : gF X cc own ret nL R) (Kf : wF X D cI cZ cA) {n a : Nat} {i v : Int32} {f : Nat → Int32} (q0 : Nat) (ws' : va_W) (he : ws[q0]? = some (a, .inl (cI, n, .inl f))) (hset : ws.set q0 (a, .inl (cI, n, .inl (upd f i.toNatClampNeg v))) = ws') (hin : vp_in i n) (hdg : decode cc pc = .ok (.iastore, 1)) (kk : gG X ws' (pc + 1) lv st) : gG X ws pc lv (.int v :: .int i :: .ref a :: st) := by
  obtain ⟨⟨p, l, e, R0, s, m, args, below, meth, co⟩, D', wl, A, nL0, cells, slots, Q⟩ := X
  obtain ⟨h1, h2, hK, hao⟩ := Kf
  dsimp only at h1 h2 hK
  subst h1
  subst h2
  subst hset
  intro H locs ls hP hD hS hl
  exact va_iast C.1 C.2.1 hK hP hD hS q0 0 he rfl hin hdg (fun H1 locs1 hP hD hS => kk H1 locs1 ls hP hD hS hl)
end WR
/-! a constructor's contract: from the empty object to the world w -/
def iPre (D : va_G) (cI cZ cA : ClassId) (w0 : va_W) (sz : Nat) (U : State) : Prop := U.heap.size = sz ∧ va_P D vwCl w0 U.heap ∧ va_K D vwCl [(cI, .int), (cZ, .boolean), (cA, .array .int)] U ∧ va_D (fun _ => True) w0 ∧ tbOK U ∧ va_AOA .int U
def iQ (D : va_G) (w : (Nat → Nat) → va_W) (A : Nat → Prop) : Array Value → State → Outcome → State → Prop := fun _ st oc t => (∃ r : Nat → Nat, oc = .returned none ∧ va_P D vwCl (w r) t.heap ∧ va_D A (w r)) ∧ va_F A st t
def iC (D : va_G) (cI cZ cA : ClassId) (l : Launch) (y : MethodName) (cc : ByteArray) (maxL : Nat) (rm : Room) (as : List Value) (w0 : va_W) (w : (Nat → Nat) → va_W) (mc ms : Nat) : Prop :=
  ∀ sz : Nat, Met l y [Cond.code y cc maxL none] rm (va_Pc as (iPre D cI cZ cA w0 sz)) (iQ D w (va_A w0 sz)) mc ms (va_A w0 sz)
theorem i_entry {D : va_G} {cI cZ cA : ClassId} {l : Launch} {y : MethodName} {cc : ByteArray} {maxL : Nat} {rm : Room} {as : List Value} {w0 : va_W} {w : (Nat → Nat) → va_W} {mc ms : Nat} {own : String} (ho : y.cls = own) (hn : y.name = "<init>") (hy : plainName y.cls = true) (hlen : (lg_sl as).length ≤ maxL)
    (body : ∀ X : Gx va_W, X.1.2.1 = l → X.1.2.2.2.2.2.2.2.2.1.name = "<init>" → gF X cc own none maxL rm → wF X D cI cZ cA → X.2.2.2.2.2.1 = 0 → X.2.2.2.2.2.2.1 = 0 → X.2.2.2.2.2.2.2 = MQ X.1.2.2.2.2.2.2.2.1 (iQ D w X.2.2.2.1) X.1.2.2.2.2.2.2.1 X.1.2.2.2.2.1 mc ms X.2.2.2.1 → gG X w0 0 (lv_args 0 as) []) : iC D cI cZ cA l y cc maxL rm as w0 w mc ms := by
  subst ho
  intro sz
  refine Met.ofW (cc := cc) (maxL := maxL) (ret := none) hy rfl ?_
  intro p e s m args below meth c s₁ B hml hv
  obtain ⟨rfl, hsz, hP, hK, hD0, htb, hao⟩ := hv
  subst hsz
  have hD := hD0.self (sz := s.heap.size)
  have hA : ∀ q : Nat, s.heap.size ≤ q → va_A w0 s.heap.size q := fun q h => Or.inr h
  have hl := lv_entry as (n := maxL) hlen
  have hin : meth.name = "<init>" := (name_of_methodNamed B.named B.method).1.trans hn
  rw [lg_entry_eq]
  exact body ((p, l, e, rm, s, m, as.toArray, below, meth, c), D, (fun w => w), va_A w0 s.heap.size, maxL, 0, 0, MQ below (iQ D w (va_A w0 s.heap.size)) as.toArray s mc ms (va_A w0 s.heap.size)) rfl hin
    ⟨B.exec, B.bytes, B.returns, hml, findClass_of_methodNamed B.named, htb, hA, B.notSynchronized, rfl, rfl, Nat.zero_le _, Nat.zero_le _⟩ ⟨rfl, rfl, hK, hao⟩ rfl rfl rfl s.heap [] _ hP hD va_S.rf hl
theorem i_ret {X : Gx va_W} {cc : ByteArray} {own : String} {nL : Nat} {R : Room} {ws : va_W} {pc : Nat} {lv : List (Nat × Value)} {D : va_G} {cI cZ cA : ClassId} {w : (Nat → Nat) → va_W} {mc ms : Nat} (C : gF X cc own none nL R) (Kf : wF X D cI cZ cA) (r : Nat → Nat) (hw : ws = w r) (hmc : X.2.2.2.2.2.1 = mc) (hms : X.2.2.2.2.2.2.1 = ms) (hQ : X.2.2.2.2.2.2.2 = MQ X.1.2.2.2.2.2.2.2.1 (iQ D w X.2.2.2.1) X.1.2.2.2.2.2.2.1 X.1.2.2.2.2.1 mc ms X.2.2.2.1) (hdg : decode cc pc = .ok (.return_, 1)) : gG X ws pc lv [] := by
  obtain ⟨⟨p, l, e, R0, s, m, args, below, meth, co⟩, D', wl, A, nL0, cells, slots, Q⟩ := X
  obtain ⟨h1, h2, hK, hao⟩ := Kf
  dsimp only at h1 h2 hK hmc hms hQ
  subst h1
  subst h2
  subst hmc
  subst hms
  subst hQ
  subst hw
  intro H locs ls hP hD hS hl
  exact W.vret C.1 C.2.1 C.2.2.1 (fun t ht hW => ⟨⟨r, rfl, by rw [ht]; exact hP, hD⟩, hS.F ht⟩) hS.2.2 hdg C.2.2.2.2.2.2.2.1
