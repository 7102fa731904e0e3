/-! my store, my worlds -/
abbrev St : Type := (Nat → Nat → Int32) × (Nat → Nat → Int64)
def wI (σ : St) (c k : Nat) (v : Int32) : St := (fun c' => if c' = c then upd (σ.1 c) k v else σ.1 c', σ.2)
def wL (σ : St) (c k : Nat) (v : Int64) : St := (σ.1, fun c' => if c' = c then vp_updL (σ.2 c) k v else σ.2 c')
abbrev Ly : Type := Nat → (Nat → Int32) → (Nat → Int64) → va_E
/-- a frame of worlds: the tables' numbers, addresses, layout, how many cells, array types, where the two static arrays lie -/
abbrev Kx : Type := va_G × (Nat → Nat) × Ly × Nat × List (ClassId × FieldType) × Nat × Nat
def kwl (K : Kx) (σ : St) : va_W := (List.range K.2.2.2.1).map (fun c => (K.2.1 c, K.2.2.1 c (σ.1 c) (σ.2 c)))
theorem kwl_at (K : Kx) (σ : St) {c : Nat} (h : c < K.2.2.2.1) : (kwl K σ)[c]? = some (K.2.1 c, K.2.2.1 c (σ.1 c) (σ.2 c)) := by
  simp [kwl, h]
theorem kwl_set (K : Kx) (σ σ' : St) {c : Nat} {e : va_E} (he : e = K.2.2.1 c (σ'.1 c) (σ'.2 c)) (ho : ∀ c', c' ≠ c → σ'.1 c' = σ.1 c' ∧ σ'.2 c' = σ.2 c') : (kwl K σ).set c (K.2.1 c, e) = kwl K σ' := by
  subst he
  apply List.ext_getElem?
  intro i
  rw [List.getElem?_set]
  by_cases hi : i < K.2.2.2.1
  · rw [kwl_at K σ' hi]
    by_cases hc : c = i
    · subst hc
      simp [kwl, hi]
    · rw [if_neg hc, kwl_at K σ hi, (ho i (fun e => hc e.symm)).1, (ho i (fun e => hc e.symm)).2]
  · have h1 : (kwl K σ').length ≤ i := by simp [kwl]; omega
    have h2 : (kwl K σ).length ≤ i := by simp [kwl]; omega
    rw [List.getElem?_eq_none h1]
    by_cases hc : c = i
    · subst hc
      simp [Nat.not_lt.mpr h2]
    · rw [if_neg hc, List.getElem?_eq_none h2]
theorem kwl_A (K : Kx) (σ σ' : St) (sz : Nat) : va_A (kwl K σ) sz = va_A (kwl K σ') sz := by
  funext q
  apply propext
  have key : ∀ a b : St, (∃ (k : Nat) (e : va_E), (kwl K a)[k]? = some (q, e)) → ∃ (k : Nat) (e : va_E), (kwl K b)[k]? = some (q, e) := by
    intro a b h
    obtain ⟨k, e, h⟩ := h
    have hk : k < K.2.2.2.1 := by
      have := (List.getElem?_eq_some_iff.mp h).1
      simpa [kwl] using this
    rw [kwl_at K a hk] at h
    cases h
    exact ⟨k, _, kwl_at K b hk⟩
  exact ⟨fun h => h.elim (fun h => Or.inl (key _ _ h)) Or.inr, fun h => h.elim (fun h => Or.inl (key _ _ h)) Or.inr⟩
theorem wI_ne (σ : St) (c k : Nat) (v : Int32) : ∀ c', c' ≠ c → (wI σ c k v).1 c' = σ.1 c' ∧ (wI σ c k v).2 c' = σ.2 c' := fun c' h => ⟨by simp [wI, h], rfl⟩
theorem wL_ne (σ : St) (c k : Nat) (v : Int64) : ∀ c', c' ≠ c → (wL σ c k v).1 c' = σ.1 c' ∧ (wL σ c k v).2 c' = σ.2 c' := fun c' h => ⟨rfl, by simp [wL, h]⟩
/-! the tables' words, in any state that a call comes to -/
def tbGood (w : Cond) : Bool := goodWord w || (match w with | .fieldLinkNest .. => true | .methodLinkNest .. => true | _ => false)
def tbOK (s : State) : Prop := ∀ w ∈ lw_tbl, tbGood w = true → ∀ a : Array Value, w.before a s = true
theorem tbOK.warm {s U : State} (hW : s.WarmedH U.vm) (h : tbOK s) : tbOK U := by
  intro w hw hg a
  have h0 := h w hw hg #[]
  cases hgw : goodWord w with
  | true => exact word_at hW (good_of_word hgw) h0
  | false =>
    cases w with
    | fieldLinkNest => exact va_Nw.use rfl (va_Nw.warmF hW h0)
    | methodLinkNest => exact va_Nw.use rfl (va_Nw.warmM hW h0)
    | _ => simp [tbGood, hgw] at hg
theorem tbOK.of {s : State} {args : Array Value} (h : ∀ w ∈ lw_tbl, w.before args s = true) : tbOK s := by
  intro w hw hg a
  have h0 := h w hw
  cases hgw : goodWord w with
  | true => exact word_at (State.WarmedH.refl s) (good_of_word hgw) h0
  | false =>
    cases w with
    | fieldLinkNest => exact va_Nw.use rfl (va_Nw.of rfl h0)
    | methodLinkNest => exact va_Nw.use rfl (va_Nw.of rfl h0)
    | _ => simp [tbGood, hgw] at hg
/-! the class's two static arrays -/
def sLet (j : Nat) : Int32 := [99, 120, 119, 100, 116, 109].getD j 0
def sWid (j : Nat) : Int32 := [0, 0, 0, 0, 2, 3].getD j 0
def stA (n : String) (a : Nat) (xs : Nat → Int32) (A : Nat → Prop) (s : State) : Prop := va_Z RX5 n "[I" (.ref a) A s s.heap ∧ va_X a 6 xs s s.heap ∧ a < s.heap.size ∧ ¬ A a
def stOK (K : Kx) (A : Nat → Prop) (s : State) : Prop := stA "LETTERS" K.2.2.2.2.2.1 sLet A s ∧ stA "WIDER" K.2.2.2.2.2.2 sWid A s
theorem stA.to {n : String} {a : Nat} {xs : Nat → Int32} {A B : Nat → Prop} {s U : State} {locs : List Loc} (h : stA n a xs A s) (hvm : s.vm.Alike U.vm) (hS : va_S A s.heap U.heap locs) (hB : ∀ q, B q → A q) : stA n a xs B U := by
  obtain ⟨h1, h2, h3, h4⟩ := h
  exact ⟨((h1.moved hvm).kept hS.2.1).narrow hB, (h2.moved hvm).kept (hS.2.1 a h3 h4), Nat.lt_of_lt_of_le h3 hS.1, fun z => h4 (hB a z)⟩
theorem stOK.to {K : Kx} {A B : Nat → Prop} {s U : State} {locs : List Loc} (h : stOK K A s) (hvm : s.vm.Alike U.vm) (hS : va_S A s.heap U.heap locs) (hB : ∀ q, B q → A q) : stOK K B U := ⟨h.1.to hvm hS hB, h.2.to hvm hS hB⟩
/-! a contract -/
def gPre (K : Kx) (σ : St) (sz : Nat) (U : State) : Prop := U.heap.size = sz ∧ va_P K.1 vwCl (kwl K σ) U.heap ∧ va_K K.1 vwCl K.2.2.2.2.1 U ∧ va_D (fun _ => True) (kwl K σ) ∧ tbOK U ∧ stOK K (va_A (kwl K σ) sz) U
def gPost (K : Kx) (σ' : St) (A : Nat → Prop) (t : State) : Prop := va_P K.1 vwCl (kwl K σ') t.heap ∧ va_D A (kwl K σ')
def gQ (K : Kx) (v : Option Value) (σ' : St) (A : Nat → Prop) : Array Value → State → Outcome → State → Prop := fun _ st oc t => (oc = .returned v ∧ gPost K σ' A t) ∧ va_F A st t
def mC (K : Kx) (l : Launch) (y : MethodName) (cc : ByteArray) (maxL : Nat) (ret : Option FieldType) (rm : Room) (as : List Value) (σ : St) (v : Option Value) (σ' : St) : Prop :=
  ∀ sz : Nat, Met l y [Cond.code y cc maxL ret] rm (va_Pc as (gPre K σ sz)) (gQ K v σ' (va_A (kwl K σ) sz)) 0 0 (va_A (kwl K σ) sz)
/-! the judgement: from every heap that holds the world σ the machine comes from here to Q -/
abbrev Gx (S : Type) : Type := (Program × Launch × Env × Room × State × MethodId × Array Value × List Frame × Method × Code) × va_G × (S → va_W) × (Nat → Prop) × Nat × Nat × Nat × (State → Prop)
def gG {S : Type} (X : Gx S) (σ : S) (pc : Nat) (lv : List (Nat × Value)) (st : List Value) : Prop :=
  ∀ (H : Heap) (locs : List Loc) (ls : Array Slot), va_P X.2.1 vwCl (X.2.2.1 σ) H → va_D X.2.2.2.1 (X.2.2.1 σ) → va_S X.2.2.2.1 X.1.2.2.2.2.1.heap H locs → lv_has ls X.2.2.2.2.1 lv →
    W X.1.1 X.1.2.1 X.1.2.2.1 X.1.2.2.2.1 X.1.2.2.2.2.1 X.1.2.2.2.2.2.1 X.1.2.2.2.2.2.2.1 X.1.2.2.2.2.2.2.2.1 X.1.2.2.2.2.2.2.2.2.1 X.1.2.2.2.2.2.2.2.2.2 H locs X.2.2.2.2.2.1 X.2.2.2.2.2.2.1 X.2.2.2.2.2.2.2 (F0 X.1.2.2.2.2.2.1 pc ls st)
def gF {S : Type} (X : Gx S) (cc : ByteArray) (own : String) (ret : Option FieldType) (nL : Nat) (R : Room) : Prop :=
  X.1.1.tables.exec = Jvm.exec ∧ X.1.2.2.2.2.2.2.2.2.2.code = cc ∧ X.1.2.2.2.2.2.2.2.2.1.sig.returnType = ret ∧ X.1.2.2.2.2.2.2.2.2.2.maxLocals = X.2.2.2.2.1 ∧ X.1.2.2.2.2.1.vm.findClass own = some X.1.2.2.2.2.2.1.cls ∧ tbOK X.1.2.2.2.2.1 ∧ (∀ q : Nat, X.1.2.2.2.2.1.heap.size ≤ q → X.2.2.2.1 q) ∧ X.1.2.2.2.2.2.2.2.2.1.locks = false ∧ X.2.2.2.2.1 = nL ∧ X.1.2.2.2.1 = R ∧ X.2.2.2.2.2.1 ≤ X.1.2.2.2.1.cells ∧ X.2.2.2.2.2.2.1 ≤ X.1.2.2.2.1.slots
def kF (X : Gx St) (K : Kx) : Prop := X.2.1 = K.1 ∧ X.2.2.1 = kwl K ∧ va_K K.1 vwCl K.2.2.2.2.1 X.1.2.2.2.2.1 ∧ stOK K X.2.2.2.1 X.1.2.2.2.2.1
def gR (X : Gx St) (K : Kx) (v : Option Value) (σ' : St) : Prop := X.2.2.2.2.2.1 = 0 ∧ X.2.2.2.2.2.2.1 = 0 ∧ X.2.2.2.2.2.2.2 = MQ X.1.2.2.2.2.2.2.2.1 (gQ K v σ' X.2.2.2.1) X.1.2.2.2.2.2.2.1 X.1.2.2.2.2.1 0 0 X.2.2.2.1
/-! words of pure functions -/
def bnd {α β : Type} (a : α) (F : α → β) : β := F a
def gi {β : Type} (i : Int32) (n : Nat) (x : Option β) : Option β := if i < 0 ∨ n ≤ i.toNatClampNeg then none else x
def nz {β : Type} (d : Int32) (x : Option β) : Option β := if d = 0 then none else x
def nzl {β : Type} (d : Int64) (x : Option β) : Option β := if d = 0 then none else x
def bz {β : Type} (v : Int32) (x : Option β) : Option β := if v = 0 ∨ v = 1 then x else none
def b2 {α β : Type} (x : Option (α × St)) (F : α → St → Option β) : Option β := match x with | none => none | some (r, σ) => F r σ
def b1 {α β : Type} (x : Option α) (F : α → Option β) : Option β := match x with | none => none | some r => F r
def jn {α β : Type} (J : α) (F : α → β) : β := F J
theorem gi_some {β : Type} {i : Int32} {n : Nat} {x : Option β} {o : β} (h : gi i n x = some o) : vp_in i n ∧ x = some o := by
  unfold gi at h
  by_cases c : i < 0 ∨ n ≤ i.toNatClampNeg
  · rw [if_pos c] at h; cases h
  · rw [if_neg c] at h; exact ⟨c, h⟩
theorem nz_some {β : Type} {d : Int32} {x : Option β} {o : β} (h : nz d x = some o) : ¬ d = 0 ∧ x = some o := by
  unfold nz at h
  by_cases c : d = 0
  · rw [if_pos c] at h; cases h
  · rw [if_neg c] at h; exact ⟨c, h⟩
theorem nzl_some {β : Type} {d : Int64} {x : Option β} {o : β} (h : nzl d x = some o) : ¬ d = 0 ∧ x = some o := by
  unfold nzl at h
  by_cases c : d = 0
  · rw [if_pos c] at h; cases h
  · rw [if_neg c] at h; exact ⟨c, h⟩
theorem bz_some {β : Type} {v : Int32} {x : Option β} {o : β} (h : bz v x = some o) : (v = 0 ∨ v = 1) ∧ x = some o := by
  unfold bz at h
  by_cases c : v = 0 ∨ v = 1
  · rw [if_pos c] at h; exact ⟨c, h⟩
  · rw [if_neg c] at h; cases h
theorem b2_some {α β : Type} {x : Option (α × St)} {F : α → St → Option β} {o : β} (h : b2 x F = some o) : ∃ r σ, x = some (r, σ) ∧ F r σ = some o := by
  cases x with
  | none => cases h
  | some q => exact ⟨q.1, q.2, rfl, h⟩
theorem b1_some {α β : Type} {x : Option α} {F : α → Option β} {o : β} (h : b1 x F = some o) : ∃ r, x = some r ∧ F r = some o := by
  cases x with
  | none => cases h
  | some q => exact ⟨q, rfl, h⟩
theorem if_cg {β : Type} {p q : Prop} [Decidable p] [Decidable q] (h : p ↔ q) {a b : β} : (if p then a else b) = if q then a else b := by
  by_cases hp : p
  · rw [if_pos hp, if_pos (h.mp hp)]
  · rw [if_neg hp, if_neg (fun z => hp (h.mpr z))]
theorem nar_b {v : Int32} (h : v = 0 ∨ v = 1) : narrow .boolean (.int v) = .int v := by
  rcases h with rfl | rfl <;> rfl
section GR
variable {S : Type} {X : Gx S} {cc : ByteArray} {own : String} {ret : Option FieldType} {nL : Nat} {R : Room} {σ : S} {pc : Nat} {lv : List (Nat × Value)} {st : List Value} {α : Type} {o : α}
theorem g_cut {lv' : List (Nat × Value)} (ks : List Nat) (hl : lv_pick lv ks = lv') (k : gG X σ pc lv' st) : gG X σ pc lv st := fun H locs ls hP hD hS h => k H locs ls hP hD hS (lv_sub h ks hl)
theorem g_iconst (C : gF X cc own ret nL R) {n : Int} {v : Int32} (hdg : decode cc pc = .ok (.iconst n, 1)) (hv : Int32.ofInt n = v) (k : gG X σ (pc + 1) lv (.int v :: st)) : gG X σ pc lv st :=
  fun H locs ls hP hD hS hl => lv_iconst C.1 C.2.1 hdg hv (k H locs ls hP hD hS hl)
theorem g_bipush (C : gF X cc own ret nL R) {n : Int} {v : Int32} (hdg : decode cc pc = .ok (.bipush n, 2)) (hv : (Int8.ofInt n).toInt32 = v) (k : gG X σ (pc + 2) lv (.int v :: st)) : gG X σ pc lv st :=
  fun H locs ls hP hD hS hl => lv_bipush C.1 C.2.1 hdg hv (k H locs ls hP hD hS hl)
theorem g_sipush (C : gF X cc own ret nL R) {n : Int} {v : Int32} (hdg : decode cc pc = .ok (.sipush n, 3)) (hv : (Int16.ofInt n).toInt32 = v) (k : gG X σ (pc + 3) lv (.int v :: st)) : gG X σ pc lv st :=
  fun H locs ls hP hD hS hl => lv_sipush C.1 C.2.1 hdg hv (k H locs ls hP hD hS hl)
theorem g_lconst (C : gF X cc own ret nL R) {n : Fin 2} {v : Int64} (hdg : decode cc pc = .ok (.lconst n, 1)) (hv : Int64.ofNat (n : Nat) = v) (k : gG X σ (pc + 1) lv (.long v :: st)) : gG X σ pc lv st :=
  fun H locs ls hP hD hS hl => lv_lconst C.1 C.2.1 hdg hv (k H locs ls hP hD hS hl)
theorem g_ldc2 (C : gF X cc own ret nL R) {index : Nat} {v : Int64} (hdg : decode cc pc = .ok (.ldc2_w index, 3)) (hw : Cond.constantLong own index v ∈ lw_tbl) (k : gG X σ (pc + 3) lv (.long v :: st)) : gG X σ pc lv st :=
  fun H locs ls hP hD hS hl => lv_ldc2 C.1 C.2.1 C.2.2.2.2.1 (C.2.2.2.2.2.1 _ hw rfl _) hdg (k H locs ls hP hD hS hl)
theorem g_iload_n (C : gF X cc own ret nL R) {q : Fin 4} {x : Int32} (j : Nat) (hdg : decode cc pc = .ok (.iload_n q, 1)) (hv : lv[j]? = some ((q : Nat), .int x)) (k : gG X σ (pc + 1) lv (.int x :: st)) : gG X σ pc lv st :=
  fun H locs ls hP hD hS hl => lv_iload_n C.1 C.2.1 hdg rfl (lv_at hl j hv) (k H locs ls hP hD hS hl)
theorem g_iload (C : gF X cc own ret nL R) {i : Nat} {x : Int32} (j : Nat) (hdg : decode cc pc = .ok (.iload i, 2)) (hv : lv[j]? = some (i, .int x)) (k : gG X σ (pc + 2) lv (.int x :: st)) : gG X σ pc lv st :=
  fun H locs ls hP hD hS hl => lv_iload C.1 C.2.1 hdg (lv_at hl j hv) (k H locs ls hP hD hS hl)
theorem g_lload_n (C : gF X cc own ret nL R) {q : Fin 4} {x : Int64} (j : Nat) (hdg : decode cc pc = .ok (.lload_n q, 1)) (hv : lv[j]? = some ((q : Nat), .long x)) (k : gG X σ (pc + 1) lv (.long x :: st)) : gG X σ pc lv st :=
  fun H locs ls hP hD hS hl => lv_lload_n C.1 C.2.1 hdg rfl (lv_at hl j hv) (k H locs ls hP hD hS hl)
theorem g_lload (C : gF X cc own ret nL R) {i : Nat} {x : Int64} (j : Nat) (hdg : decode cc pc = .ok (.lload i, 2)) (hv : lv[j]? = some (i, .long x)) (k : gG X σ (pc + 2) lv (.long x :: st)) : gG X σ pc lv st :=
  fun H locs ls hP hD hS hl => lv_lload C.1 C.2.1 hdg (lv_at hl j hv) (k H locs ls hP hD hS hl)
theorem g_aload_n (C : gF X cc own ret nL R) {q : Fin 4} {x : Nat} (j : Nat) (hdg : decode cc pc = .ok (.aload_n q, 1)) (hv : lv[j]? = some ((q : Nat), .ref x)) (k : gG X σ (pc + 1) lv (.ref x :: st)) : gG X σ pc lv st :=
  fun H locs ls hP hD hS hl => lv_aload_n C.1 C.2.1 hdg rfl (lv_at hl j hv) (k H locs ls hP hD hS hl)
theorem g_aload (C : gF X cc own ret nL R) {i : Nat} {x : Nat} (j : Nat) (hdg : decode cc pc = .ok (.aload i, 2)) (hv : lv[j]? = some (i, .ref x)) (k : gG X σ (pc + 2) lv (.ref x :: st)) : gG X σ pc lv st :=
  fun H locs ls hP hD hS hl => lv_aload C.1 C.2.1 hdg (lv_at hl j hv) (k H locs ls hP hD hS hl)
theorem g_istore (C : gF X cc own ret nL R) {i : Nat} {x : Int32} (lv' : List (Nat × Value)) (hdg : decode cc pc = .ok (.istore i, 2)) (hn : i < nL) (hv : (i, Value.int x) :: lv.filter (fun q => !(q.1 == i) && !(q.1 + 1 == i && q.2.category == 2)) = lv') (k : gG X σ (pc + 2) lv' st) : gG X σ pc lv (.int x :: st) :=
  fun H locs ls hP hD hS hl => lv_istore C.1 C.2.1 hdg hl (by rw [C.2.2.2.2.2.2.2.2.1]; exact hn) hv (fun ls' hl => (k H locs ls' hP hD hS hl))
theorem g_istore_n (C : gF X cc own ret nL R) {q : Fin 4} {i : Nat} {x : Int32} (lv' : List (Nat × Value)) (hdg : decode cc pc = .ok (.istore_n q, 1)) (hi : (q : Nat) = i) (hn : i < nL) (hv : (i, Value.int x) :: lv.filter (fun q => !(q.1 == i) && !(q.1 + 1 == i && q.2.category == 2)) = lv') (k : gG X σ (pc + 1) lv' st) : gG X σ pc lv (.int x :: st) :=
  fun H locs ls hP hD hS hl => lv_istore_n C.1 C.2.1 hdg hi hl (by rw [C.2.2.2.2.2.2.2.2.1]; exact hn) hv (fun ls' hl => (k H locs ls' hP hD hS hl))
theorem g_istoreB (C : gF X cc own ret nL R) {i : Nat} {x : Int32} {F : Int32 → Option α} (L : Int32 → List (Nat × Value)) (hdg : decode cc pc = .ok (.istore i, 2)) (hn : i < nL) (hv : ∀ x, (i, Value.int x) :: lv.filter (fun q => !(q.1 == i) && !(q.1 + 1 == i && q.2.category == 2)) = L x) (hf : bnd x F = some o) (k : ∀ x, F x = some o → gG X σ (pc + 2) (L x) st) : gG X σ pc lv (.int x :: st) :=
  g_istore C (L x) hdg hn (hv x) (k x hf)
theorem g_istore_nB (C : gF X cc own ret nL R) {q : Fin 4} {i : Nat} {x : Int32} {F : Int32 → Option α} (L : Int32 → List (Nat × Value)) (hdg : decode cc pc = .ok (.istore_n q, 1)) (hi : (q : Nat) = i) (hn : i < nL) (hv : ∀ x, (i, Value.int x) :: lv.filter (fun q => !(q.1 == i) && !(q.1 + 1 == i && q.2.category == 2)) = L x) (hf : bnd x F = some o) (k : ∀ x, F x = some o → gG X σ (pc + 1) (L x) st) : gG X σ pc lv (.int x :: st) :=
  g_istore_n C (L x) hdg hi hn (hv x) (k x hf)
theorem g_lstore (C : gF X cc own ret nL R) {i : Nat} {x : Int64} (lv' : List (Nat × Value)) (hdg : decode cc pc = .ok (.lstore i, 2)) (hn : i + 1 < nL) (hv : (i, Value.long x) :: lv.filter (fun q => !(q.1 == i) && (!(q.1 == i + 1) && !(q.1 + 1 == i && q.2.category == 2))) = lv') (k : gG X σ (pc + 2) lv' st) : gG X σ pc lv (.long x :: st) :=
  fun H locs ls hP hD hS hl => lv_lstore C.1 C.2.1 hdg hl (by rw [C.2.2.2.2.2.2.2.2.1]; exact hn) hv (fun ls' hl => (k H locs ls' hP hD hS hl))
theorem g_lstore_n (C : gF X cc own ret nL R) {q : Fin 4} {i : Nat} {x : Int64} (lv' : List (Nat × Value)) (hdg : decode cc pc = .ok (.lstore_n q, 1)) (hi : (q : Nat) = i) (hn : i + 1 < nL) (hv : (i, Value.long x) :: lv.filter (fun q => !(q.1 == i) && (!(q.1 == i + 1) && !(q.1 + 1 == i && q.2.category == 2))) = lv') (k : gG X σ (pc + 1) lv' st) : gG X σ pc lv (.long x :: st) :=
  fun H locs ls hP hD hS hl => lv_lstore_n C.1 C.2.1 hdg hi hl (by rw [C.2.2.2.2.2.2.2.2.1]; exact hn) hv (fun ls' hl => (k H locs ls' hP hD hS hl))
theorem g_lstoreB (C : gF X cc own ret nL R) {i : Nat} {x : Int64} {F : Int64 → Option α} (L : Int64 → List (Nat × Value)) (hdg : decode cc pc = .ok (.lstore i, 2)) (hn : i + 1 < nL) (hv : ∀ x, (i, Value.long x) :: lv.filter (fun q => !(q.1 == i) && (!(q.1 == i + 1) && !(q.1 + 1 == i && q.2.category == 2))) = L x) (hf : bnd x F = some o) (k : ∀ x, F x = some o → gG X σ (pc + 2) (L x) st) : gG X σ pc lv (.long x :: st) :=
  g_lstore C (L x) hdg hn (hv x) (k x hf)
theorem g_lstore_nB (C : gF X cc own ret nL R) {q : Fin 4} {i : Nat} {x : Int64} {F : Int64 → Option α} (L : Int64 → List (Nat × Value)) (hdg : decode cc pc = .ok (.lstore_n q, 1)) (hi : (q : Nat) = i) (hn : i + 1 < nL) (hv : ∀ x, (i, Value.long x) :: lv.filter (fun q => !(q.1 == i) && (!(q.1 == i + 1) && !(q.1 + 1 == i && q.2.category == 2))) = L x) (hf : bnd x F = some o) (k : ∀ x, F x = some o → gG X σ (pc + 1) (L x) st) : gG X σ pc lv (.long x :: st) :=
  g_lstore_n C (L x) hdg hi hn (hv x) (k x hf)
theorem g_astore (C : gF X cc own ret nL R) {i : Nat} {x : Nat} (lv' : List (Nat × Value)) (hdg : decode cc pc = .ok (.astore i, 2)) (hn : i < nL) (hv : (i, Value.ref x) :: lv.filter (fun q => !(q.1 == i) && !(q.1 + 1 == i && q.2.category == 2)) = lv') (k : gG X σ (pc + 2) lv' st) : gG X σ pc lv (.ref x :: st) :=
  fun H locs ls hP hD hS hl => lv_astore C.1 C.2.1 hdg hl (by rw [C.2.2.2.2.2.2.2.2.1]; exact hn) hv (fun ls' hl => (k H locs ls' hP hD hS hl))
theorem g_astore_n (C : gF X cc own ret nL R) {q : Fin 4} {i : Nat} {x : Nat} (lv' : List (Nat × Value)) (hdg : decode cc pc = .ok (.astore_n q, 1)) (hi : (q : Nat) = i) (hn : i < nL) (hv : (i, Value.ref x) :: lv.filter (fun q => !(q.1 == i) && !(q.1 + 1 == i && q.2.category == 2)) = lv') (k : gG X σ (pc + 1) lv' st) : gG X σ pc lv (.ref x :: st) :=
  fun H locs ls hP hD hS hl => lv_astore_n C.1 C.2.1 hdg hi hl (by rw [C.2.2.2.2.2.2.2.2.1]; exact hn) hv (fun ls' hl => (k H locs ls' hP hD hS hl))
theorem g_astoreB (C : gF X cc own ret nL R) {i : Nat} {x : Nat} {F : Nat → Option α} (L : Nat → List (Nat × Value)) (hdg : decode cc pc = .ok (.astore i, 2)) (hn : i < nL) (hv : ∀ x, (i, Value.ref x) :: lv.filter (fun q => !(q.1 == i) && !(q.1 + 1 == i && q.2.category == 2)) = L x) (hf : bnd x F = some o) (k : ∀ x, F x = some o → gG X σ (pc + 2) (L x) st) : gG X σ pc lv (.ref x :: st) :=
  g_astore C (L x) hdg hn (hv x) (k x hf)
theorem g_astore_nB (C : gF X cc own ret nL R) {q : Fin 4} {i : Nat} {x : Nat} {F : Nat → Option α} (L : Nat → List (Nat × Value)) (hdg : decode cc pc = .ok (.astore_n q, 1)) (hi : (q : Nat) = i) (hn : i < nL) (hv : ∀ x, (i, Value.ref x) :: lv.filter (fun q => !(q.1 == i) && !(q.1 + 1 == i && q.2.category == 2)) = L x) (hf : bnd x F = some o) (k : ∀ x, F x = some o → gG X σ (pc + 1) (L x) st) : gG X σ pc lv (.ref x :: st) :=
  g_astore_n C (L x) hdg hi hn (hv x) (k x hf)
theorem g_iinc (C : gF X cc own ret nL R) {i : Nat} {n : Int} {x d : Int32} {F : Int32 → Option α} (j : Nat) (L : Int32 → List (Nat × Value)) (hdg : decode cc pc = .ok (.iinc i n, 3)) (hk : lv[j]? = some (i, .int x)) (hd : Int32.ofInt n = d) (hn : i < nL) (hv : ∀ x, (i, Value.int x) :: lv.filter (fun q => !(q.1 == i) && !(q.1 + 1 == i && q.2.category == 2)) = L x) (hf : bnd (x + d) F = some o) (k : ∀ x, F x = some o → gG X σ (pc + 3) (L x) st) : gG X σ pc lv st :=
  fun H locs ls hP hD hS hl => lv_iinc (v := x + d) C.1 C.2.1 hdg hl hk (by rw [hd]) (by rw [C.2.2.2.2.2.2.2.2.1]; exact hn) (hv _) (fun ls' hl => k _ hf H locs ls' hP hD hS hl)
theorem g_iadd (C : gF X cc own ret nL R) {x y : Int32} (hdg : decode cc pc = .ok (.iadd, 1)) (k : gG X σ (pc + 1) lv (.int (x + y) :: st)) : gG X σ pc lv (.int y :: .int x :: st) :=
  fun H locs ls hP hD hS hl => lv_iadd C.1 C.2.1 hdg (k H locs ls hP hD hS hl)
theorem g_isub (C : gF X cc own ret nL R) {x y : Int32} (hdg : decode cc pc = .ok (.isub, 1)) (k : gG X σ (pc + 1) lv (.int (x - y) :: st)) : gG X σ pc lv (.int y :: .int x :: st) :=
  fun H locs ls hP hD hS hl => lv_isub C.1 C.2.1 hdg (k H locs ls hP hD hS hl)
theorem g_imul (C : gF X cc own ret nL R) {x y : Int32} (hdg : decode cc pc = .ok (.imul, 1)) (k : gG X σ (pc + 1) lv (.int (x * y) :: st)) : gG X σ pc lv (.int y :: .int x :: st) :=
  fun H locs ls hP hD hS hl => lv_imul C.1 C.2.1 hdg (k H locs ls hP hD hS hl)
theorem g_iand (C : gF X cc own ret nL R) {x y : Int32} (hdg : decode cc pc = .ok (.iand, 1)) (k : gG X σ (pc + 1) lv (.int (x &&& y) :: st)) : gG X σ pc lv (.int y :: .int x :: st) :=
  fun H locs ls hP hD hS hl => lv_iand C.1 C.2.1 hdg (k H locs ls hP hD hS hl)
theorem g_ior (C : gF X cc own ret nL R) {x y : Int32} (hdg : decode cc pc = .ok (.ior, 1)) (k : gG X σ (pc + 1) lv (.int (x ||| y) :: st)) : gG X σ pc lv (.int y :: .int x :: st) :=
  fun H locs ls hP hD hS hl => lv_ior C.1 C.2.1 hdg (k H locs ls hP hD hS hl)
theorem g_ixor (C : gF X cc own ret nL R) {x y : Int32} (hdg : decode cc pc = .ok (.ixor, 1)) (k : gG X σ (pc + 1) lv (.int (x ^^^ y) :: st)) : gG X σ pc lv (.int y :: .int x :: st) :=
  fun H locs ls hP hD hS hl => lv_ixor C.1 C.2.1 hdg (k H locs ls hP hD hS hl)
theorem g_ishl (C : gF X cc own ret nL R) {x y : Int32} (hdg : decode cc pc = .ok (.ishl, 1)) (k : gG X σ (pc + 1) lv (.int (x <<< (y &&& 31)) :: st)) : gG X σ pc lv (.int y :: .int x :: st) :=
  fun H locs ls hP hD hS hl => lv_ishl C.1 C.2.1 hdg (k H locs ls hP hD hS hl)
theorem g_ishr (C : gF X cc own ret nL R) {x y : Int32} (hdg : decode cc pc = .ok (.ishr, 1)) (k : gG X σ (pc + 1) lv (.int (x >>> (y &&& 31)) :: st)) : gG X σ pc lv (.int y :: .int x :: st) :=
  fun H locs ls hP hD hS hl => lv_ishr C.1 C.2.1 hdg (k H locs ls hP hD hS hl)
theorem g_ladd (C : gF X cc own ret nL R) {x y : Int64} (hdg : decode cc pc = .ok (.ladd, 1)) (k : gG X σ (pc + 1) lv (.long (x + y) :: st)) : gG X σ pc lv (.long y :: .long x :: st) :=
  fun H locs ls hP hD hS hl => lv_ladd C.1 C.2.1 hdg (k H locs ls hP hD hS hl)
theorem g_lmul (C : gF X cc own ret nL R) {x y : Int64} (hdg : decode cc pc = .ok (.lmul, 1)) (k : gG X σ (pc + 1) lv (.long (x * y) :: st)) : gG X σ pc lv (.long y :: .long x :: st) :=
  fun H locs ls hP hD hS hl => lv_lmul C.1 C.2.1 hdg (k H locs ls hP hD hS hl)
theorem g_lsub (C : gF X cc own ret nL R) {x y : Int64} (hdg : decode cc pc = .ok (.lsub, 1)) (k : gG X σ (pc + 1) lv (.long (x - y) :: st)) : gG X σ pc lv (.long y :: .long x :: st) :=
  fun H locs ls hP hD hS hl => lv_lsub C.1 C.2.1 hdg (k H locs ls hP hD hS hl)
theorem g_idiv0 (C : gF X cc own ret nL R) {x y : Int32} (hdg : decode cc pc = .ok (.idiv, 1)) (hne : ¬ y = 0) (k : gG X σ (pc + 1) lv (.int (x / y) :: st)) : gG X σ pc lv (.int y :: .int x :: st) :=
  fun H locs ls hP hD hS hl => lv_idiv C.1 C.2.1 hdg hne (k H locs ls hP hD hS hl)
theorem g_idiv (C : gF X cc own ret nL R) {x y : Int32} {Y : Option α} (hdg : decode cc pc = .ok (.idiv, 1)) (hf : nz y Y = some o) (k : Y = some o → gG X σ (pc + 1) lv (.int (x / y) :: st)) : gG X σ pc lv (.int y :: .int x :: st) :=
  g_idiv0 C hdg (nz_some hf).1 (k (nz_some hf).2)
theorem g_irem0 (C : gF X cc own ret nL R) {x y : Int32} (hdg : decode cc pc = .ok (.irem, 1)) (hne : ¬ y = 0) (k : gG X σ (pc + 1) lv (.int (x - x / y * y) :: st)) : gG X σ pc lv (.int y :: .int x :: st) :=
  fun H locs ls hP hD hS hl => lv_irem C.1 C.2.1 hdg hne (k H locs ls hP hD hS hl)
theorem g_irem (C : gF X cc own ret nL R) {x y : Int32} {Y : Option α} (hdg : decode cc pc = .ok (.irem, 1)) (hf : nz y Y = some o) (k : Y = some o → gG X σ (pc + 1) lv (.int (x - x / y * y) :: st)) : gG X σ pc lv (.int y :: .int x :: st) :=
  g_irem0 C hdg (nz_some hf).1 (k (nz_some hf).2)
theorem g_ldiv0 (C : gF X cc own ret nL R) {x y : Int64} (hdg : decode cc pc = .ok (.ldiv, 1)) (hne : ¬ y = 0) (k : gG X σ (pc + 1) lv (.long (x / y) :: st)) : gG X σ pc lv (.long y :: .long x :: st) :=
  fun H locs ls hP hD hS hl => lv_ldiv C.1 C.2.1 hdg hne (k H locs ls hP hD hS hl)
theorem g_ldiv (C : gF X cc own ret nL R) {x y : Int64} {Y : Option α} (hdg : decode cc pc = .ok (.ldiv, 1)) (hf : nzl y Y = some o) (k : Y = some o → gG X σ (pc + 1) lv (.long (x / y) :: st)) : gG X σ pc lv (.long y :: .long x :: st) :=
  g_ldiv0 C hdg (nzl_some hf).1 (k (nzl_some hf).2)
theorem g_lrem0 (C : gF X cc own ret nL R) {x y : Int64} (hdg : decode cc pc = .ok (.lrem, 1)) (hne : ¬ y = 0) (k : gG X σ (pc + 1) lv (.long (x - x / y * y) :: st)) : gG X σ pc lv (.long y :: .long x :: st) :=
  fun H locs ls hP hD hS hl => lv_lrem C.1 C.2.1 hdg hne (k H locs ls hP hD hS hl)
theorem g_lrem (C : gF X cc own ret nL R) {x y : Int64} {Y : Option α} (hdg : decode cc pc = .ok (.lrem, 1)) (hf : nzl y Y = some o) (k : Y = some o → gG X σ (pc + 1) lv (.long (x - x / y * y) :: st)) : gG X σ pc lv (.long y :: .long x :: st) :=
  g_lrem0 C hdg (nzl_some hf).1 (k (nzl_some hf).2)
theorem g_i2l (C : gF X cc own ret nL R) {x : Int32} (hdg : decode cc pc = .ok (.i2l, 1)) (k : gG X σ (pc + 1) lv (.long (x.toInt64) :: st)) : gG X σ pc lv (.int x :: st) :=
  fun H locs ls hP hD hS hl => lv_i2l C.1 C.2.1 hdg rfl (k H locs ls hP hD hS hl)
theorem g_l2i (C : gF X cc own ret nL R) {x : Int64} (hdg : decode cc pc = .ok (.l2i, 1)) (k : gG X σ (pc + 1) lv (.int (x.toInt32) :: st)) : gG X σ pc lv (.long x :: st) :=
  fun H locs ls hP hD hS hl => lv_l2i C.1 C.2.1 hdg rfl (k H locs ls hP hD hS hl)
theorem g_i2b (C : gF X cc own ret nL R) {x : Int32} (hdg : decode cc pc = .ok (.i2b, 1)) (k : gG X σ (pc + 1) lv (.int (x.toInt8.toInt32) :: st)) : gG X σ pc lv (.int x :: st) :=
  fun H locs ls hP hD hS hl => lv_i2b C.1 C.2.1 hdg rfl (k H locs ls hP hD hS hl)
theorem g_dup (C : gF X cc own ret nL R) {v : Value} (hdg : decode cc pc = .ok (.dup, 1)) (hv : v.category = 1) (k : gG X σ (pc + 1) lv (v :: v :: st)) : gG X σ pc lv (v :: st) :=
  fun H locs ls hP hD hS hl => lv_dup C.1 C.2.1 hdg hv (k H locs ls hP hD hS hl)
theorem g_dup2 (C : gF X cc own ret nL R) {v u : Value} (hdg : decode cc pc = .ok (.dup2, 1)) (hv : v.category = 1) (hu : u.category = 1) (k : gG X σ (pc + 1) lv (v :: u :: v :: u :: st)) : gG X σ pc lv (v :: u :: st) :=
  fun H locs ls hP hD hS hl => lv_dup2_11 C.1 C.2.1 hdg hv hu (k H locs ls hP hD hS hl)
theorem g_pop (C : gF X cc own ret nL R) {v : Value} (hdg : decode cc pc = .ok (.pop, 1)) (hv : v.category = 1) (k : gG X σ (pc + 1) lv st) : gG X σ pc lv (v :: st) :=
  fun H locs ls hP hD hS hl => lv_pop C.1 C.2.1 hdg hv (k H locs ls hP hD hS hl)
theorem g_goto (C : gF X cc own ret nL R) {off : Int} (tgt : Nat) (hdg : decode cc pc = .ok (.goto off, 3)) (ht : (pc : Int) + off = (tgt : Int)) (k : gG X σ tgt lv st) : gG X σ pc lv st :=
  fun H locs ls hP hD hS hl => lv_goto C.1 C.2.1 hdg ht (k H locs ls hP hD hS hl)
theorem g_if_eq (C : gF X cc own ret nL R) {x : Int32} {off : Int} {Y N : Option α} (tgt : Nat) (hdg : decode cc pc = .ok (.ifCond .eq off, 3)) (ht : (pc : Int) + off = (tgt : Int)) (hf : (if x = 0 then Y else N) = some o) (kt : Y = some o → gG X σ tgt lv st) (kf : N = some o → gG X σ (pc + 3) lv st) : gG X σ pc lv (.int x :: st) :=
  fun H locs ls hP hD hS hl => lv_if_eq C.1 C.2.1 hdg ht (fun h => kt (by rw [if_pos h] at hf; exact hf) H locs ls hP hD hS hl) (fun h => kf (by rw [if_neg h] at hf; exact hf) H locs ls hP hD hS hl)
theorem g_icmp_eq (C : gF X cc own ret nL R) {x y : Int32} {off : Int} {Y N : Option α} (tgt : Nat) (hdg : decode cc pc = .ok (.if_icmp .eq off, 3)) (ht : (pc : Int) + off = (tgt : Int)) (hf : (if x = y then Y else N) = some o) (kt : Y = some o → gG X σ tgt lv st) (kf : N = some o → gG X σ (pc + 3) lv st) : gG X σ pc lv (.int y :: .int x :: st) :=
  fun H locs ls hP hD hS hl => lv_icmp_eq C.1 C.2.1 hdg ht (fun h => kt (by rw [if_pos h] at hf; exact hf) H locs ls hP hD hS hl) (fun h => kf (by rw [if_neg h] at hf; exact hf) H locs ls hP hD hS hl)
theorem g_if_ne (C : gF X cc own ret nL R) {x : Int32} {off : Int} {Y N : Option α} (tgt : Nat) (hdg : decode cc pc = .ok (.ifCond .ne off, 3)) (ht : (pc : Int) + off = (tgt : Int)) (hf : (if x = 0 then N else Y) = some o) (kt : Y = some o → gG X σ tgt lv st) (kf : N = some o → gG X σ (pc + 3) lv st) : gG X σ pc lv (.int x :: st) :=
  fun H locs ls hP hD hS hl => lv_if_ne C.1 C.2.1 hdg ht (fun h => kt (by rw [if_neg h] at hf; exact hf) H locs ls hP hD hS hl) (fun h => kf (by rw [if_pos h] at hf; exact hf) H locs ls hP hD hS hl)
theorem g_icmp_ne (C : gF X cc own ret nL R) {x y : Int32} {off : Int} {Y N : Option α} (tgt : Nat) (hdg : decode cc pc = .ok (.if_icmp .ne off, 3)) (ht : (pc : Int) + off = (tgt : Int)) (hf : (if x = y then N else Y) = some o) (kt : Y = some o → gG X σ tgt lv st) (kf : N = some o → gG X σ (pc + 3) lv st) : gG X σ pc lv (.int y :: .int x :: st) :=
  fun H locs ls hP hD hS hl => lv_icmp_ne C.1 C.2.1 hdg ht (fun h => kt (by rw [if_neg h] at hf; exact hf) H locs ls hP hD hS hl) (fun h => kf (by rw [if_pos h] at hf; exact hf) H locs ls hP hD hS hl)
theorem g_if_lt (C : gF X cc own ret nL R) {x : Int32} {off : Int} {Y N : Option α} (tgt : Nat) (hdg : decode cc pc = .ok (.ifCond .lt off, 3)) (ht : (pc : Int) + off = (tgt : Int)) (hf : (if x < 0 then Y else N) = some o) (kt : Y = some o → gG X σ tgt lv st) (kf : N = some o → gG X σ (pc + 3) lv st) : gG X σ pc lv (.int x :: st) :=
  fun H locs ls hP hD hS hl => lv_if_lt C.1 C.2.1 hdg ht (fun h => kt (by rw [if_pos h] at hf; exact hf) H locs ls hP hD hS hl) (fun h => kf (by rw [if_neg h] at hf; exact hf) H locs ls hP hD hS hl)
theorem g_icmp_lt (C : gF X cc own ret nL R) {x y : Int32} {off : Int} {Y N : Option α} (tgt : Nat) (hdg : decode cc pc = .ok (.if_icmp .lt off, 3)) (ht : (pc : Int) + off = (tgt : Int)) (hf : (if x < y then Y else N) = some o) (kt : Y = some o → gG X σ tgt lv st) (kf : N = some o → gG X σ (pc + 3) lv st) : gG X σ pc lv (.int y :: .int x :: st) :=
  fun H locs ls hP hD hS hl => lv_icmp_lt C.1 C.2.1 hdg ht (fun h => kt (by rw [if_pos h] at hf; exact hf) H locs ls hP hD hS hl) (fun h => kf (by rw [if_neg h] at hf; exact hf) H locs ls hP hD hS hl)
theorem g_if_ge (C : gF X cc own ret nL R) {x : Int32} {off : Int} {Y N : Option α} (tgt : Nat) (hdg : decode cc pc = .ok (.ifCond .ge off, 3)) (ht : (pc : Int) + off = (tgt : Int)) (hf : (if 0 ≤ x then Y else N) = some o) (kt : Y = some o → gG X σ tgt lv st) (kf : N = some o → gG X σ (pc + 3) lv st) : gG X σ pc lv (.int x :: st) :=
  fun H locs ls hP hD hS hl => lv_if_ge C.1 C.2.1 hdg ht (fun h => kt (by rw [if_pos h] at hf; exact hf) H locs ls hP hD hS hl) (fun h => kf (by rw [if_neg h] at hf; exact hf) H locs ls hP hD hS hl)
theorem g_icmp_ge (C : gF X cc own ret nL R) {x y : Int32} {off : Int} {Y N : Option α} (tgt : Nat) (hdg : decode cc pc = .ok (.if_icmp .ge off, 3)) (ht : (pc : Int) + off = (tgt : Int)) (hf : (if y ≤ x then Y else N) = some o) (kt : Y = some o → gG X σ tgt lv st) (kf : N = some o → gG X σ (pc + 3) lv st) : gG X σ pc lv (.int y :: .int x :: st) :=
  fun H locs ls hP hD hS hl => lv_icmp_ge C.1 C.2.1 hdg ht (fun h => kt (by rw [if_pos h] at hf; exact hf) H locs ls hP hD hS hl) (fun h => kf (by rw [if_neg h] at hf; exact hf) H locs ls hP hD hS hl)
theorem g_if_gt (C : gF X cc own ret nL R) {x : Int32} {off : Int} {Y N : Option α} (tgt : Nat) (hdg : decode cc pc = .ok (.ifCond .gt off, 3)) (ht : (pc : Int) + off = (tgt : Int)) (hf : (if 0 < x then Y else N) = some o) (kt : Y = some o → gG X σ tgt lv st) (kf : N = some o → gG X σ (pc + 3) lv st) : gG X σ pc lv (.int x :: st) :=
  fun H locs ls hP hD hS hl => lv_if_gt C.1 C.2.1 hdg ht (fun h => kt (by rw [if_pos h] at hf; exact hf) H locs ls hP hD hS hl) (fun h => kf (by rw [if_neg h] at hf; exact hf) H locs ls hP hD hS hl)
theorem g_icmp_gt (C : gF X cc own ret nL R) {x y : Int32} {off : Int} {Y N : Option α} (tgt : Nat) (hdg : decode cc pc = .ok (.if_icmp .gt off, 3)) (ht : (pc : Int) + off = (tgt : Int)) (hf : (if y < x then Y else N) = some o) (kt : Y = some o → gG X σ tgt lv st) (kf : N = some o → gG X σ (pc + 3) lv st) : gG X σ pc lv (.int y :: .int x :: st) :=
  fun H locs ls hP hD hS hl => lv_icmp_gt C.1 C.2.1 hdg ht (fun h => kt (by rw [if_pos h] at hf; exact hf) H locs ls hP hD hS hl) (fun h => kf (by rw [if_neg h] at hf; exact hf) H locs ls hP hD hS hl)
theorem g_if_le (C : gF X cc own ret nL R) {x : Int32} {off : Int} {Y N : Option α} (tgt : Nat) (hdg : decode cc pc = .ok (.ifCond .le off, 3)) (ht : (pc : Int) + off = (tgt : Int)) (hf : (if x ≤ 0 then Y else N) = some o) (kt : Y = some o → gG X σ tgt lv st) (kf : N = some o → gG X σ (pc + 3) lv st) : gG X σ pc lv (.int x :: st) :=
  fun H locs ls hP hD hS hl => lv_if_le C.1 C.2.1 hdg ht (fun h => kt (by rw [if_pos h] at hf; exact hf) H locs ls hP hD hS hl) (fun h => kf (by rw [if_neg h] at hf; exact hf) H locs ls hP hD hS hl)
theorem g_icmp_le (C : gF X cc own ret nL R) {x y : Int32} {off : Int} {Y N : Option α} (tgt : Nat) (hdg : decode cc pc = .ok (.if_icmp .le off, 3)) (ht : (pc : Int) + off = (tgt : Int)) (hf : (if x ≤ y then Y else N) = some o) (kt : Y = some o → gG X σ tgt lv st) (kf : N = some o → gG X σ (pc + 3) lv st) : gG X σ pc lv (.int y :: .int x :: st) :=
  fun H locs ls hP hD hS hl => lv_icmp_le C.1 C.2.1 hdg ht (fun h => kt (by rw [if_pos h] at hf; exact hf) H locs ls hP hD hS hl) (fun h => kf (by rw [if_neg h] at hf; exact hf) H locs ls hP hD hS hl)
theorem g_lcmp_eq (C : gF X cc own ret nL R) {x y : Int64} {off : Int} {Y N : Option α} (tgt : Nat) (hdg : decode cc pc = .ok (.lcmp, 1)) (hdi : decode cc (pc + 1) = .ok (.ifCond .eq off, 3)) (ht : ((pc + 1 : Nat) : Int) + off = (tgt : Int)) (hf : (if x = y then Y else N) = some o) (kt : Y = some o → gG X σ tgt lv st) (kf : N = some o → gG X σ (pc + 1 + 3) lv st) : gG X σ pc lv (.long y :: .long x :: st) :=
  fun H locs ls hP hD hS hl => W.lcmp C.1 C.2.1 hdg ((g_if_eq C tgt hdi ht (hf := (by rw [← hf]; exact if_cg (lg_cmp_eq x y))) kt kf) H locs ls hP hD hS hl)
theorem g_lcmp_ne (C : gF X cc own ret nL R) {x y : Int64} {off : Int} {Y N : Option α} (tgt : Nat) (hdg : decode cc pc = .ok (.lcmp, 1)) (hdi : decode cc (pc + 1) = .ok (.ifCond .ne off, 3)) (ht : ((pc + 1 : Nat) : Int) + off = (tgt : Int)) (hf : (if x = y then N else Y) = some o) (kt : Y = some o → gG X σ tgt lv st) (kf : N = some o → gG X σ (pc + 1 + 3) lv st) : gG X σ pc lv (.long y :: .long x :: st) :=
  fun H locs ls hP hD hS hl => W.lcmp C.1 C.2.1 hdg ((g_if_ne C tgt hdi ht (hf := (by rw [← hf]; exact if_cg (lg_cmp_eq x y))) kt kf) H locs ls hP hD hS hl)
theorem g_lcmp_lt (C : gF X cc own ret nL R) {x y : Int64} {off : Int} {Y N : Option α} (tgt : Nat) (hdg : decode cc pc = .ok (.lcmp, 1)) (hdi : decode cc (pc + 1) = .ok (.ifCond .lt off, 3)) (ht : ((pc + 1 : Nat) : Int) + off = (tgt : Int)) (hf : (if x < y then Y else N) = some o) (kt : Y = some o → gG X σ tgt lv st) (kf : N = some o → gG X σ (pc + 1 + 3) lv st) : gG X σ pc lv (.long y :: .long x :: st) :=
  fun H locs ls hP hD hS hl => W.lcmp C.1 C.2.1 hdg ((g_if_lt C tgt hdi ht (hf := (by rw [← hf]; exact if_cg (lg_cmp_lt x y))) kt kf) H locs ls hP hD hS hl)
theorem g_lcmp_ge (C : gF X cc own ret nL R) {x y : Int64} {off : Int} {Y N : Option α} (tgt : Nat) (hdg : decode cc pc = .ok (.lcmp, 1)) (hdi : decode cc (pc + 1) = .ok (.ifCond .ge off, 3)) (ht : ((pc + 1 : Nat) : Int) + off = (tgt : Int)) (hf : (if y ≤ x then Y else N) = some o) (kt : Y = some o → gG X σ tgt lv st) (kf : N = some o → gG X σ (pc + 1 + 3) lv st) : gG X σ pc lv (.long y :: .long x :: st) :=
  fun H locs ls hP hD hS hl => W.lcmp C.1 C.2.1 hdg ((g_if_ge C tgt hdi ht (hf := (by rw [← hf]; exact if_cg (lg_cmp_ge x y))) kt kf) H locs ls hP hD hS hl)
theorem g_lcmp_gt (C : gF X cc own ret nL R) {x y : Int64} {off : Int} {Y N : Option α} (tgt : Nat) (hdg : decode cc pc = .ok (.lcmp, 1)) (hdi : decode cc (pc + 1) = .ok (.ifCond .gt off, 3)) (ht : ((pc + 1 : Nat) : Int) + off = (tgt : Int)) (hf : (if y < x then Y else N) = some o) (kt : Y = some o → gG X σ tgt lv st) (kf : N = some o → gG X σ (pc + 1 + 3) lv st) : gG X σ pc lv (.long y :: .long x :: st) :=
  fun H locs ls hP hD hS hl => W.lcmp C.1 C.2.1 hdg ((g_if_gt C tgt hdi ht (hf := (by rw [← hf]; exact if_cg (lg_cmp_gt x y))) kt kf) H locs ls hP hD hS hl)
theorem g_lcmp_le (C : gF X cc own ret nL R) {x y : Int64} {off : Int} {Y N : Option α} (tgt : Nat) (hdg : decode cc pc = .ok (.lcmp, 1)) (hdi : decode cc (pc + 1) = .ok (.ifCond .le off, 3)) (ht : ((pc + 1 : Nat) : Int) + off = (tgt : Int)) (hf : (if x ≤ y then Y else N) = some o) (kt : Y = some o → gG X σ tgt lv st) (kf : N = some o → gG X σ (pc + 1 + 3) lv st) : gG X σ pc lv (.long y :: .long x :: st) :=
  fun H locs ls hP hD hS hl => W.lcmp C.1 C.2.1 hdg ((g_if_le C tgt hdi ht (hf := (by rw [← hf]; exact if_cg (lg_cmp_le x y))) kt kf) H locs ls hP hD hS hl)
theorem g_tabIn (C : gF X cc own ret nL R) {dflt lo hi : Int} {offs : Array Int} {len : Nat} {x v : Int32} {off : Int} (tgt : Nat) (hx : x = v) (hdg : decode cc pc = .ok (.tableswitch dflt lo hi offs, len)) (h1 : ¬ v.toInt < lo) (h2 : ¬ hi < v.toInt) (ho : offs[(v.toInt - lo).toNat]? = some off) (ht : (pc : Int) + off = (tgt : Int)) (k : gG X σ tgt lv st) : gG X σ pc lv (.int x :: st) := by
  subst hx
  exact fun H locs ls hP hD hS hl => lv_tableIn C.1 C.2.1 hdg h1 h2 ho ht (k H locs ls hP hD hS hl)
theorem g_tabOut (C : gF X cc own ret nL R) {dflt lo hi : Int} {offs : Array Int} {len : Nat} {x : Int32} (tgt : Nat) (hdg : decode cc pc = .ok (.tableswitch dflt lo hi offs, len)) (h : x.toInt < lo ∨ hi < x.toInt) (ht : (pc : Int) + dflt = (tgt : Int)) (k : gG X σ tgt lv st) : gG X σ pc lv (.int x :: st) :=
  fun H locs ls hP hD hS hl => lv_tableOut C.1 C.2.1 hdg h ht (k H locs ls hP hD hS hl)
theorem g_look (C : gF X cc own ret nL R) {dflt : Int} {ps : Array (Int × Int)} {len : Nat} {x : Int32} {off : Int} (tgt : Nat) (hdg : decode cc pc = .ok (.lookupswitch dflt ps, len)) (hp : (ps.toList.zip (ps.toList.drop 1)).all (fun (a, next) => a.1 < next.1) = true) (ho : Op.lookupswitch.offset ps.toList dflt x.toInt = off) (ht : (pc : Int) + off = (tgt : Int)) (k : gG X σ tgt lv st) : gG X σ pc lv (.int x :: st) :=
  fun H locs ls hP hD hS hl => lv_lookup C.1 C.2.1 hdg hp ho ht (k H locs ls hP hD hS hl)
theorem g_max (C : gF X cc own ret nL R) {x y : Int32} {index : Nat} (hdg : decode cc pc = .ok (.invokestatic index, 3)) (hw : Cond.methodLink own index Lib.Math.max.name ∈ lw_tbl) (hi : Cond.static Lib.Math.max.name ∈ lw_tbl ∧ Cond.initialized "java/lang/Math" ∈ lw_tbl ∧ Cond.code Lib.Math.max.name Lib.Math.max.code 2 (some .int) ∈ lw_tbl) (hr : 1 ≤ R.frames ∧ (st.map fun v => v.category).sum + 13 ≤ R.locals) (k : gG X σ (pc + 3) lv (.int (if x < y then y else x) :: st)) : gG X σ pc lv (.int y :: .int x :: st) :=
  fun H locs ls hP hD hS hl => va_mmax C.1 C.2.1 (C.2.2.2.1.trans hl.1.symm) C.2.2.2.2.1 (C.2.2.2.2.2.1 _ hw rfl _) (C.2.2.2.2.2.1 _ hi.1 rfl _) (C.2.2.2.2.2.1 _ hi.2.1 rfl _) (C.2.2.2.2.2.1 _ hi.2.2 rfl _) (by rw [C.2.2.2.2.2.2.2.2.2.1]; exact hr.1) (by rw [C.2.2.2.2.2.2.2.2.2.1]; exact hr.2) C.2.2.2.2.2.2.2.2.2.2.1 C.2.2.2.2.2.2.2.2.2.2.2 hdg (k H locs ls hP hD hS hl)
theorem g_min (C : gF X cc own ret nL R) {x y : Int32} {index : Nat} (hdg : decode cc pc = .ok (.invokestatic index, 3)) (hw : Cond.methodLink own index Lib.Math.min.name ∈ lw_tbl) (hi : Cond.static Lib.Math.min.name ∈ lw_tbl ∧ Cond.initialized "java/lang/Math" ∈ lw_tbl ∧ Cond.code Lib.Math.min.name Lib.Math.min.code 2 (some .int) ∈ lw_tbl) (hr : 1 ≤ R.frames ∧ (st.map fun v => v.category).sum + 13 ≤ R.locals) (k : gG X σ (pc + 3) lv (.int (if y < x then y else x) :: st)) : gG X σ pc lv (.int y :: .int x :: st) :=
  fun H locs ls hP hD hS hl => va_mmin C.1 C.2.1 (C.2.2.2.1.trans hl.1.symm) C.2.2.2.2.1 (C.2.2.2.2.2.1 _ hw rfl _) (C.2.2.2.2.2.1 _ hi.1 rfl _) (C.2.2.2.2.2.1 _ hi.2.1 rfl _) (C.2.2.2.2.2.1 _ hi.2.2 rfl _) (by rw [C.2.2.2.2.2.2.2.2.2.1]; exact hr.1) (by rw [C.2.2.2.2.2.2.2.2.2.1]; exact hr.2) C.2.2.2.2.2.2.2.2.2.2.1 C.2.2.2.2.2.2.2.2.2.2.2 hdg (k H locs ls hP hD hS hl)
end GR
