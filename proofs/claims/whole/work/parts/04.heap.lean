/-! what a layout says of a cell -/
def kI (K : Kx) (c n : Nat) : Prop := c < K.2.2.2.1 ∧ ∃ (cA : ClassId) (t0 : Nat), K.2.2.2.2.1[t0]? = some (cA, .int) ∧ ∀ (f : Nat → Int32) (g : Nat → Int64), K.2.2.1 c f g = .inl (cA, n, .inl f)
def kZ (K : Kx) (c n : Nat) : Prop := c < K.2.2.2.1 ∧ ∃ (cA : ClassId) (t0 : Nat), K.2.2.2.2.1[t0]? = some (cA, .boolean) ∧ ∀ (f : Nat → Int32) (g : Nat → Int64), K.2.2.1 c f g = .inl (cA, n, .inl f)
def kR (K : Kx) (c n b : Nat) : Prop := c < K.2.2.2.1 ∧ ∃ (cA : ClassId) (t0 : Nat), K.2.2.2.2.1[t0]? = some (cA, .array .int) ∧ ∀ (f : Nat → Int32) (g : Nat → Int64), K.2.2.1 c f g = .inl (cA, n, .inr (.inr (.inr (.inr (fun i => if i < n then some (K.2.1 (b + i)) else none)))))
def kO (K : Kx) (c ci : Nat) : Prop := c < K.2.2.2.1 ∧ ∀ (f : Nat → Int32) (g : Nat → Int64), ∃ fs : List Value, K.2.2.1 c f g = .inr (ci, fs)
def kfR (K : Kx) (c ci k c' : Nat) : Prop := c < K.2.2.2.1 ∧ ∀ (f : Nat → Int32) (g : Nat → Int64), ∃ fs : List Value, K.2.2.1 c f g = .inr (ci, fs) ∧ fs[k]? = some (.ref (K.2.1 c'))
def kfI (K : Kx) (c ci k : Nat) : Prop := c < K.2.2.2.1 ∧ ∀ (f : Nat → Int32) (g : Nat → Int64), ∃ fs : List Value, K.2.2.1 c f g = .inr (ci, fs) ∧ fs[k]? = some (.int (f k)) ∧ k < fs.length ∧ ∀ v : Int32, K.2.2.1 c (upd f k v) g = .inr (ci, fs.set k (.int v))
def kfL (K : Kx) (c ci k : Nat) : Prop := c < K.2.2.2.1 ∧ ∀ (f : Nat → Int32) (g : Nat → Int64), ∃ fs : List Value, K.2.2.1 c f g = .inr (ci, fs) ∧ fs[k]? = some (.long (g k)) ∧ k < fs.length ∧ ∀ v : Int64, K.2.2.1 c f (vp_updL g k v) = .inr (ci, fs.set k (.long v))
def clOK (ci : Nat) (Cn : String) (T : u_T) (N : Nat) (ty : Nat → FieldType) : Prop := vwCl[ci]? = some (Cn, T, N) ∧ (∀ w ∈ u_ws Cn T N, w ∈ lw_tbl ∧ tbGood w = true) ∧ (∀ k, k < N → parseFieldDescriptor (T k).2.2.1 = some (ty k)) ∧ ∀ a, a < N → ∀ b, b < N → a ≠ b → (T a).2.1 ≠ (T b).2.1
theorem wI_self (σ : St) (c k : Nat) (v : Int32) : (wI σ c k v).1 c = upd (σ.1 c) k v ∧ (wI σ c k v).2 c = σ.2 c := ⟨by simp [wI], rfl⟩
theorem wL_self (σ : St) (c k : Nat) (v : Int64) : (wL σ c k v).1 c = σ.1 c ∧ (wL σ c k v).2 c = vp_updL (σ.2 c) k v := ⟨rfl, by simp [wL]⟩
section GH
variable {X : Gx St} {cc : ByteArray} {own host : String} {ret : Option FieldType} {nL : Nat} {R : Room} {σ : St} {pc : Nat} {lv : List (Nat × Value)} {st : List Value} {α : Type} {o : α} {K : Kx} {c ci k N index : Nat} {Cn : String} {T : u_T} {ty : Nat → FieldType}
theorem g_getI (C : gF X cc own ret nL R) (Kf : kF X K) (ck : clOK ci Cn T N ty) (hq : kfI K c ci k) (hk : k < N) (hdg : decode cc pc = .ok (.getfield index, 3)) (hw : Cond.fieldLink own index (T k).1 (T k).2.1 (T k).2.2.1 ∈ lw_tbl) (kk : gG X σ (pc + 3) lv (.int (σ.1 c k) :: st)) : gG X σ pc lv (.ref (K.2.1 c) :: st) := by
  obtain ⟨⟨p, l, e, R0, s, m, args, below, meth, co⟩, D, wl, A, nL0, cells, slots, Q⟩ := X
  obtain ⟨h1, h2, hK, hst⟩ := Kf
  dsimp only at h1 h2 hK hst
  subst h1
  subst h2
  intro H locs ls hP hD hS hl
  obtain ⟨hc, hE⟩ := hq
  obtain ⟨fs, he, hv, -, -⟩ := hE (σ.1 c) (σ.2 c)
  have ha := kwl_at K σ hc
  rw [he] at ha
  exact va_get (Ts := u_ws Cn T N) C.1 C.2.1 (fun w hw => C.2.2.2.2.2.1 w (ck.2.1 w hw).1 (ck.2.1 w hw).2 _) (fun _ h => h) C.2.2.2.2.1 hK hP c ha ck.1 k hk (C.2.2.2.2.2.1 _ hw rfl _) (fun _ h => h) hv hdg (kk H locs ls hP hD hS hl)
theorem g_getL (C : gF X cc own ret nL R) (Kf : kF X K) (ck : clOK ci Cn T N ty) (hq : kfL K c ci k) (hk : k < N) (hdg : decode cc pc = .ok (.getfield index, 3)) (hw : Cond.fieldLink own index (T k).1 (T k).2.1 (T k).2.2.1 ∈ lw_tbl) (kk : gG X σ (pc + 3) lv (.long (σ.2 c k) :: st)) : gG X σ pc lv (.ref (K.2.1 c) :: st) := by
  obtain ⟨⟨p, l, e, R0, s, m, args, below, meth, co⟩, D, wl, A, nL0, cells, slots, Q⟩ := X
  obtain ⟨h1, h2, hK, hst⟩ := Kf
  dsimp only at h1 h2 hK hst
  subst h1
  subst h2
  intro H locs ls hP hD hS hl
  obtain ⟨hc, hE⟩ := hq
  obtain ⟨fs, he, hv, -, -⟩ := hE (σ.1 c) (σ.2 c)
  have ha := kwl_at K σ hc
  rw [he] at ha
  exact va_get (Ts := u_ws Cn T N) C.1 C.2.1 (fun w hw => C.2.2.2.2.2.1 w (ck.2.1 w hw).1 (ck.2.1 w hw).2 _) (fun _ h => h) C.2.2.2.2.1 hK hP c ha ck.1 k hk (C.2.2.2.2.2.1 _ hw rfl _) (fun _ h => h) hv hdg (kk H locs ls hP hD hS hl)
theorem g_getR (C : gF X cc own ret nL R) (Kf : kF X K) {c' : Nat} (ck : clOK ci Cn T N ty) (hq : kfR K c ci k c') (hk : k < N) (hdg : decode cc pc = .ok (.getfield index, 3)) (hw : Cond.fieldLink own index (T k).1 (T k).2.1 (T k).2.2.1 ∈ lw_tbl) (kk : gG X σ (pc + 3) lv (.ref (K.2.1 c') :: st)) : gG X σ pc lv (.ref (K.2.1 c) :: st) := by
  obtain ⟨⟨p, l, e, R0, s, m, args, below, meth, co⟩, D, wl, A, nL0, cells, slots, Q⟩ := X
  obtain ⟨h1, h2, hK, hst⟩ := Kf
  dsimp only at h1 h2 hK hst
  subst h1
  subst h2
  intro H locs ls hP hD hS hl
  obtain ⟨hc, hE⟩ := hq
  obtain ⟨fs, he, hv⟩ := hE (σ.1 c) (σ.2 c)
  have ha := kwl_at K σ hc
  rw [he] at ha
  exact va_get (Ts := u_ws Cn T N) C.1 C.2.1 (fun w hw => C.2.2.2.2.2.1 w (ck.2.1 w hw).1 (ck.2.1 w hw).2 _) (fun _ h => h) C.2.2.2.2.1 hK hP c ha ck.1 k hk (C.2.2.2.2.2.1 _ hw rfl _) (fun _ h => h) hv hdg (kk H locs ls hP hD hS hl)
theorem g_getIN (C : gF X cc own ret nL R) (Kf : kF X K) (ck : clOK ci Cn T N ty) (hq : kfI K c ci k) (hk : k < N) (hdg : decode cc pc = .ok (.getfield index, 3)) (hw : Cond.fieldLinkNest own index (T k).1 (T k).2.1 (T k).2.2.1 host ∈ lw_tbl) (kk : gG X σ (pc + 3) lv (.int (σ.1 c k) :: st)) : gG X σ pc lv (.ref (K.2.1 c) :: st) := by
  obtain ⟨⟨p, l, e, R0, s, m, args, below, meth, co⟩, D, wl, A, nL0, cells, slots, Q⟩ := X
  obtain ⟨h1, h2, hK, hst⟩ := Kf
  dsimp only at h1 h2 hK hst
  subst h1
  subst h2
  intro H locs ls hP hD hS hl
  obtain ⟨hc, hE⟩ := hq
  obtain ⟨fs, he, hv, -, -⟩ := hE (σ.1 c) (σ.2 c)
  have ha := kwl_at K σ hc
  rw [he] at ha
  exact va_getN (Ts := u_ws Cn T N) C.1 C.2.1 (fun w hw => C.2.2.2.2.2.1 w (ck.2.1 w hw).1 (ck.2.1 w hw).2 _) (fun _ h => h) C.2.2.2.2.1 hK hP c ha ck.1 k hk (C.2.2.2.2.2.1 _ hw rfl _) (fun _ h => h) hv hdg (kk H locs ls hP hD hS hl)
theorem g_getLN (C : gF X cc own ret nL R) (Kf : kF X K) (ck : clOK ci Cn T N ty) (hq : kfL K c ci k) (hk : k < N) (hdg : decode cc pc = .ok (.getfield index, 3)) (hw : Cond.fieldLinkNest own index (T k).1 (T k).2.1 (T k).2.2.1 host ∈ lw_tbl) (kk : gG X σ (pc + 3) lv (.long (σ.2 c k) :: st)) : gG X σ pc lv (.ref (K.2.1 c) :: st) := by
  obtain ⟨⟨p, l, e, R0, s, m, args, below, meth, co⟩, D, wl, A, nL0, cells, slots, Q⟩ := X
  obtain ⟨h1, h2, hK, hst⟩ := Kf
  dsimp only at h1 h2 hK hst
  subst h1
  subst h2
  intro H locs ls hP hD hS hl
  obtain ⟨hc, hE⟩ := hq
  obtain ⟨fs, he, hv, -, -⟩ := hE (σ.1 c) (σ.2 c)
  have ha := kwl_at K σ hc
  rw [he] at ha
  exact va_getN (Ts := u_ws Cn T N) C.1 C.2.1 (fun w hw => C.2.2.2.2.2.1 w (ck.2.1 w hw).1 (ck.2.1 w hw).2 _) (fun _ h => h) C.2.2.2.2.1 hK hP c ha ck.1 k hk (C.2.2.2.2.2.1 _ hw rfl _) (fun _ h => h) hv hdg (kk H locs ls hP hD hS hl)
theorem g_getRN (C : gF X cc own ret nL R) (Kf : kF X K) {c' : Nat} (ck : clOK ci Cn T N ty) (hq : kfR K c ci k c') (hk : k < N) (hdg : decode cc pc = .ok (.getfield index, 3)) (hw : Cond.fieldLinkNest own index (T k).1 (T k).2.1 (T k).2.2.1 host ∈ lw_tbl) (kk : gG X σ (pc + 3) lv (.ref (K.2.1 c') :: st)) : gG X σ pc lv (.ref (K.2.1 c) :: st) := by
  obtain ⟨⟨p, l, e, R0, s, m, args, below, meth, co⟩, D, wl, A, nL0, cells, slots, Q⟩ := X
  obtain ⟨h1, h2, hK, hst⟩ := Kf
  dsimp only at h1 h2 hK hst
  subst h1
  subst h2
  intro H locs ls hP hD hS hl
  obtain ⟨hc, hE⟩ := hq
  obtain ⟨fs, he, hv⟩ := hE (σ.1 c) (σ.2 c)
  have ha := kwl_at K σ hc
  rw [he] at ha
  exact va_getN (Ts := u_ws Cn T N) C.1 C.2.1 (fun w hw => C.2.2.2.2.2.1 w (ck.2.1 w hw).1 (ck.2.1 w hw).2 _) (fun _ h => h) C.2.2.2.2.1 hK hP c ha ck.1 k hk (C.2.2.2.2.2.1 _ hw rfl _) (fun _ h => h) hv hdg (kk H locs ls hP hD hS hl)
theorem g_putI (C : gF X cc own ret nL R) (Kf : kF X K) {v : Int32} {F : St → Option α} (ck : clOK ci Cn T N ty) (hq : kfI K c ci k) (hk : k < N) (hfin : (T k).2.2.2 = false) (hn : narrow (ty k) (.int v) = .int v) (hfit : fits (ty k) (.int v) = true) (hdg : decode cc pc = .ok (.putfield index, 3)) (hw : Cond.fieldLink own index (T k).1 (T k).2.1 (T k).2.2.1 ∈ lw_tbl) (hf : bnd (wI σ c k v) F = some o) (kk : ∀ σ, F σ = some o → gG X σ (pc + 3) lv st) : gG X σ pc lv (.int v :: .ref (K.2.1 c) :: st) := by
  obtain ⟨⟨p, l, e, R0, s, m, args, below, meth, co⟩, D, wl, A, nL0, cells, slots, Q⟩ := X
  obtain ⟨h1, h2, hK, hst⟩ := Kf
  dsimp only at h1 h2 hK hst
  subst h1
  subst h2
  intro H locs ls hP hD hS hl
  obtain ⟨hc, hE⟩ := hq
  obtain ⟨fs, he, hv, hlen, hset⟩ := hE (σ.1 c) (σ.2 c)
  have ha := kwl_at K σ hc
  rw [he] at ha
  refine va_put (Ts := u_ws Cn T N) C.1 C.2.1 (fun w hw => C.2.2.2.2.2.1 w (ck.2.1 w hw).1 (ck.2.1 w hw).2 _) (fun _ h => h) ty ck.2.2.1 ck.2.2.2 C.2.2.2.2.1 hK hP hD hS c ha ck.1 k hk (C.2.2.2.2.2.1 _ hw rfl _) (fun _ h => h) hfin (ck.2.2.1 k hk) hn hfit hlen hdg (fun H1 locs1 hP hD hS => ?_)
  have hw2 : (kwl K σ).set c (K.2.1 c, .inr (ci, fs.set k (.int v))) = kwl K (wI σ c k v) := kwl_set K σ _ (by rw [(wI_self σ c k v).1, (wI_self σ c k v).2, hset]) (wI_ne σ c k v)
  rw [hw2] at hP hD
  exact kk _ hf H1 locs1 ls hP hD hS hl
theorem g_putL (C : gF X cc own ret nL R) (Kf : kF X K) {v : Int64} {F : St → Option α} (ck : clOK ci Cn T N ty) (hq : kfL K c ci k) (hk : k < N) (hfin : (T k).2.2.2 = false) (hn : narrow (ty k) (.long v) = .long v) (hfit : fits (ty k) (.long v) = true) (hdg : decode cc pc = .ok (.putfield index, 3)) (hw : Cond.fieldLink own index (T k).1 (T k).2.1 (T k).2.2.1 ∈ lw_tbl) (hf : bnd (wL σ c k v) F = some o) (kk : ∀ σ, F σ = some o → gG X σ (pc + 3) lv st) : gG X σ pc lv (.long v :: .ref (K.2.1 c) :: st) := by
  obtain ⟨⟨p, l, e, R0, s, m, args, below, meth, co⟩, D, wl, A, nL0, cells, slots, Q⟩ := X
  obtain ⟨h1, h2, hK, hst⟩ := Kf
  dsimp only at h1 h2 hK hst
  subst h1
  subst h2
  intro H locs ls hP hD hS hl
  obtain ⟨hc, hE⟩ := hq
  obtain ⟨fs, he, hv, hlen, hset⟩ := hE (σ.1 c) (σ.2 c)
  have ha := kwl_at K σ hc
  rw [he] at ha
  refine va_put (Ts := u_ws Cn T N) C.1 C.2.1 (fun w hw => C.2.2.2.2.2.1 w (ck.2.1 w hw).1 (ck.2.1 w hw).2 _) (fun _ h => h) ty ck.2.2.1 ck.2.2.2 C.2.2.2.2.1 hK hP hD hS c ha ck.1 k hk (C.2.2.2.2.2.1 _ hw rfl _) (fun _ h => h) hfin (ck.2.2.1 k hk) hn hfit hlen hdg (fun H1 locs1 hP hD hS => ?_)
  have hw2 : (kwl K σ).set c (K.2.1 c, .inr (ci, fs.set k (.long v))) = kwl K (wL σ c k v) := kwl_set K σ _ (by rw [(wL_self σ c k v).1, (wL_self σ c k v).2, hset]) (wL_ne σ c k v)
  rw [hw2] at hP hD
  exact kk _ hf H1 locs1 ls hP hD hS hl
theorem g_putIN (C : gF X cc own ret nL R) (Kf : kF X K) {v : Int32} {F : St → Option α} (ck : clOK ci Cn T N ty) (hq : kfI K c ci k) (hk : k < N) (hfin : (T k).2.2.2 = false) (hn : narrow (ty k) (.int v) = .int v) (hfit : fits (ty k) (.int v) = true) (hdg : decode cc pc = .ok (.putfield index, 3)) (hw : Cond.fieldLinkNest own index (T k).1 (T k).2.1 (T k).2.2.1 host ∈ lw_tbl) (hf : bnd (wI σ c k v) F = some o) (kk : ∀ σ, F σ = some o → gG X σ (pc + 3) lv st) : gG X σ pc lv (.int v :: .ref (K.2.1 c) :: st) := by
  obtain ⟨⟨p, l, e, R0, s, m, args, below, meth, co⟩, D, wl, A, nL0, cells, slots, Q⟩ := X
  obtain ⟨h1, h2, hK, hst⟩ := Kf
  dsimp only at h1 h2 hK hst
  subst h1
  subst h2
  intro H locs ls hP hD hS hl
  obtain ⟨hc, hE⟩ := hq
  obtain ⟨fs, he, hv, hlen, hset⟩ := hE (σ.1 c) (σ.2 c)
  have ha := kwl_at K σ hc
  rw [he] at ha
  refine va_putN (Ts := u_ws Cn T N) C.1 C.2.1 (fun w hw => C.2.2.2.2.2.1 w (ck.2.1 w hw).1 (ck.2.1 w hw).2 _) (fun _ h => h) ty ck.2.2.1 ck.2.2.2 C.2.2.2.2.1 hK hP hD hS c ha ck.1 k hk (C.2.2.2.2.2.1 _ hw rfl _) (fun _ h => h) hfin (ck.2.2.1 k hk) hn hfit hlen hdg (fun H1 locs1 hP hD hS => ?_)
  have hw2 : (kwl K σ).set c (K.2.1 c, .inr (ci, fs.set k (.int v))) = kwl K (wI σ c k v) := kwl_set K σ _ (by rw [(wI_self σ c k v).1, (wI_self σ c k v).2, hset]) (wI_ne σ c k v)
  rw [hw2] at hP hD
  exact kk _ hf H1 locs1 ls hP hD hS hl
theorem g_putLN (C : gF X cc own ret nL R) (Kf : kF X K) {v : Int64} {F : St → Option α} (ck : clOK ci Cn T N ty) (hq : kfL K c ci k) (hk : k < N) (hfin : (T k).2.2.2 = false) (hn : narrow (ty k) (.long v) = .long v) (hfit : fits (ty k) (.long v) = true) (hdg : decode cc pc = .ok (.putfield index, 3)) (hw : Cond.fieldLinkNest own index (T k).1 (T k).2.1 (T k).2.2.1 host ∈ lw_tbl) (hf : bnd (wL σ c k v) F = some o) (kk : ∀ σ, F σ = some o → gG X σ (pc + 3) lv st) : gG X σ pc lv (.long v :: .ref (K.2.1 c) :: st) := by
  obtain ⟨⟨p, l, e, R0, s, m, args, below, meth, co⟩, D, wl, A, nL0, cells, slots, Q⟩ := X
  obtain ⟨h1, h2, hK, hst⟩ := Kf
  dsimp only at h1 h2 hK hst
  subst h1
  subst h2
  intro H locs ls hP hD hS hl
  obtain ⟨hc, hE⟩ := hq
  obtain ⟨fs, he, hv, hlen, hset⟩ := hE (σ.1 c) (σ.2 c)
  have ha := kwl_at K σ hc
  rw [he] at ha
  refine va_putN (Ts := u_ws Cn T N) C.1 C.2.1 (fun w hw => C.2.2.2.2.2.1 w (ck.2.1 w hw).1 (ck.2.1 w hw).2 _) (fun _ h => h) ty ck.2.2.1 ck.2.2.2 C.2.2.2.2.1 hK hP hD hS c ha ck.1 k hk (C.2.2.2.2.2.1 _ hw rfl _) (fun _ h => h) hfin (ck.2.2.1 k hk) hn hfit hlen hdg (fun H1 locs1 hP hD hS => ?_)
  have hw2 : (kwl K σ).set c (K.2.1 c, .inr (ci, fs.set k (.long v))) = kwl K (wL σ c k v) := kwl_set K σ _ (by rw [(wL_self σ c k v).1, (wL_self σ c k v).2, hset]) (wL_ne σ c k v)
  rw [hw2] at hP hD
  exact kk _ hf H1 locs1 ls hP hD hS hl
theorem g_iald (C : gF X cc own ret nL R) (Kf : kF X K) {n : Nat} {i : Int32} {Y : Option α} (hq : kI K c n) (hdg : decode cc pc = .ok (.iaload, 1)) (hf : gi i n Y = some o) (kk : Y = some o → gG X σ (pc + 1) lv (.int (σ.1 c i.toNatClampNeg) :: st)) : gG X σ pc lv (.int i :: .ref (K.2.1 c) :: st) := by
  obtain ⟨⟨p, l, e, R0, s, m, args, below, meth, co⟩, D, wl, A, nL0, cells, slots, Q⟩ := X
  obtain ⟨h1, h2, hK, hst⟩ := Kf
  dsimp only at h1 h2 hK hst
  subst h1
  subst h2
  intro H locs ls hP hD hS hl
  obtain ⟨hc, cA, t0, ht, hE⟩ := hq
  have ha := kwl_at K σ hc
  rw [hE] at ha
  exact va_iald C.1 C.2.1 hK hP c t0 ha ht (gi_some hf).1 hdg (kk (gi_some hf).2 H locs ls hP hD hS hl)
theorem g_zald (C : gF X cc own ret nL R) (Kf : kF X K) {n : Nat} {i : Int32} {Y : Option α} (hq : kZ K c n) (hdg : decode cc pc = .ok (.baload, 1)) (hf : gi i n Y = some o) (kk : Y = some o → gG X σ (pc + 1) lv (.int (σ.1 c i.toNatClampNeg) :: st)) : gG X σ pc lv (.int i :: .ref (K.2.1 c) :: st) := by
  obtain ⟨⟨p, l, e, R0, s, m, args, below, meth, co⟩, D, wl, A, nL0, cells, slots, Q⟩ := X
  obtain ⟨h1, h2, hK, hst⟩ := Kf
  dsimp only at h1 h2 hK hst
  subst h1
  subst h2
  intro H locs ls hP hD hS hl
  obtain ⟨hc, cA, t0, ht, hE⟩ := hq
  have ha := kwl_at K σ hc
  rw [hE] at ha
  exact va_zald C.1 C.2.1 hK hP c t0 ha ht (gi_some hf).1 hdg (kk (gi_some hf).2 H locs ls hP hD hS hl)
theorem g_iast (C : gF X cc own ret nL R) (Kf : kF X K) {n : Nat} {i v : Int32} {F : St → Option α} (hq : kI K c n) (hdg : decode cc pc = .ok (.iastore, 1)) (hf : gi i n (bnd (wI σ c i.toNatClampNeg v) F) = some o) (kk : ∀ σ, F σ = some o → gG X σ (pc + 1) lv st) : gG X σ pc lv (.int v :: .int i :: .ref (K.2.1 c) :: st) := by
  obtain ⟨⟨p, l, e, R0, s, m, args, below, meth, co⟩, D, wl, A, nL0, cells, slots, Q⟩ := X
  obtain ⟨h1, h2, hK, hst⟩ := Kf
  dsimp only at h1 h2 hK hst
  subst h1
  subst h2
  intro H locs ls hP hD hS hl
  obtain ⟨hc, cA, t0, ht, hE⟩ := hq
  have ha := kwl_at K σ hc
  rw [hE] at ha
  refine va_iast C.1 C.2.1 hK hP hD hS c t0 ha ht (gi_some hf).1 hdg (fun H1 locs1 hP hD hS => ?_)
  have hw2 : (kwl K σ).set c (K.2.1 c, .inl (cA, n, .inl (upd (σ.1 c) i.toNatClampNeg v))) = kwl K (wI σ c i.toNatClampNeg v) := kwl_set K σ _ (by rw [(wI_self σ c _ v).1, (wI_self σ c _ v).2, hE]) (wI_ne σ c _ v)
  rw [hw2] at hP hD
  exact kk _ (gi_some hf).2 H1 locs1 ls hP hD hS hl
theorem g_zast (C : gF X cc own ret nL R) (Kf : kF X K) {n : Nat} {i v : Int32} {F : St → Option α} (hq : kZ K c n) (hv : vp_nar .boolean v = v) (hdg : decode cc pc = .ok (.bastore, 1)) (hf : gi i n (bnd (wI σ c i.toNatClampNeg v) F) = some o) (kk : ∀ σ, F σ = some o → gG X σ (pc + 1) lv st) : gG X σ pc lv (.int v :: .int i :: .ref (K.2.1 c) :: st) := by
  obtain ⟨⟨p, l, e, R0, s, m, args, below, meth, co⟩, D, wl, A, nL0, cells, slots, Q⟩ := X
  obtain ⟨h1, h2, hK, hst⟩ := Kf
  dsimp only at h1 h2 hK hst
  subst h1
  subst h2
  intro H locs ls hP hD hS hl
  obtain ⟨hc, cA, t0, ht, hE⟩ := hq
  have ha := kwl_at K σ hc
  rw [hE] at ha
  refine va_zast C.1 C.2.1 hK hP hD hS c t0 ha ht (gi_some hf).1 hdg (fun H1 locs1 hP hD hS => ?_)
  rw [hv] at hP hD
  have hw2 : (kwl K σ).set c (K.2.1 c, .inl (cA, n, .inl (upd (σ.1 c) i.toNatClampNeg v))) = kwl K (wI σ c i.toNatClampNeg v) := kwl_set K σ _ (by rw [(wI_self σ c _ v).1, (wI_self σ c _ v).2, hE]) (wI_ne σ c _ v)
  rw [hw2] at hP hD
  exact kk _ (gi_some hf).2 H1 locs1 ls hP hD hS hl
theorem g_aald (C : gF X cc own ret nL R) (Kf : kF X K) {n b : Nat} {i : Int32} {Y : Option α} (hq : kR K c n b) (hdg : decode cc pc = .ok (.aaload, 1)) (hf : gi i n Y = some o) (kk : i.toNatClampNeg < n → Y = some o → gG X σ (pc + 1) lv (.ref (K.2.1 (b + i.toNatClampNeg)) :: st)) : gG X σ pc lv (.int i :: .ref (K.2.1 c) :: st) := by
  obtain ⟨⟨p, l, e, R0, s, m, args, below, meth, co⟩, D, wl, A, nL0, cells, slots, Q⟩ := X
  obtain ⟨h1, h2, hK, hst⟩ := Kf
  dsimp only at h1 h2 hK hst
  subst h1
  subst h2
  intro H locs ls hP hD hS hl
  obtain ⟨hc, cA, t0, ht, hE⟩ := hq
  have ha := kwl_at K σ hc
  rw [hE] at ha
  have hin := (gi_some hf).1
  have hlt : i.toNatClampNeg < n := Nat.not_le.mp fun q => hin (Or.inr q)
  have k2 := kk hlt (gi_some hf).2 H locs ls hP hD hS hl
  refine W.aald (v := va_rf (if i.toNatClampNeg < n then some (K.2.1 (b + i.toNatClampNeg)) else none)) (ty := .array .int) C.1 C.2.1 (hP c _ ha) ((hK.2 t0 _ ht).1 n (fun j => va_rf (if j < n then some (K.2.1 (b + j)) else none))) rfl (fun q => by cases q) (by show ¬ (i < 0 ∨ (arrV _ _ _).slots.size ≤ _); rw [arrV_size]; exact hin) (by show (arrV _ _ _).slots[_]? = _; rw [arrV_read _ _ hlt]) rfl rfl hdg ?_
  rw [if_pos hlt]
  exact k2
theorem g_alen (C : gF X cc own ret nL R) (Kf : kF X K) {n : Nat} {v : Int32} (hq : kI K c n) (hv : Int32.ofNat n = v) (hdg : decode cc pc = .ok (.arraylength, 1)) (kk : gG X σ (pc + 1) lv (.int v :: st)) : gG X σ pc lv (.ref (K.2.1 c) :: st) := by
  obtain ⟨⟨p, l, e, R0, s, m, args, below, meth, co⟩, D, wl, A, nL0, cells, slots, Q⟩ := X
  obtain ⟨h1, h2, hK, hst⟩ := Kf
  dsimp only at h1 h2 hK hst
  subst h1
  subst h2
  intro H locs ls hP hD hS hl
  obtain ⟨hc, cA, t0, ht, hE⟩ := hq
  have ha := kwl_at K σ hc
  rw [hE] at ha
  exact va_alen C.1 C.2.1 hK hP c t0 ha ht hv hdg (kk H locs ls hP hD hS hl)
theorem g_sLet (C : gF X cc RX5 ret nL R) (Kf : kF X K) (hdg : decode cc pc = .ok (.getstatic index, 3)) (hw : Cond.fieldLink RX5 index RX5 "LETTERS" "[I" ∈ lw_tbl) (kk : gG X σ (pc + 3) lv (.ref K.2.2.2.2.2.1 :: st)) : gG X σ pc lv st := by
  obtain ⟨⟨p, l, e, R0, s, m, args, below, meth, co⟩, D, wl, A, nL0, cells, slots, Q⟩ := X
  obtain ⟨h1, h2, hK, hst⟩ := Kf
  dsimp only at h1 h2 hK hst
  subst h1
  subst h2
  intro H locs ls hP hD hS hl
  exact va_gets C.1 C.2.1 hst.1.1 hS C.2.2.2.2.1 (C.2.2.2.2.2.1 _ hw rfl _) (fun _ h => h) hdg (kk H locs ls hP hD hS hl)
theorem g_sWid (C : gF X cc RX5 ret nL R) (Kf : kF X K) (hdg : decode cc pc = .ok (.getstatic index, 3)) (hw : Cond.fieldLink RX5 index RX5 "WIDER" "[I" ∈ lw_tbl) (kk : gG X σ (pc + 3) lv (.ref K.2.2.2.2.2.2 :: st)) : gG X σ pc lv st := by
  obtain ⟨⟨p, l, e, R0, s, m, args, below, meth, co⟩, D, wl, A, nL0, cells, slots, Q⟩ := X
  obtain ⟨h1, h2, hK, hst⟩ := Kf
  dsimp only at h1 h2 hK hst
  subst h1
  subst h2
  intro H locs ls hP hD hS hl
  exact va_gets C.1 C.2.1 hst.2.1 hS C.2.2.2.2.1 (C.2.2.2.2.2.1 _ hw rfl _) (fun _ h => h) hdg (kk H locs ls hP hD hS hl)
theorem g_sLetN (C : gF X cc own ret nL R) (Kf : kF X K) (hdg : decode cc pc = .ok (.getstatic index, 3)) (hw : Cond.fieldLinkNest own index RX5 "LETTERS" "[I" host ∈ lw_tbl) (kk : gG X σ (pc + 3) lv (.ref K.2.2.2.2.2.1 :: st)) : gG X σ pc lv st := by
  obtain ⟨⟨p, l, e, R0, s, m, args, below, meth, co⟩, D, wl, A, nL0, cells, slots, Q⟩ := X
  obtain ⟨h1, h2, hK, hst⟩ := Kf
  dsimp only at h1 h2 hK hst
  subst h1
  subst h2
  intro H locs ls hP hD hS hl
  exact va_getsN C.1 C.2.1 hst.1.1 hS C.2.2.2.2.1 (C.2.2.2.2.2.1 _ hw rfl _) (fun _ h => h) hdg (kk H locs ls hP hD hS hl)
theorem g_sLetLd (C : gF X cc own ret nL R) (Kf : kF X K) {i : Int32} {Y : Option α} (hdg : decode cc pc = .ok (.iaload, 1)) (hf : gi i 6 Y = some o) (kk : Y = some o → gG X σ (pc + 1) lv (.int (sLet i.toNatClampNeg) :: st)) : gG X σ pc lv (.int i :: .ref K.2.2.2.2.2.1 :: st) := by
  obtain ⟨⟨p, l, e, R0, s, m, args, below, meth, co⟩, D, wl, A, nL0, cells, slots, Q⟩ := X
  obtain ⟨h1, h2, hK, hst⟩ := Kf
  dsimp only at h1 h2 hK hst
  subst h1
  subst h2
  intro H locs ls hP hD hS hl
  exact va_sld C.1 C.2.1 hst.1.2.1 hst.1.2.2.1 hst.1.2.2.2 hS (gi_some hf).1 hdg (kk (gi_some hf).2 H locs ls hP hD hS hl)
theorem g_sWidLd (C : gF X cc own ret nL R) (Kf : kF X K) {i : Int32} {Y : Option α} (hdg : decode cc pc = .ok (.iaload, 1)) (hf : gi i 6 Y = some o) (kk : Y = some o → gG X σ (pc + 1) lv (.int (sWid i.toNatClampNeg) :: st)) : gG X σ pc lv (.int i :: .ref K.2.2.2.2.2.2 :: st) := by
  obtain ⟨⟨p, l, e, R0, s, m, args, below, meth, co⟩, D, wl, A, nL0, cells, slots, Q⟩ := X
  obtain ⟨h1, h2, hK, hst⟩ := Kf
  dsimp only at h1 h2 hK hst
  subst h1
  subst h2
  intro H locs ls hP hD hS hl
  exact va_sld C.1 C.2.1 hst.2.2.1 hst.2.2.2.1 hst.2.2.2.2 hS (gi_some hf).1 hdg (kk (gi_some hf).2 H locs ls hP hD hS hl)
theorem g_ialdK (C : gF X cc own ret nL R) (Kf : kF X K) {n : Nat} {i : Int32} (j : Nat) {Y : Option α} (hj : i.toNatClampNeg = j) (hq : kI K c n) (hdg : decode cc pc = .ok (.iaload, 1)) (hf : gi i n Y = some o) (kk : Y = some o → gG X σ (pc + 1) lv (.int (σ.1 c j) :: st)) : gG X σ pc lv (.int i :: .ref (K.2.1 c) :: st) := by
  subst hj
  exact g_iald C Kf hq hdg hf kk
theorem g_ialdL (C : gF X cc own ret nL R) (Kf : kF X K) {n : Nat} {i : Int32} (j : Nat) (hj : i.toNatClampNeg = j) (hin : vp_in i n) (hq : kI K c n) (hdg : decode cc pc = .ok (.iaload, 1)) (kk : gG X σ (pc + 1) lv (.int (σ.1 c j) :: st)) : gG X σ pc lv (.int i :: .ref (K.2.1 c) :: st) :=
  g_ialdK C Kf (α := Unit) (o := ()) (Y := some ()) j hj hq hdg (if_neg hin) (fun _ => kk)
theorem g_zaldK (C : gF X cc own ret nL R) (Kf : kF X K) {n : Nat} {i : Int32} (j : Nat) {Y : Option α} (hj : i.toNatClampNeg = j) (hq : kZ K c n) (hdg : decode cc pc = .ok (.baload, 1)) (hf : gi i n Y = some o) (kk : Y = some o → gG X σ (pc + 1) lv (.int (σ.1 c j) :: st)) : gG X σ pc lv (.int i :: .ref (K.2.1 c) :: st) := by
  subst hj
  exact g_zald C Kf hq hdg hf kk
theorem g_zaldL (C : gF X cc own ret nL R) (Kf : kF X K) {n : Nat} {i : Int32} (j : Nat) (hj : i.toNatClampNeg = j) (hin : vp_in i n) (hq : kZ K c n) (hdg : decode cc pc = .ok (.baload, 1)) (kk : gG X σ (pc + 1) lv (.int (σ.1 c j) :: st)) : gG X σ pc lv (.int i :: .ref (K.2.1 c) :: st) :=
  g_zaldK C Kf (α := Unit) (o := ()) (Y := some ()) j hj hq hdg (if_neg hin) (fun _ => kk)
theorem g_iastK (C : gF X cc own ret nL R) (Kf : kF X K) {n : Nat} {i v : Int32} (j : Nat) {F : St → Option α} (hj : i.toNatClampNeg = j) (hq : kI K c n) (hdg : decode cc pc = .ok (.iastore, 1)) (hf : gi i n (bnd (wI σ c j v) F) = some o) (kk : ∀ σ, F σ = some o → gG X σ (pc + 1) lv st) : gG X σ pc lv (.int v :: .int i :: .ref (K.2.1 c) :: st) := by
  subst hj
  exact g_iast C Kf hq hdg hf kk
theorem g_iastL (C : gF X cc own ret nL R) (Kf : kF X K) {n : Nat} {i v : Int32} (j : Nat) {F : St → Option α} (hj : i.toNatClampNeg = j) (hin : vp_in i n) (hq : kI K c n) (hdg : decode cc pc = .ok (.iastore, 1)) (hf : bnd (wI σ c j v) F = some o) (kk : ∀ σ, F σ = some o → gG X σ (pc + 1) lv st) : gG X σ pc lv (.int v :: .int i :: .ref (K.2.1 c) :: st) :=
  g_iastK C Kf j hj hq hdg ((if_neg hin).trans hf) kk
theorem g_aaldL (C : gF X cc own ret nL R) (Kf : kF X K) {n b : Nat} {i : Int32} (c' : Nat) (hc' : b + i.toNatClampNeg = c') (hin : vp_in i n) (hq : kR K c n b) (hdg : decode cc pc = .ok (.aaload, 1)) (kk : gG X σ (pc + 1) lv (.ref (K.2.1 c') :: st)) : gG X σ pc lv (.int i :: .ref (K.2.1 c) :: st) := by
  subst hc'
  exact g_aald C Kf (α := Unit) (o := ()) (Y := some ()) hq hdg (if_neg hin) (fun _ _ => kk)
theorem g_iret (C : gF X cc own (some .int) nL R) (Kf : kF X K) {r : Int32} {σ' : St} (hR : gR X K (some (.int r)) σ') (hσ : σ = σ') (hdg : decode cc pc = .ok (.ireturn, 1)) : gG X σ pc lv [.int r] := by
  obtain ⟨⟨p, l, e, R0, s, m, args, below, meth, co⟩, D, wl, A, nL0, cells, slots, Q⟩ := X
  obtain ⟨h1, h2, hK, hst⟩ := Kf
  dsimp only at h1 h2 hK hst
  subst h1
  subst h2
  intro H locs ls hP hD hS hl
  subst hσ
  obtain ⟨r1, r2, r3⟩ := hR
  dsimp only at r1 r2 r3
  subst r1
  subst r2
  subst r3
  exact W.iret C.1 C.2.1 C.2.2.1 (fun t ht hW => ⟨⟨rfl, by rw [ht]; exact hP, hD⟩, hS.F ht⟩) hS.2.2 hdg C.2.2.2.2.2.2.2.1
theorem g_lret (C : gF X cc own (some .long) nL R) (Kf : kF X K) {r : Int64} {σ' : St} (hR : gR X K (some (.long r)) σ') (hσ : σ = σ') (hdg : decode cc pc = .ok (.lreturn, 1)) : gG X σ pc lv [.long r] := by
  obtain ⟨⟨p, l, e, R0, s, m, args, below, meth, co⟩, D, wl, A, nL0, cells, slots, Q⟩ := X
  obtain ⟨h1, h2, hK, hst⟩ := Kf
  dsimp only at h1 h2 hK hst
  subst h1
  subst h2
  intro H locs ls hP hD hS hl
  subst hσ
  obtain ⟨r1, r2, r3⟩ := hR
  dsimp only at r1 r2 r3
  subst r1
  subst r2
  subst r3
  exact W.lret C.1 C.2.1 C.2.2.1 (fun t ht hW => ⟨⟨rfl, by rw [ht]; exact hP, hD⟩, hS.F ht⟩) hS.2.2 hdg C.2.2.2.2.2.2.2.1
theorem g_vret (C : gF X cc own none nL R) (Kf : kF X K) {σ' : St} (hR : gR X K (none) σ') (hσ : σ = σ') (hdg : decode cc pc = .ok (.return_, 1)) : gG X σ pc lv [] := by
  obtain ⟨⟨p, l, e, R0, s, m, args, below, meth, co⟩, D, wl, A, nL0, cells, slots, Q⟩ := X
  obtain ⟨h1, h2, hK, hst⟩ := Kf
  dsimp only at h1 h2 hK hst
  subst h1
  subst h2
  intro H locs ls hP hD hS hl
  subst hσ
  obtain ⟨r1, r2, r3⟩ := hR
  dsimp only at r1 r2 r3
  subst r1
  subst r2
  subst r3
  exact W.vret C.1 C.2.1 C.2.2.1 (fun t ht hW => ⟨⟨rfl, by rw [ht]; exact hP, hD⟩, hS.F ht⟩) hS.2.2 hdg C.2.2.2.2.2.2.2.1
theorem g_zret (C : gF X cc own (some .boolean) nL R) (Kf : kF X K) {r : Int32} {σ' : St} (hR : gR X K (some (.int r)) σ') (hσ : σ = σ') (hb : r = 0 ∨ r = 1) (hdg : decode cc pc = .ok (.ireturn, 1)) : gG X σ pc lv [.int r] := by
  obtain ⟨⟨p, l, e, R0, s, m, args, below, meth, co⟩, D, wl, A, nL0, cells, slots, Q⟩ := X
  obtain ⟨h1, h2, hK, hst⟩ := Kf
  dsimp only at h1 h2 hK hst
  subst h1
  subst h2
  intro H locs ls hP hD hS hl
  subst hσ
  obtain ⟨r1, r2, r3⟩ := hR
  dsimp only at r1 r2 r3
  subst r1
  subst r2
  subst r3
  exact W.zret C.1 C.2.1 C.2.2.1 (nar_b hb) (fun t ht hW => ⟨⟨rfl, by rw [ht]; exact hP, hD⟩, hS.F ht⟩) hS.2.2 hdg C.2.2.2.2.2.2.2.1
theorem g_aret (C : gF X cc own (some (.array .int)) nL R) (Kf : kF X K) {a : Nat} {σ' : St} (hR : gR X K (some (.ref a)) σ') (hσ : σ = σ') (hdg : decode cc pc = .ok (.areturn, 1)) : gG X σ pc lv [.ref a] := by
  obtain ⟨⟨p, l, e, R0, s, m, args, below, meth, co⟩, D, wl, A, nL0, cells, slots, Q⟩ := X
  obtain ⟨h1, h2, hK, hst⟩ := Kf
  dsimp only at h1 h2 hK hst
  subst h1
  subst h2
  intro H locs ls hP hD hS hl
  subst hσ
  obtain ⟨r1, r2, r3⟩ := hR
  dsimp only at r1 r2 r3
  subst r1
  subst r2
  subst r3
  exact W.aret C.1 C.2.1 C.2.2.1 (Or.inr ⟨_, rfl⟩) (Or.inr ⟨_, rfl⟩) (fun t ht hW => ⟨⟨rfl, by rw [ht]; exact hP, hD⟩, hS.F ht⟩) hS.2.2 hdg C.2.2.2.2.2.2.2.1
/-- what the tables say of a method -/
def miV (y : MethodName) (cb : ByteArray) (mL : Nat) (rt : Option FieldType) (n : Nat) : Prop := Cond.code y cb mL rt ∈ lw_tbl ∧ Cond.initialized y.cls ∈ lw_tbl ∧ Cond.instanceMethod y ∈ lw_tbl ∧ Cond.selects y.cls y y ∈ lw_tbl ∧ (y.cls ≠ "java/lang/invoke/MethodHandle" ∧ y.cls ≠ "java/lang/invoke/VarHandle") ∧ (parseMethodDescriptor y.desc).map (fun d => d.parameters.length) = some n
def miS (y : MethodName) (cb : ByteArray) (mL : Nat) (rt : Option FieldType) (n : Nat) : Prop := Cond.code y cb mL rt ∈ lw_tbl ∧ Cond.initialized y.cls ∈ lw_tbl ∧ Cond.static y ∈ lw_tbl ∧ (y.cls ≠ "java/lang/invoke/MethodHandle" ∧ y.cls ≠ "java/lang/invoke/VarHandle") ∧ (parseMethodDescriptor y.desc).map (fun d => d.parameters.length) = some n
def rmOK (rm R : Room) (mL : Nat) : Prop := rm.cells = 0 ∧ rm.slots = 0 ∧ rm.frames + 1 ≤ R.frames ∧ 8 + (mL + 11) + rm.locals ≤ R.locals
theorem gPre_blind (K : Kx) (σ : St) (sz : Nat) (as : List Value) : FrameBlind (va_Pc as (gPre K σ sz)) := by
  intro a U g mk h
  obtain ⟨h0, h1, h2, h3, h4, h5, h6⟩ := h
  exact ⟨h0, h1, h2, va_K.moved (u := U) (U := U.calling g mk a) (Vm.Alike.refl U.vm) h3, h4, tbOK.warm (U := U.calling g mk a) (State.WarmedH.refl U) h5, h6.to (U := U.calling g mk a) (locs := []) (Vm.Alike.refl U.vm) va_S.rf (fun _ h => h)⟩
/-- behind a call -/
theorem g_back {S : Type} {p : Program} {l : Launch} {e : Env} {R0 : Room} {s : State} {m : MethodId} {args : Array Value} {below : List Frame} {meth : Method} {co : Code} {A : Nat → Prop} {cells slots : Nat} {Q : State → Prop} {H : Heap} {locs : List Loc} {ls : Array Slot} {st rest : List Value} {a : Array Value} {K : Kx} {v : Option Value} {σ1 : St} {A1 : Nat → Prop} {pc : Nat}
    (hr : va_Run p l e R0 s m args below meth co H locs cells slots 0 0 (F0 m pc ls st) rest (gQ K v σ1 A1 a) A1) (hS : va_S A s.heap H locs) (hA : ∀ q, A1 q → A q)
    (kk : ∀ (H1 : Heap) (locs1 : List Loc), va_P K.1 vwCl (kwl K σ1) H1 → va_D A1 (kwl K σ1) → (∀ q : Nat, q < H.size → ¬ A1 q → H1[q]? = H[q]?) → va_S A s.heap H1 locs1 → W p l e R0 s m args below meth co H1 locs1 cells slots Q (F0 m (pc + 3) ls (v.toList ++ rest))) : W p l e R0 s m args below meth co H locs cells slots Q (F0 m pc ls st) := by
  intro T hT X
  obtain ⟨v', st₀, t, T', L, h0, X', hL, e1, e2, ⟨⟨hv, hp, hd⟩, hz, hk⟩, stp⟩ := hr T hT X
  cases hv
  rw [h0] at hz hk
  obtain ⟨t2, a1, b1⟩ := kk T'.heap (locs ++ L) (by rw [e1]; exact hp) hd (fun q h1 h2 => by rw [e1]; exact hk q h1 h2)
    ⟨Nat.le_trans hS.1 (by rw [e1]; exact hz), fun q h1 h2 => by rw [e1, hk q (Nat.lt_of_lt_of_le h1 hS.1) (fun z => h2 (hA q z))]; exact hS.2.1 q h1 h2, fun q hq => by
      rcases List.mem_append.mp hq with h | h
      · exact hS.2.2 q h
      · exact hA _ (hL q h)⟩ T' rfl X'
  exact ⟨t2, stp t2 a1, b1⟩
theorem kwl_free {K : Kx} {A : Nat → Prop} {H0 H : Heap} {locs : List Loc} {σ : St} (hD : va_D A (kwl K σ)) (hS : va_S A H0 H locs) (hA : ∀ q, H0.size ≤ q → A q) : ∀ q, va_A (kwl K σ) H.size q → A q := by
  intro q h
  rcases h with ⟨k, e, h⟩ | h
  · exact hD.2 k (q, e) h
  · exact hA q (Nat.le_trans hS.1 h)
theorem g_cV (C : gF X cc own ret nL R) (Kf : kF X K) {y : MethodName} {cb : ByteArray} {mL n : Nat} {rt : Option FieldType} {rm : Room} {v : Option Value} {σ1 : St} {rest : List Value} (As : List Value) (hm : mC K X.1.2.1 y cb mL rt rm (.ref (K.2.1 c) :: As) σ v σ1) (mi : miV y cb mL rt n) (hO : kO K c ci) (hcl : vwCl[ci]? = some (y.cls, T, N)) (hlk : Cond.methodLink own index y ∈ lw_tbl) (hrm : rmOK rm R mL) (hn : As.length = n) (hstack : st = As.reverse ++ .ref (K.2.1 c) :: rest) (hcat : (rest.map fun v => v.category).sum ≤ 8) (hdg : decode cc pc = .ok (.invokevirtual index, 3)) (kk : gG X σ1 (pc + 3) lv (v.toList ++ rest)) : gG X σ pc lv st := by
  obtain ⟨⟨p, l, e, R0, s, m, args, below, meth, co⟩, D, wl, A, nL0, cells, slots, Q⟩ := X
  obtain ⟨h1, h2, hK, hst⟩ := Kf
  dsimp only at h1 h2 hK hst
  subst h1
  subst h2
  intro H locs ls hP hD hS hl
  subst hstack
  have hR0 : R0 = R := C.2.2.2.2.2.2.2.2.2.1
  have hA := kwl_free hD hS C.2.2.2.2.2.2.1
  have hws : ∀ w ∈ [Cond.code y cb mL rt], ∀ (a' : Array Value) (U : State), s.WarmedH U.vm → w.before a' U = true := fun w hw a' U hW => by
    rw [List.mem_singleton.mp hw]
    exact tbOK.warm hW C.2.2.2.2.2.1 _ mi.1 rfl a'
  have hsig : ∀ sig, parseMethodDescriptor y.desc = some sig → n = sig.parameters.length := fun sig h => by
    have h2 := mi.2.2.2.2.2
    rw [h] at h2
    exact (Option.some.inj h2).symm
  have hpre : ∀ U : State, U.heap = H → s.WarmedH U.vm → va_Pc (.ref (K.2.1 c) :: As) (gPre K σ H.size) (((.ref (K.2.1 c) :: As) : List Value)).toArray U := fun U hU hW => by
    refine ⟨rfl, by rw [hU], by rw [hU]; exact hP, va_K.moved hW.alike hK, hD.weaken (fun _ _ _ _ => trivial), tbOK.warm hW C.2.2.2.2.2.1, ?_⟩
    exact hst.to (locs := locs) hW.alike (by rw [hU]; exact hS) hA
  obtain ⟨hcN, hOO⟩ := hO
  obtain ⟨fs, hfs0⟩ := hOO (σ.1 c) (σ.2 c)
  have hfs := kwl_at K σ hcN
  rw [hfs0] at hfs
  refine g_back (S := St) (rest := rest) (A1 := va_A (kwl K σ) H.size) (va_runV (Ts := []) (As := As) (rest := rest) (nL := nL0) (own := own) ⟨C.1, C.2.1, C.2.2.2.1, C.2.2.2.2.1, fun _ h => absurd h List.not_mem_nil⟩ (hm H.size) ⟨⟨hrm.1, hrm.2.1, by rw [hR0]; exact hrm.2.2.1, by rw [hR0]; exact hrm.2.2.2, hws, List.mem_singleton.mpr rfl, C.2.2.2.2.2.1 _ mi.1 rfl _, C.2.2.2.2.2.1 _ mi.2.1 rfl _, mi.2.2.2.2.1, hsig, C.2.2.2.2.2.1 _ hlk rfl _⟩, C.2.2.2.2.2.1 _ mi.2.2.1 rfl _, C.2.2.2.2.2.1 _ mi.2.2.2.1 rfl _⟩ ⟨gPre_blind K σ _ _, va_recv hK hP hcl hfs, hpre⟩ rfl hn hl.1 rfl (lv_room hcat) hdg ⟨C.2.2.2.2.2.2.2.2.2.2.1, C.2.2.2.2.2.2.2.2.2.2.2⟩) hS hA (fun H1 locs1 hP1 hD1 _ hS1 => ?_)
  exact kk H1 locs1 ls hP1 (hD1.weaken (fun _ q _ h => hA q.1 h)) hS1 hl
theorem g_cVN (C : gF X cc own ret nL R) (Kf : kF X K) {y : MethodName} {cb : ByteArray} {mL n : Nat} {rt : Option FieldType} {rm : Room} {v : Option Value} {σ1 : St} {rest : List Value} (As : List Value) (hm : mC K X.1.2.1 y cb mL rt rm (.ref (K.2.1 c) :: As) σ v σ1) (mi : miV y cb mL rt n) (hO : kO K c ci) (hcl : vwCl[ci]? = some (y.cls, T, N)) (hlk : Cond.methodLinkNest own index y host ∈ lw_tbl) (hrm : rmOK rm R mL) (hn : As.length = n) (hstack : st = As.reverse ++ .ref (K.2.1 c) :: rest) (hcat : (rest.map fun v => v.category).sum ≤ 8) (hdg : decode cc pc = .ok (.invokevirtual index, 3)) (kk : gG X σ1 (pc + 3) lv (v.toList ++ rest)) : gG X σ pc lv st := by
  obtain ⟨⟨p, l, e, R0, s, m, args, below, meth, co⟩, D, wl, A, nL0, cells, slots, Q⟩ := X
  obtain ⟨h1, h2, hK, hst⟩ := Kf
  dsimp only at h1 h2 hK hst
  subst h1
  subst h2
  intro H locs ls hP hD hS hl
  subst hstack
  have hR0 : R0 = R := C.2.2.2.2.2.2.2.2.2.1
  have hA := kwl_free hD hS C.2.2.2.2.2.2.1
  have hws : ∀ w ∈ [Cond.code y cb mL rt], ∀ (a' : Array Value) (U : State), s.WarmedH U.vm → w.before a' U = true := fun w hw a' U hW => by
    rw [List.mem_singleton.mp hw]
    exact tbOK.warm hW C.2.2.2.2.2.1 _ mi.1 rfl a'
  have hsig : ∀ sig, parseMethodDescriptor y.desc = some sig → n = sig.parameters.length := fun sig h => by
    have h2 := mi.2.2.2.2.2
    rw [h] at h2
    exact (Option.some.inj h2).symm
  have hpre : ∀ U : State, U.heap = H → s.WarmedH U.vm → va_Pc (.ref (K.2.1 c) :: As) (gPre K σ H.size) (((.ref (K.2.1 c) :: As) : List Value)).toArray U := fun U hU hW => by
    refine ⟨rfl, by rw [hU], by rw [hU]; exact hP, va_K.moved hW.alike hK, hD.weaken (fun _ _ _ _ => trivial), tbOK.warm hW C.2.2.2.2.2.1, ?_⟩
    exact hst.to (locs := locs) hW.alike (by rw [hU]; exact hS) hA
  obtain ⟨hcN, hOO⟩ := hO
  obtain ⟨fs, hfs0⟩ := hOO (σ.1 c) (σ.2 c)
  have hfs := kwl_at K σ hcN
  rw [hfs0] at hfs
  refine g_back (S := St) (rest := rest) (A1 := va_A (kwl K σ) H.size) (va_runVN (Ts := []) (As := As) (rest := rest) (nL := nL0) (own := own) ⟨C.1, C.2.1, C.2.2.2.1, C.2.2.2.2.1, fun _ h => absurd h List.not_mem_nil⟩ (hm H.size) ⟨⟨⟨hrm.1, hrm.2.1, by rw [hR0]; exact hrm.2.2.1, by rw [hR0]; exact hrm.2.2.2, hws, List.mem_singleton.mpr rfl⟩, C.2.2.2.2.2.1 _ mi.1 rfl _, C.2.2.2.2.2.1 _ mi.2.1 rfl _, mi.2.2.2.2.1, hsig, C.2.2.2.2.2.1 _ hlk rfl _⟩, C.2.2.2.2.2.1 _ mi.2.2.1 rfl _, C.2.2.2.2.2.1 _ mi.2.2.2.1 rfl _⟩ ⟨gPre_blind K σ _ _, va_recv hK hP hcl hfs, hpre⟩ rfl hn hl.1 rfl (lv_room hcat) hdg ⟨C.2.2.2.2.2.2.2.2.2.2.1, C.2.2.2.2.2.2.2.2.2.2.2⟩) hS hA (fun H1 locs1 hP1 hD1 _ hS1 => ?_)
  exact kk H1 locs1 ls hP1 (hD1.weaken (fun _ q _ h => hA q.1 h)) hS1 hl
theorem g_cS (C : gF X cc own ret nL R) (Kf : kF X K) {y : MethodName} {cb : ByteArray} {mL n : Nat} {rt : Option FieldType} {rm : Room} {v : Option Value} {σ1 : St} {rest : List Value} (As : List Value) (hm : mC K X.1.2.1 y cb mL rt rm As σ v σ1) (mi : miS y cb mL rt n) (hlk : Cond.methodLink own index y ∈ lw_tbl) (hrm : rmOK rm R mL) (hn : As.length = n) (hstack : st = As.reverse ++ rest) (hcat : (rest.map fun v => v.category).sum ≤ 8) (hdg : decode cc pc = .ok (.invokestatic index, 3)) (kk : gG X σ1 (pc + 3) lv (v.toList ++ rest)) : gG X σ pc lv st := by
  obtain ⟨⟨p, l, e, R0, s, m, args, below, meth, co⟩, D, wl, A, nL0, cells, slots, Q⟩ := X
  obtain ⟨h1, h2, hK, hst⟩ := Kf
  dsimp only at h1 h2 hK hst
  subst h1
  subst h2
  intro H locs ls hP hD hS hl
  subst hstack
  have hR0 : R0 = R := C.2.2.2.2.2.2.2.2.2.1
  have hA := kwl_free hD hS C.2.2.2.2.2.2.1
  have hws : ∀ w ∈ [Cond.code y cb mL rt], ∀ (a' : Array Value) (U : State), s.WarmedH U.vm → w.before a' U = true := fun w hw a' U hW => by
    rw [List.mem_singleton.mp hw]
    exact tbOK.warm hW C.2.2.2.2.2.1 _ mi.1 rfl a'
  have hsig : ∀ sig, parseMethodDescriptor y.desc = some sig → n = sig.parameters.length := fun sig h => by
    have h2 := mi.2.2.2.2
    rw [h] at h2
    exact (Option.some.inj h2).symm
  have hpre : ∀ U : State, U.heap = H → s.WarmedH U.vm → va_Pc As (gPre K σ H.size) ((As : List Value)).toArray U := fun U hU hW => by
    refine ⟨rfl, by rw [hU], by rw [hU]; exact hP, va_K.moved hW.alike hK, hD.weaken (fun _ _ _ _ => trivial), tbOK.warm hW C.2.2.2.2.2.1, ?_⟩
    exact hst.to (locs := locs) hW.alike (by rw [hU]; exact hS) hA
  refine g_back (S := St) (rest := rest) (A1 := va_A (kwl K σ) H.size) (va_runS (Ts := []) (As := As) (rest := rest) (nL := nL0) (own := own) ⟨C.1, C.2.1, C.2.2.2.1, C.2.2.2.2.1, fun _ h => absurd h List.not_mem_nil⟩ (hm H.size) ⟨⟨hrm.1, hrm.2.1, by rw [hR0]; exact hrm.2.2.1, by rw [hR0]; exact hrm.2.2.2, hws, List.mem_singleton.mpr rfl, C.2.2.2.2.2.1 _ mi.1 rfl _, C.2.2.2.2.2.1 _ mi.2.1 rfl _, mi.2.2.2.1, hsig, C.2.2.2.2.2.1 _ hlk rfl _⟩, C.2.2.2.2.2.1 _ mi.2.2.1 rfl _⟩ ⟨gPre_blind K σ _ _, hpre⟩ rfl hn hl.1 rfl (lv_room hcat) hdg ⟨C.2.2.2.2.2.2.2.2.2.2.1, C.2.2.2.2.2.2.2.2.2.2.2⟩) hS hA (fun H1 locs1 hP1 hD1 _ hS1 => ?_)
  exact kk H1 locs1 ls hP1 (hD1.weaken (fun _ q _ h => hA q.1 h)) hS1 hl
theorem g_cSN (C : gF X cc own ret nL R) (Kf : kF X K) {y : MethodName} {cb : ByteArray} {mL n : Nat} {rt : Option FieldType} {rm : Room} {v : Option Value} {σ1 : St} {rest : List Value} (As : List Value) (hm : mC K X.1.2.1 y cb mL rt rm As σ v σ1) (mi : miS y cb mL rt n) (hlk : Cond.methodLinkNest own index y host ∈ lw_tbl) (hrm : rmOK rm R mL) (hn : As.length = n) (hstack : st = As.reverse ++ rest) (hcat : (rest.map fun v => v.category).sum ≤ 8) (hdg : decode cc pc = .ok (.invokestatic index, 3)) (kk : gG X σ1 (pc + 3) lv (v.toList ++ rest)) : gG X σ pc lv st := by
  obtain ⟨⟨p, l, e, R0, s, m, args, below, meth, co⟩, D, wl, A, nL0, cells, slots, Q⟩ := X
  obtain ⟨h1, h2, hK, hst⟩ := Kf
  dsimp only at h1 h2 hK hst
  subst h1
  subst h2
  intro H locs ls hP hD hS hl
  subst hstack
  have hR0 : R0 = R := C.2.2.2.2.2.2.2.2.2.1
  have hA := kwl_free hD hS C.2.2.2.2.2.2.1
  have hws : ∀ w ∈ [Cond.code y cb mL rt], ∀ (a' : Array Value) (U : State), s.WarmedH U.vm → w.before a' U = true := fun w hw a' U hW => by
    rw [List.mem_singleton.mp hw]
    exact tbOK.warm hW C.2.2.2.2.2.1 _ mi.1 rfl a'
  have hsig : ∀ sig, parseMethodDescriptor y.desc = some sig → n = sig.parameters.length := fun sig h => by
    have h2 := mi.2.2.2.2
    rw [h] at h2
    exact (Option.some.inj h2).symm
  have hpre : ∀ U : State, U.heap = H → s.WarmedH U.vm → va_Pc As (gPre K σ H.size) ((As : List Value)).toArray U := fun U hU hW => by
    refine ⟨rfl, by rw [hU], by rw [hU]; exact hP, va_K.moved hW.alike hK, hD.weaken (fun _ _ _ _ => trivial), tbOK.warm hW C.2.2.2.2.2.1, ?_⟩
    exact hst.to (locs := locs) hW.alike (by rw [hU]; exact hS) hA
  refine g_back (S := St) (rest := rest) (A1 := va_A (kwl K σ) H.size) (va_runSN (Ts := []) (As := As) (rest := rest) (nL := nL0) (own := own) ⟨C.1, C.2.1, C.2.2.2.1, C.2.2.2.2.1, fun _ h => absurd h List.not_mem_nil⟩ (hm H.size) ⟨⟨⟨hrm.1, hrm.2.1, by rw [hR0]; exact hrm.2.2.1, by rw [hR0]; exact hrm.2.2.2, hws, List.mem_singleton.mpr rfl⟩, C.2.2.2.2.2.1 _ mi.1 rfl _, C.2.2.2.2.2.1 _ mi.2.1 rfl _, mi.2.2.2.1, hsig, C.2.2.2.2.2.1 _ hlk rfl _⟩, C.2.2.2.2.2.1 _ mi.2.2.1 rfl _, trivial⟩ ⟨gPre_blind K σ _ _, hpre⟩ rfl hn hl.1 rfl (lv_room hcat) hdg ⟨C.2.2.2.2.2.2.2.2.2.2.1, C.2.2.2.2.2.2.2.2.2.2.2⟩) hS hA (fun H1 locs1 hP1 hD1 _ hS1 => ?_)
  exact kk H1 locs1 ls hP1 (hD1.weaken (fun _ q _ h => hA q.1 h)) hS1 hl
theorem g_cV_i (C : gF X cc own ret nL R) (Kf : kF X K) {y : MethodName} {cb : ByteArray} {mL n : Nat} {rt : Option FieldType} {rm : Room} {r : Int32} {σ1 : St} {rest : List Value} (As : List Value) (hm : mC K X.1.2.1 y cb mL rt rm (.ref (K.2.1 c) :: As) σ (some (.int r)) σ1) (mi : miV y cb mL rt n) (hO : kO K c ci) (hcl : vwCl[ci]? = some (y.cls, T, N)) (hlk : Cond.methodLink own index y ∈ lw_tbl) (hrm : rmOK rm R mL) (hn : As.length = n) (hstack : st = As.reverse ++ .ref (K.2.1 c) :: rest) (hcat : (rest.map fun v => v.category).sum ≤ 8) (hdg : decode cc pc = .ok (.invokevirtual index, 3)) (kk : gG X σ1 (pc + 3) lv (.int r :: rest)) : gG X σ pc lv st :=
  g_cV C Kf As hm mi hO hcl hlk hrm hn hstack hcat hdg kk
theorem g_cV_l (C : gF X cc own ret nL R) (Kf : kF X K) {y : MethodName} {cb : ByteArray} {mL n : Nat} {rt : Option FieldType} {rm : Room} {r : Int64} {σ1 : St} {rest : List Value} (As : List Value) (hm : mC K X.1.2.1 y cb mL rt rm (.ref (K.2.1 c) :: As) σ (some (.long r)) σ1) (mi : miV y cb mL rt n) (hO : kO K c ci) (hcl : vwCl[ci]? = some (y.cls, T, N)) (hlk : Cond.methodLink own index y ∈ lw_tbl) (hrm : rmOK rm R mL) (hn : As.length = n) (hstack : st = As.reverse ++ .ref (K.2.1 c) :: rest) (hcat : (rest.map fun v => v.category).sum ≤ 8) (hdg : decode cc pc = .ok (.invokevirtual index, 3)) (kk : gG X σ1 (pc + 3) lv (.long r :: rest)) : gG X σ pc lv st :=
  g_cV C Kf As hm mi hO hcl hlk hrm hn hstack hcat hdg kk
theorem g_cV_r (C : gF X cc own ret nL R) (Kf : kF X K) {y : MethodName} {cb : ByteArray} {mL n : Nat} {rt : Option FieldType} {rm : Room} {r : Nat} {σ1 : St} {rest : List Value} (As : List Value) (hm : mC K X.1.2.1 y cb mL rt rm (.ref (K.2.1 c) :: As) σ (some (.ref r)) σ1) (mi : miV y cb mL rt n) (hO : kO K c ci) (hcl : vwCl[ci]? = some (y.cls, T, N)) (hlk : Cond.methodLink own index y ∈ lw_tbl) (hrm : rmOK rm R mL) (hn : As.length = n) (hstack : st = As.reverse ++ .ref (K.2.1 c) :: rest) (hcat : (rest.map fun v => v.category).sum ≤ 8) (hdg : decode cc pc = .ok (.invokevirtual index, 3)) (kk : gG X σ1 (pc + 3) lv (.ref r :: rest)) : gG X σ pc lv st :=
  g_cV C Kf As hm mi hO hcl hlk hrm hn hstack hcat hdg kk
theorem g_cV_v (C : gF X cc own ret nL R) (Kf : kF X K) {y : MethodName} {cb : ByteArray} {mL n : Nat} {rt : Option FieldType} {rm : Room} {σ1 : St} {rest : List Value} (As : List Value) (hm : mC K X.1.2.1 y cb mL rt rm (.ref (K.2.1 c) :: As) σ none σ1) (mi : miV y cb mL rt n) (hO : kO K c ci) (hcl : vwCl[ci]? = some (y.cls, T, N)) (hlk : Cond.methodLink own index y ∈ lw_tbl) (hrm : rmOK rm R mL) (hn : As.length = n) (hstack : st = As.reverse ++ .ref (K.2.1 c) :: rest) (hcat : (rest.map fun v => v.category).sum ≤ 8) (hdg : decode cc pc = .ok (.invokevirtual index, 3)) (kk : gG X σ1 (pc + 3) lv (rest)) : gG X σ pc lv st :=
  g_cV C Kf As hm mi hO hcl hlk hrm hn hstack hcat hdg kk
theorem g_cVN_i (C : gF X cc own ret nL R) (Kf : kF X K) {y : MethodName} {cb : ByteArray} {mL n : Nat} {rt : Option FieldType} {rm : Room} {r : Int32} {σ1 : St} {rest : List Value} (As : List Value) (hm : mC K X.1.2.1 y cb mL rt rm (.ref (K.2.1 c) :: As) σ (some (.int r)) σ1) (mi : miV y cb mL rt n) (hO : kO K c ci) (hcl : vwCl[ci]? = some (y.cls, T, N)) (hlk : Cond.methodLinkNest own index y host ∈ lw_tbl) (hrm : rmOK rm R mL) (hn : As.length = n) (hstack : st = As.reverse ++ .ref (K.2.1 c) :: rest) (hcat : (rest.map fun v => v.category).sum ≤ 8) (hdg : decode cc pc = .ok (.invokevirtual index, 3)) (kk : gG X σ1 (pc + 3) lv (.int r :: rest)) : gG X σ pc lv st :=
  g_cVN C Kf As hm mi hO hcl hlk hrm hn hstack hcat hdg kk
theorem g_cVN_l (C : gF X cc own ret nL R) (Kf : kF X K) {y : MethodName} {cb : ByteArray} {mL n : Nat} {rt : Option FieldType} {rm : Room} {r : Int64} {σ1 : St} {rest : List Value} (As : List Value) (hm : mC K X.1.2.1 y cb mL rt rm (.ref (K.2.1 c) :: As) σ (some (.long r)) σ1) (mi : miV y cb mL rt n) (hO : kO K c ci) (hcl : vwCl[ci]? = some (y.cls, T, N)) (hlk : Cond.methodLinkNest own index y host ∈ lw_tbl) (hrm : rmOK rm R mL) (hn : As.length = n) (hstack : st = As.reverse ++ .ref (K.2.1 c) :: rest) (hcat : (rest.map fun v => v.category).sum ≤ 8) (hdg : decode cc pc = .ok (.invokevirtual index, 3)) (kk : gG X σ1 (pc + 3) lv (.long r :: rest)) : gG X σ pc lv st :=
  g_cVN C Kf As hm mi hO hcl hlk hrm hn hstack hcat hdg kk
theorem g_cVN_r (C : gF X cc own ret nL R) (Kf : kF X K) {y : MethodName} {cb : ByteArray} {mL n : Nat} {rt : Option FieldType} {rm : Room} {r : Nat} {σ1 : St} {rest : List Value} (As : List Value) (hm : mC K X.1.2.1 y cb mL rt rm (.ref (K.2.1 c) :: As) σ (some (.ref r)) σ1) (mi : miV y cb mL rt n) (hO : kO K c ci) (hcl : vwCl[ci]? = some (y.cls, T, N)) (hlk : Cond.methodLinkNest own index y host ∈ lw_tbl) (hrm : rmOK rm R mL) (hn : As.length = n) (hstack : st = As.reverse ++ .ref (K.2.1 c) :: rest) (hcat : (rest.map fun v => v.category).sum ≤ 8) (hdg : decode cc pc = .ok (.invokevirtual index, 3)) (kk : gG X σ1 (pc + 3) lv (.ref r :: rest)) : gG X σ pc lv st :=
  g_cVN C Kf As hm mi hO hcl hlk hrm hn hstack hcat hdg kk
theorem g_cVN_v (C : gF X cc own ret nL R) (Kf : kF X K) {y : MethodName} {cb : ByteArray} {mL n : Nat} {rt : Option FieldType} {rm : Room} {σ1 : St} {rest : List Value} (As : List Value) (hm : mC K X.1.2.1 y cb mL rt rm (.ref (K.2.1 c) :: As) σ none σ1) (mi : miV y cb mL rt n) (hO : kO K c ci) (hcl : vwCl[ci]? = some (y.cls, T, N)) (hlk : Cond.methodLinkNest own index y host ∈ lw_tbl) (hrm : rmOK rm R mL) (hn : As.length = n) (hstack : st = As.reverse ++ .ref (K.2.1 c) :: rest) (hcat : (rest.map fun v => v.category).sum ≤ 8) (hdg : decode cc pc = .ok (.invokevirtual index, 3)) (kk : gG X σ1 (pc + 3) lv (rest)) : gG X σ pc lv st :=
  g_cVN C Kf As hm mi hO hcl hlk hrm hn hstack hcat hdg kk
theorem g_cS_i (C : gF X cc own ret nL R) (Kf : kF X K) {y : MethodName} {cb : ByteArray} {mL n : Nat} {rt : Option FieldType} {rm : Room} {r : Int32} {σ1 : St} {rest : List Value} (As : List Value) (hm : mC K X.1.2.1 y cb mL rt rm As σ (some (.int r)) σ1) (mi : miS y cb mL rt n) (hlk : Cond.methodLink own index y ∈ lw_tbl) (hrm : rmOK rm R mL) (hn : As.length = n) (hstack : st = As.reverse ++ rest) (hcat : (rest.map fun v => v.category).sum ≤ 8) (hdg : decode cc pc = .ok (.invokestatic index, 3)) (kk : gG X σ1 (pc + 3) lv (.int r :: rest)) : gG X σ pc lv st :=
  g_cS C Kf As hm mi hlk hrm hn hstack hcat hdg kk
theorem g_cS_l (C : gF X cc own ret nL R) (Kf : kF X K) {y : MethodName} {cb : ByteArray} {mL n : Nat} {rt : Option FieldType} {rm : Room} {r : Int64} {σ1 : St} {rest : List Value} (As : List Value) (hm : mC K X.1.2.1 y cb mL rt rm As σ (some (.long r)) σ1) (mi : miS y cb mL rt n) (hlk : Cond.methodLink own index y ∈ lw_tbl) (hrm : rmOK rm R mL) (hn : As.length = n) (hstack : st = As.reverse ++ rest) (hcat : (rest.map fun v => v.category).sum ≤ 8) (hdg : decode cc pc = .ok (.invokestatic index, 3)) (kk : gG X σ1 (pc + 3) lv (.long r :: rest)) : gG X σ pc lv st :=
  g_cS C Kf As hm mi hlk hrm hn hstack hcat hdg kk
theorem g_cS_r (C : gF X cc own ret nL R) (Kf : kF X K) {y : MethodName} {cb : ByteArray} {mL n : Nat} {rt : Option FieldType} {rm : Room} {r : Nat} {σ1 : St} {rest : List Value} (As : List Value) (hm : mC K X.1.2.1 y cb mL rt rm As σ (some (.ref r)) σ1) (mi : miS y cb mL rt n) (hlk : Cond.methodLink own index y ∈ lw_tbl) (hrm : rmOK rm R mL) (hn : As.length = n) (hstack : st = As.reverse ++ rest) (hcat : (rest.map fun v => v.category).sum ≤ 8) (hdg : decode cc pc = .ok (.invokestatic index, 3)) (kk : gG X σ1 (pc + 3) lv (.ref r :: rest)) : gG X σ pc lv st :=
  g_cS C Kf As hm mi hlk hrm hn hstack hcat hdg kk
theorem g_cS_v (C : gF X cc own ret nL R) (Kf : kF X K) {y : MethodName} {cb : ByteArray} {mL n : Nat} {rt : Option FieldType} {rm : Room} {σ1 : St} {rest : List Value} (As : List Value) (hm : mC K X.1.2.1 y cb mL rt rm As σ none σ1) (mi : miS y cb mL rt n) (hlk : Cond.methodLink own index y ∈ lw_tbl) (hrm : rmOK rm R mL) (hn : As.length = n) (hstack : st = As.reverse ++ rest) (hcat : (rest.map fun v => v.category).sum ≤ 8) (hdg : decode cc pc = .ok (.invokestatic index, 3)) (kk : gG X σ1 (pc + 3) lv (rest)) : gG X σ pc lv st :=
  g_cS C Kf As hm mi hlk hrm hn hstack hcat hdg kk
theorem g_cSN_i (C : gF X cc own ret nL R) (Kf : kF X K) {y : MethodName} {cb : ByteArray} {mL n : Nat} {rt : Option FieldType} {rm : Room} {r : Int32} {σ1 : St} {rest : List Value} (As : List Value) (hm : mC K X.1.2.1 y cb mL rt rm As σ (some (.int r)) σ1) (mi : miS y cb mL rt n) (hlk : Cond.methodLinkNest own index y host ∈ lw_tbl) (hrm : rmOK rm R mL) (hn : As.length = n) (hstack : st = As.reverse ++ rest) (hcat : (rest.map fun v => v.category).sum ≤ 8) (hdg : decode cc pc = .ok (.invokestatic index, 3)) (kk : gG X σ1 (pc + 3) lv (.int r :: rest)) : gG X σ pc lv st :=
  g_cSN C Kf As hm mi hlk hrm hn hstack hcat hdg kk
theorem g_cSN_l (C : gF X cc own ret nL R) (Kf : kF X K) {y : MethodName} {cb : ByteArray} {mL n : Nat} {rt : Option FieldType} {rm : Room} {r : Int64} {σ1 : St} {rest : List Value} (As : List Value) (hm : mC K X.1.2.1 y cb mL rt rm As σ (some (.long r)) σ1) (mi : miS y cb mL rt n) (hlk : Cond.methodLinkNest own index y host ∈ lw_tbl) (hrm : rmOK rm R mL) (hn : As.length = n) (hstack : st = As.reverse ++ rest) (hcat : (rest.map fun v => v.category).sum ≤ 8) (hdg : decode cc pc = .ok (.invokestatic index, 3)) (kk : gG X σ1 (pc + 3) lv (.long r :: rest)) : gG X σ pc lv st :=
  g_cSN C Kf As hm mi hlk hrm hn hstack hcat hdg kk
theorem g_cSN_r (C : gF X cc own ret nL R) (Kf : kF X K) {y : MethodName} {cb : ByteArray} {mL n : Nat} {rt : Option FieldType} {rm : Room} {r : Nat} {σ1 : St} {rest : List Value} (As : List Value) (hm : mC K X.1.2.1 y cb mL rt rm As σ (some (.ref r)) σ1) (mi : miS y cb mL rt n) (hlk : Cond.methodLinkNest own index y host ∈ lw_tbl) (hrm : rmOK rm R mL) (hn : As.length = n) (hstack : st = As.reverse ++ rest) (hcat : (rest.map fun v => v.category).sum ≤ 8) (hdg : decode cc pc = .ok (.invokestatic index, 3)) (kk : gG X σ1 (pc + 3) lv (.ref r :: rest)) : gG X σ pc lv st :=
  g_cSN C Kf As hm mi hlk hrm hn hstack hcat hdg kk
theorem g_cSN_v (C : gF X cc own ret nL R) (Kf : kF X K) {y : MethodName} {cb : ByteArray} {mL n : Nat} {rt : Option FieldType} {rm : Room} {σ1 : St} {rest : List Value} (As : List Value) (hm : mC K X.1.2.1 y cb mL rt rm As σ none σ1) (mi : miS y cb mL rt n) (hlk : Cond.methodLinkNest own index y host ∈ lw_tbl) (hrm : rmOK rm R mL) (hn : As.length = n) (hstack : st = As.reverse ++ rest) (hcat : (rest.map fun v => v.category).sum ≤ 8) (hdg : decode cc pc = .ok (.invokestatic index, 3)) (kk : gG X σ1 (pc + 3) lv (rest)) : gG X σ pc lv st :=
  g_cSN C Kf As hm mi hlk hrm hn hstack hcat hdg kk
theorem g_iretP (C : gF X cc own (some .int) nL R) (Kf : kF X K) {e r : Int32} {σ' : St} (hR : gR X K (some (.int r)) σ') (hdg : decode cc pc = .ok (.ireturn, 1)) (hf : some (e, σ) = some (r, σ')) : gG X σ pc lv [.int e] := by
  cases hf
  exact g_iret C Kf hR rfl hdg
theorem g_iretR (C : gF X cc own (some .int) nL R) (Kf : kF X K) {e r : Int32} (hR : gR X K (some (.int r)) σ) (hdg : decode cc pc = .ok (.ireturn, 1)) (hf : some e = some r) : gG X σ pc lv [.int e] := by
  cases hf
  exact g_iret C Kf hR rfl hdg
theorem g_lretP (C : gF X cc own (some .long) nL R) (Kf : kF X K) {e r : Int64} {σ' : St} (hR : gR X K (some (.long r)) σ') (hdg : decode cc pc = .ok (.lreturn, 1)) (hf : some (e, σ) = some (r, σ')) : gG X σ pc lv [.long e] := by
  cases hf
  exact g_lret C Kf hR rfl hdg
theorem g_lretR (C : gF X cc own (some .long) nL R) (Kf : kF X K) {e r : Int64} (hR : gR X K (some (.long r)) σ) (hdg : decode cc pc = .ok (.lreturn, 1)) (hf : some e = some r) : gG X σ pc lv [.long e] := by
  cases hf
  exact g_lret C Kf hR rfl hdg
theorem g_zretP (C : gF X cc own (some .boolean) nL R) (Kf : kF X K) {e r : Int32} {σ' : St} (hR : gR X K (some (.int r)) σ') (hb : e = 0 ∨ e = 1) (hdg : decode cc pc = .ok (.ireturn, 1)) (hf : some (e, σ) = some (r, σ')) : gG X σ pc lv [.int e] := by
  cases hf
  exact g_zret C Kf hR rfl hb hdg
theorem g_zretR (C : gF X cc own (some .boolean) nL R) (Kf : kF X K) {e r : Int32} (hR : gR X K (some (.int r)) σ) (hb : e = 0 ∨ e = 1) (hdg : decode cc pc = .ok (.ireturn, 1)) (hf : some e = some r) : gG X σ pc lv [.int e] := by
  cases hf
  exact g_zret C Kf hR rfl hb hdg
theorem g_zretPB (C : gF X cc own (some .boolean) nL R) (Kf : kF X K) {e r : Int32} {σ' : St} (hR : gR X K (some (.int r)) σ') (hdg : decode cc pc = .ok (.ireturn, 1)) (hf : bz e (some (e, σ)) = some (r, σ')) : gG X σ pc lv [.int e] := g_zretP C Kf hR (bz_some hf).1 hdg (bz_some hf).2
theorem g_zretRB (C : gF X cc own (some .boolean) nL R) (Kf : kF X K) {e r : Int32} (hR : gR X K (some (.int r)) σ) (hdg : decode cc pc = .ok (.ireturn, 1)) (hf : bz e (some e) = some r) : gG X σ pc lv [.int e] := g_zretR C Kf hR (bz_some hf).1 hdg (bz_some hf).2
theorem g_aretP (C : gF X cc own (some (.array .int)) nL R) (Kf : kF X K) {e r : Nat} {σ' : St} (hR : gR X K (some (.ref (K.2.1 r))) σ') (hdg : decode cc pc = .ok (.areturn, 1)) (hf : some (e, σ) = some (r, σ')) : gG X σ pc lv [.ref (K.2.1 e)] := by
  cases hf
  exact g_aret C Kf hR rfl hdg
theorem g_vretP (C : gF X cc own none nL R) (Kf : kF X K) {σ' : St} (hR : gR X K none σ') (hdg : decode cc pc = .ok (.return_, 1)) (hf : some σ = some σ') : gG X σ pc lv [] := by
  cases hf
  exact g_vret C Kf hR rfl hdg
theorem g_jn {γ : Type} {J : γ} {F : γ → Option α} {P : Prop} (hf : jn J F = some o) (k : ∀ j, j = J → F j = some o → P) : P := k J rfl hf
theorem sw_ne {x v : Int32} {n : Int} (hv : v.toInt = n) (h : ¬ x = v) : x.toInt ≠ n := fun e => h (Int32.toInt_inj.mp (e.trans hv.symm))
theorem g_lookV {S : Type} {X : Gx S} {σ : S} (C : gF X cc own ret nL R) {dflt : Int} {ps : Array (Int × Int)} {len : Nat} {x v : Int32} {off : Int} (tgt : Nat) (hx : x = v) (hdg : decode cc pc = .ok (.lookupswitch dflt ps, len)) (hp : (ps.toList.zip (ps.toList.drop 1)).all (fun (a, next) => a.1 < next.1) = true) (ho : Op.lookupswitch.offset ps.toList dflt v.toInt = off) (ht : (pc : Int) + off = (tgt : Int)) (k : gG X σ tgt lv st) : gG X σ pc lv (.int x :: st) := by
  subst hx
  exact g_look C tgt hdg hp ho ht k
end GH
/-- a method's contract out of its walk -/
theorem g_entry {K : Kx} {l : Launch} {y : MethodName} {cc : ByteArray} {maxL : Nat} {ret : Option FieldType} {rm : Room} {as : List Value} {σ : St} {v : Option Value} {σ' : St} {own : String} (ho : y.cls = own) (hy : plainName y.cls = true) (hlen : (lg_sl as).length ≤ maxL)
    (body : ∀ X : Gx St, X.1.2.1 = l → gF X cc own ret maxL rm → kF X K → gR X K v σ' → gG X σ 0 (lv_args 0 as) []) : mC K l y cc maxL ret rm as σ v σ' := by
  subst ho
  intro sz
  refine Met.ofW (cc := cc) (maxL := maxL) (ret := ret) hy rfl ?_
  intro p e s m args below meth c s₁ B hml hv
  obtain ⟨rfl, hsz, hP, hK, hD0, htb, hst⟩ := hv
  subst hsz
  have hD := hD0.self (sz := s.heap.size)
  have hA : ∀ q : Nat, s.heap.size ≤ q → va_A (kwl K σ) s.heap.size q := fun q h => Or.inr h
  have hl := lv_entry as (n := maxL) hlen
  rw [lg_entry_eq]
  exact body ((p, l, e, rm, s, m, as.toArray, below, meth, c), K.1, kwl K, va_A (kwl K σ) s.heap.size, maxL, 0, 0, MQ below (gQ K v σ' (va_A (kwl K σ) s.heap.size)) as.toArray s 0 0 (va_A (kwl K σ) s.heap.size)) rfl
    ⟨B.exec, B.bytes, B.returns, hml, findClass_of_methodNamed B.named, htb, hA, B.notSynchronized, rfl, rfl, Nat.zero_le _, Nat.zero_le _⟩ ⟨rfl, rfl, hK, hst⟩ ⟨rfl, rfl, rfl⟩ s.heap [] _ hP hD va_S.rf hl
