section WM
variable {X : Gx va_W} {cc : ByteArray} {own : String} {ret : Option FieldType} {nL : Nat} {R : Room} {ws : va_W} {pc : Nat} {lv : List (Nat × Value)} {st : List Value} {D : va_G} {cI cZ cA : ClassId}
theorem w_perm (Kf : wF X D cI cZ cA) (is : List Nat) (ws' : va_W) (h1 : is.filterMap (fun i => ws[i]?) = ws') (hn : va_nd is = true) (h2 : is.map (fun i => ws[i]?) = ws'.map some) (k : gG X ws' pc lv st) : gG X ws pc lv st := by
  obtain ⟨⟨p, l, e, R0, s, m, args, below, meth, co⟩, D', wl, A, nL0, cells, slots, Q⟩ := X
  obtain ⟨g1, g2, hK, hao⟩ := Kf
  dsimp only at g1 g2 hK hao
  subst g1
  subst g2
  intro H locs ls hP hD hS hl
  exact k H locs ls (hP.sub is h1) (hD.sub is hn h2) hS hl
theorem rws_eq (N : Nat) (r : Nat → Nat) (f : Nat → va_E) (v : va_E) : va_pl ([] ++ (List.range N).map r) (vr_up f ((List.range N).map r) v) = (List.range N).map (fun i => (r i, v)) := by
  unfold va_pl
  rw [List.nil_append, List.map_map]
  apply List.map_congr_left
  intro i hi
  show (r i, vr_up f ((List.range N).map r) v (r i)) = (r i, v)
  rw [vr_up_in (List.mem_map_of_mem hi)]
theorem w_mna (C : gF X cc own ret nL R) (Kf : wF X D cI cZ cA) {index : Nat} {n k : Int32} {N' K' : Nat} (hn : ¬ n < 0) (hk : ¬ k < 0) (hN : n.toNatClampNeg = N') (hM : k.toNatClampNeg = K') (hb1 : N' * 4 ≤ 536870912) (hb2 : K' * componentBytes .int ≤ 536870912) (hb3 : K' ≤ 536870912) (hc : X.2.2.2.2.2.1 + (1 + N') ≤ R.cells) (hs : X.2.2.2.2.2.2.1 + (N' + N' * K') ≤ R.slots) (hw : Cond.classLink own index ("[" ++ (FieldType.array .int).toString) ∈ lw_tbl) (hdg : decode cc pc = .ok (.multianewarray index 2, 4))
    (kk : ∀ (q : Nat) (r : Nat → Nat), gG (Xc X (X.2.2.2.2.2.1 + 1 + N') (X.2.2.2.2.2.2.1 + N' + N' * K')) ((ws ++ [(q, .inl (cA, N', .inr (.inr (.inr (.inr (fun i => if i < N' then some (r i) else none))))))]) ++ (List.range N').map (fun i => (r i, .inl (cI, K', .inl (fun _ => 0))))) (pc + 4) lv (.ref q :: st)) : gG X ws pc lv (.int k :: .int n :: st) := by
  obtain ⟨⟨p, l, e, R0, s, m, args, below, meth, co⟩, D', wl, A, nL0, cells, slots, Q⟩ := X
  obtain ⟨h1, h2, hK, hao⟩ := Kf
  dsimp only at h1 h2 hK hao hc hs
  subst h1
  subst h2
  intro H locs ls hP hD hS hl
  have hR : R0 = R := C.2.2.2.2.2.2.2.2.2.1
  subst hR
  have hcy : s.vm.findClass (FieldType.array .int).toString = some cI := (hK.2 0 (cI, .int) rfl).2
  refine va_mna (ty := .int) (X := ws) (L := []) (f := fun _ => .inl (cI, 0, .inl (fun _ => 0))) (z := (K', .inl (fun _ => 0))) C.1 C.2.1 C.2.2.2.2.1 (C.2.2.2.2.2.1 _ hw rfl _) hao (C.2.2.2.2.2.1 _ kaI rfl _) hcy hK (by rw [show va_pl [] (fun _ => (.inl (cI, 0, .inl (fun _ => 0)) : va_E)) = [] from rfl, List.append_nil]; exact hP) (by rw [show va_pl [] (fun _ => (.inl (cI, 0, .inl (fun _ => 0)) : va_E)) = [] from rfl, List.append_nil]; exact hD) hS C.2.2.2.2.2.2.1 hn hk hN hM hb1 hb2 hb3 rfl rfl hc hs (fun c => by
    show ({ cls := c, slots := Array.replicate K' (.int 0), vm := .none } : Cell) = _
    rw [arrV_new]
    rfl) hdg (fun q r cB H1 hi hL hK1 hP1 hD1 hS1 => ?_)
  have e1 : s.vm.findClass ("[" ++ (FieldType.array .int).toString) = some cB := (hK1.2 3 (cB, .array .int) rfl).2
  have e2 : s.vm.findClass ("[" ++ (FieldType.array .int).toString) = some cA := (hK1.2 2 (cA, .array .int) rfl).2
  have e3 : cB = cA := Option.some.inj (e1.symm.trans e2)
  subst e3
  rw [rws_eq] at hP1 hD1
  exact kk q r H1 locs ls hP1 hD1 hS1 hl
end WM
