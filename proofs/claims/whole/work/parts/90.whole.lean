theorem whole_start {p : Program} {e : Env} {s : State} {m : MethodId} {below : List Frame} {meth : Method} {c : Code} (l : Launch) (hflags : l.flags = flags0) {b L : Nat} {xs : Nat → Int32} (hL : L ≤ 3072) (C0 : lw_At p s m meth c b L xs) : W p l e room_1 s m #[Value.ref b] below meth c s.heap [] 0 0 (lw_Z below #[Value.ref b] s) (entryFrame m ([Value.ref b] : List Value).toArray 4) := by
  obtain ⟨hx, hb, hr, hml, hown, hts, hX, hbl, hlocks, hgv⟩ := C0
  have hA : ∀ q : Nat, s.heap.size ≤ q → (fun q : Nat => s.heap.size ≤ q) q := fun _ h => h
  have hbA : ¬ (fun q : Nat => s.heap.size ≤ q) b := Nat.not_le.mpr hbl
  obtain ⟨D, cI, cZ, cA, hK, hao, htb⟩ := law_K hts
  obtain ⟨aL, hsL⟩ := law_stL hts hgv
  obtain ⟨aW, hsW⟩ := law_stW hts hgv
  have hl := lv_entry ([.ref b]) (n := 4) (Nat.le_of_ble_eq_true rfl)
  rw [lg_entry_eq]
  have C : gF (S := va_W) ((p, l, e, room_1, s, m, #[Value.ref b], below, meth, c), D, (fun w => w), (fun q : Nat => s.heap.size ≤ q), 4, 0, 0, lw_Z below #[Value.ref b] s) cL_law RL ret 4 room_1 := ⟨hx, hb, hr, hml, hown, htb, hA, hlocks, rfl, rfl, Nat.zero_le _, Nat.zero_le _⟩
  have Kf : wF ((p, l, e, room_1, s, m, #[Value.ref b], below, meth, c), D, (fun w => w), (fun q : Nat => s.heap.size ≤ q), 4, 0, 0, lw_Z below #[Value.ref b] s) D cI cZ cA := ⟨rfl, rfl, hK, hao⟩
  refine law_start (b := b) C Kf rfl rfl aL aW (fun q5 q6 r5 r6 => ?_) s.heap [] _ (fun k q h => by simp at h) ⟨fun i j p q h => by simp at h, fun k q h => by simp at h⟩ va_S.rf hl
  have C1 : gF (S := St × St) ((p, l, e, room_1, s, m, #[Value.ref b], below, meth, c), D, (fun q => kwl (KCx D cI cZ cA aL aW q5 r5) q.1 ++ kwl (KMx D cI cZ cA aL aW q6 r6) q.2), (fun q : Nat => s.heap.size ≤ q), 4, 51, 9636, lw_Z below #[Value.ref b] s) cL_law RL ret 4 room_1 := ⟨hx, hb, hr, hml, hown, htb, hA, hlocks, rfl, rfl, Nat.le_of_ble_eq_true rfl, Nat.le_of_ble_eq_true rfl⟩
  have F : lF ((p, l, e, room_1, s, m, #[Value.ref b], below, meth, c), D, (fun q => kwl (KCx D cI cZ cA aL aW q5 r5) q.1 ++ kwl (KMx D cI cZ cA aL aW q6 r6) q.2), (fun q : Nat => s.heap.size ≤ q), 4, 51, 9636, lw_Z below #[Value.ref b] s) (KCx D cI cZ cA aL aW q5 r5) (KMx D cI cZ cA aL aW q6 r6) b L xs := ⟨rfl, rfl, rfl, hK, hK, ⟨hsL, hsW⟩, ⟨hsL, hsW⟩, hX, hbl, hbA⟩
  have key : gG ((p, l, e, room_1, s, m, #[Value.ref b], below, meth, c), D, (fun q => kwl (KCx D cI cZ cA aL aW q5 r5) q.1 ++ kwl (KMx D cI cZ cA aL aW q6 r6) q.2), (fun q : Nat => s.heap.size ≤ q), 4, 51, 9636, lw_Z below #[Value.ref b] s) (s0C, s0M) 16 [(2, .ref q6), (1, .ref q5), (0, .ref b)] [] := by
    refine g_iconst C1 (v := 0) dL_law_16 (by decide) ?_
    refine g_istore_n C1 (LV b q5 q6 0) dL_law_17 rfl (by decide) rfl ?_
    refine law_loop C1 F (isKCx D cI cZ cA aL aW q5 r5) (isKMx D cI cZ cA aL aW q6 r6) hL (fun q x => ?_) (L + 1) 0 s0C s0M (by omega) (Nat.zero_le L) rel0
    refine g_iconst C1 (v := 1) dL_law_1417 (by decide) ?_
    intro H locs ls hP hD hS hl
    refine va_forget (fun q hq => hS.2.2 q hq) ?_
    refine W.widen (k := 600000) (n := 7302250) (Nat.le_of_ble_eq_true rfl) (Nat.le_of_ble_eq_true rfl) ?_
    exact lw_ret hx hb hr hlocks dL_law_1418
  intro H locs ls hP hD hS hl
  exact key H locs ls hP hD hS hl
