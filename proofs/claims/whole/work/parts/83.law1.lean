/-! the class's static arrays at the law's start -/
theorem st_sz {args : Array Value} {s : State} {tm : Term} {t : Nat} {cell : Cell} {v : Value} (ht : tm.eval args s none [] s = some (.ref t)) (hat : s.arrayAt? t = some cell) (hln : (Term.length tm).eval args s none [] s = some v) : cell.slots.size < 2147483648 := by
  simp only [Term.eval, ht, hat, Option.bind_eq_bind, Option.bind_some] at hln
  by_cases hlt : cell.slots.size < 2147483648
  · exact hlt
  · simp [hlt] at hln
theorem st_of {args : Array Value} {s : State} {n : String} {f : Nat → Int32} (hl : (Cond.laysStatic RX5 n "[I").before args s = true) (hini : (Cond.initialized RX5).before args s = true) (harr : (Cond.arrayOf (.static RX5 n "[I") .int).before args s = true) (hlen : (Cond.eq (.length (.static RX5 n "[I")) (.int 6)).before args s = true) (hel : ∀ j : Nat, j < 6 → (Cond.eq (.elem (.static RX5 n "[I") (.int (Int32.ofNat j))) (.int (f j))).before args s = true) : ∃ a : Nat, stA n a f (fun q => s.heap.size ≤ q) s := by
  have hln := va_eqt hlen
  obtain ⟨t, cell, ht, hat, hv⟩ := Term.length_spec hln
  obtain ⟨hcell, hkn, -, -⟩ := State.arrayAt?_spec hat
  have hof := (Cond.arrayOf_spec harr ht hcell).1
  have hsz : cell.slots.size < 2147483648 := st_sz ht hat hln
  have h6 : cell.slots.size = 6 := by
    have h1 : (6 : Int32) = cell.slots.size.toInt32 := Value.int.inj hv
    have h2 : cell.slots.size.toInt32.toNatClampNeg = cell.slots.size := Int32.toNatClampNeg_ofNat_of_lt hsz
    rw [← h1] at h2
    exact h2.symm
  have hval : ∀ j : Nat, j < 6 → cell.slots[j]? = some (.int (f j)) := by
    intro j hj
    obtain ⟨a, i, cell2, h1, h2, h3, h4, h5⟩ := Term.elem_spec (va_eqt (hel j hj))
    cases ht.symm.trans h1
    cases hat.symm.trans h3
    have hi : i = Int32.ofNat j := by
      have e : (Term.int (Int32.ofNat j)).eval args s none [] s = some (.int (Int32.ofNat j)) := rfl
      cases h2.symm.trans e
      rfl
    have hc : i.toNatClampNeg = j := by rw [hi]; exact Int32.toNatClampNeg_ofNat_of_lt (by omega)
    rw [hc] at h5
    exact h5
  have hlt : t < s.heap.size := (Array.getElem?_eq_some_iff.mp hcell).1
  exact ⟨t, va_Zof hl hini ht (fun a h => Nat.not_le.mpr h), ⟨cell, hcell, hof, hkn, h6, hval⟩, hlt, Nat.not_le.mpr hlt⟩
theorem kz_L : Cond.laysStatic RX5 "LETTERS" "[I" ∈ lw_tbl := List.mem_of_getElem? (i := 367) (by decide +kernel)
theorem kz_W : Cond.laysStatic RX5 "WIDER" "[I" ∈ lw_tbl := List.mem_of_getElem? (i := 449) (by decide +kernel)
theorem law_stL {s : State} {b : Nat} (hts : ∀ w ∈ lw_tbl, w.before #[Value.ref b] s = true) (hgv : (Jvm.Cond.and given_1 narrow_1).before #[Value.ref b] s = true) : ∃ a : Nat, stA "LETTERS" a sLet (fun q => s.heap.size ≤ q) s := by
  have hq := flat_of_before _ hgv
  refine st_of (hts _ kz_L) (hts _ ki_X5) (hq _ (by decide +kernel)) (hq _ (by decide +kernel)) (fun j hj => hq _ ?_)
  rcases (show j = 0 ∨ j = 1 ∨ j = 2 ∨ j = 3 ∨ j = 4 ∨ j = 5 by omega) with rfl | rfl | rfl | rfl | rfl | rfl <;> decide +kernel
theorem law_stW {s : State} {b : Nat} (hts : ∀ w ∈ lw_tbl, w.before #[Value.ref b] s = true) (hgv : (Jvm.Cond.and given_1 narrow_1).before #[Value.ref b] s = true) : ∃ a : Nat, stA "WIDER" a sWid (fun q => s.heap.size ≤ q) s := by
  have hq := flat_of_before _ hgv
  refine st_of (hts _ kz_W) (hts _ ki_X5) (hq _ (by decide +kernel)) (hq _ (by decide +kernel)) (fun j hj => hq _ ?_)
  rcases (show j = 0 ∨ j = 1 ∨ j = 2 ∨ j = 3 ∨ j = 4 ∨ j = 5 by omega) with rfl | rfl | rfl | rfl | rfl | rfl <;> decide +kernel
