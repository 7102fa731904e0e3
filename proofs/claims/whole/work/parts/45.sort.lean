/-! pockets: a steady sorting -/
theorem bkt_succ (ky : Nat → Nat) (R : Nat) (l : List Nat) : bkt ky (R + 1) l = bkt ky R l ++ l.filter (fun i => ky i == R) := by
  unfold bkt
  rw [List.range_succ, List.flatMap_append]
  simp
theorem bkt_perm (ky : Nat → Nat) (l : List Nat) : ∀ R, (bkt ky R l).Perm (l.filter (fun i => decide (ky i < R)))
  | 0 => by
    unfold bkt
    simp
  | R + 1 => by
    rw [bkt_succ]
    have h1 := (bkt_perm ky l R).append_right (l.filter (fun i => ky i == R))
    refine h1.trans ?_
    have h2 := List.filter_append_perm (fun i => decide (ky i < R)) (l.filter (fun i => decide (ky i < R + 1)))
    rw [List.filter_filter, List.filter_filter] at h2
    have e1 : (fun i => decide (ky i < R) && decide (ky i < R + 1)) = (fun i => decide (ky i < R)) := by
      funext i
      rw [Bool.eq_iff_iff]
      simp
      omega
    have e2 : (fun i => (!decide (ky i < R)) && decide (ky i < R + 1)) = (fun i => ky i == R) := by
      funext i
      rw [Bool.eq_iff_iff]
      simp
      omega
    rw [e1, e2] at h2
    exact h2
theorem bkt_mem {ky : Nat → Nat} {R : Nat} {l : List Nat} {x : Nat} : x ∈ bkt ky R l ↔ x ∈ l ∧ ky x < R := by
  rw [(bkt_perm ky l R).mem_iff]
  simp
theorem bkt_len (ky : Nat → Nat) (R : Nat) (l : List Nat) : (bkt ky R l).length ≤ l.length := by
  rw [(bkt_perm ky l R).length_eq]
  exact List.length_filter_le _ _
theorem srt_perm {ky : Nat → Nat} {l : List Nat} (h : ∀ i ∈ l, ky i < 22) : (srt ky l).Perm l := by
  have h1 := bkt_perm ky l 22
  rw [List.filter_eq_self.mpr (by simpa using h)] at h1
  exact h1
theorem bkt_snoc_lt {ky : Nat → Nat} {R : Nat} (l : List Nat) {x : Nat} (h : R ≤ ky x) : bkt ky R (l ++ [x]) = bkt ky R l := by
  induction R with
  | zero => rfl
  | succ R ih =>
    rw [bkt_succ, bkt_succ, ih (by omega), List.filter_append]
    have : ([x].filter fun i => ky i == R) = [] := by
      simp
      omega
    rw [this, List.append_nil]
theorem bkt_snoc_eq {ky : Nat → Nat} (l : List Nat) (x : Nat) : bkt ky (ky x + 1) (l ++ [x]) = bkt ky (ky x + 1) l ++ [x] := by
  rw [bkt_succ, bkt_succ, bkt_snoc_lt l (Nat.le_refl _), List.filter_append]
  have : ([x].filter fun i => ky i == ky x) = [x] := by simp
  rw [this, List.append_assoc]
/-- the pockets above a -/
def bktU (ky : Nat → Nat) (a : Nat) : Nat → List Nat → List Nat
  | 0, _ => []
  | m + 1, l => bktU ky a m l ++ l.filter (fun i => ky i == a + 1 + m)
theorem bkt_split (ky : Nat → Nat) (a : Nat) (l : List Nat) : ∀ m, bkt ky (a + 1 + m) l = bkt ky (a + 1) l ++ bktU ky a m l
  | 0 => by
    show _ = _ ++ []
    rw [List.append_nil]
  | m + 1 => by
    show bkt ky (a + 1 + m + 1) l = _ ++ (bktU ky a m l ++ _)
    rw [bkt_succ, bkt_split ky a l m, List.append_assoc]
theorem bktU_snoc {ky : Nat → Nat} (l : List Nat) (x : Nat) : ∀ m, bktU ky (ky x) m (l ++ [x]) = bktU ky (ky x) m l
  | 0 => rfl
  | m + 1 => by
    show bktU ky (ky x) m (l ++ [x]) ++ _ = bktU ky (ky x) m l ++ _
    rw [bktU_snoc l x m, List.filter_append]
    have : ([x].filter fun i => ky i == ky x + 1 + m) = [] := by
      simp
      omega
    rw [this, List.append_nil]
theorem bktU_gt {ky : Nat → Nat} {a : Nat} {l : List Nat} {y : Nat} : ∀ {m}, y ∈ bktU ky a m l → a < ky y
  | 0, h => by cases h
  | m + 1, h => by
    rcases List.mem_append.mp h with h | h
    · exact bktU_gt h
    · simp at h
      omega
/-- one card more falls: behind all that lie no higher, ahead of the others -/
theorem srt_snoc {ky : Nat → Nat} (l : List Nat) {x : Nat} (h : ky x < 22) : ∃ P Q, srt ky l = P ++ Q ∧ srt ky (l ++ [x]) = P ++ x :: Q ∧ (∀ y ∈ P, ky y ≤ ky x) ∧ ∀ y ∈ Q, ky x < ky y := by
  obtain ⟨m, hm⟩ : ∃ m, 22 = ky x + 1 + m := ⟨22 - (ky x + 1), by omega⟩
  refine ⟨bkt ky (ky x + 1) l, bktU ky (ky x) m l, ?_, ?_, fun y hy => ?_, fun y hy => bktU_gt hy⟩
  · show bkt ky 22 l = _
    rw [hm, bkt_split]
  · show bkt ky 22 (l ++ [x]) = _
    rw [hm, bkt_split, bktU_snoc, bkt_snoc_eq, List.append_assoc]
    rfl
  · have := (bkt_mem.mp hy).2
    omega
