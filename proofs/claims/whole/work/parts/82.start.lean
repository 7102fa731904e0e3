/-! the stores after the constructors -/
def s0C : St := (fun c => if c = 3 then (fun j => if j < 6 then -1 else 0) else if c = 6 then (fun j => if j < 4 then -1 else 0) else if c = 9 then (fun j => if j < 3 then -1 else 0) else if c = 1 then (fun _ => nI 40) else if c = 4 then (fun _ => nI 60) else if c = 7 then (fun _ => nI 40) else fun _ => 0, fun _ k => if k = 11 then 1 else 0)
def s0M : St := (fun c => if c = 1 then (fun j => if j < 6 then -1 else 0) else if c = 3 then (fun j => if j < 4 then -1 else 0) else fun _ => 0, fun _ k => if k = 14 then 1 else 0)
theorem rel0 : Rel s0C s0M := by
  refine ⟨⟨rfl, rfl, rfl⟩, fun r hr => Or.inl ⟨if_pos hr, if_pos hr⟩, fun r hr => Or.inl ⟨if_pos hr, if_pos hr⟩, ⟨rfl, rfl, rfl, rfl, fun f _ => rfl⟩, 0, fun _ => 0, fun _ => 0, [], fun _ => none, ?_, ?_, ?_⟩
  · exact ⟨Or.inl rfl, by omega, fun i hi => absurd hi (Nat.not_lt_zero _), fun k hk => absurd hk (Nat.not_lt_zero _), ⟨by decide, fun d hd => absurd hd List.not_mem_nil⟩, (fun k e h => by cases h), fun _ => ⟨rfl, fun _ => rfl⟩⟩
  · exact ⟨rfl, rfl, fun i hi => absurd hi (Nat.not_lt_zero _), fun k hk => absurd hk (Nat.not_lt_zero _), fun j hj => absurd hj (Nat.not_lt_zero _), ⟨fun i hi => absurd hi (Nat.not_lt_zero _), fun k hk => absurd hk (Nat.not_lt_zero _), rfl⟩, fun k hk _ => if_pos hk, fun k e _ h => by cases h⟩
  · exact ⟨rfl, rfl, fun i hi => absurd hi (Nat.not_lt_zero _), ⟨fun i hi => absurd hi (Nat.not_lt_zero _), fun k hk => absurd hk (Nat.not_lt_zero _), rfl⟩, fun j hj => absurd hj (Nat.not_lt_zero _), fun k _ _ => rfl, fun k e _ h => by cases h⟩
