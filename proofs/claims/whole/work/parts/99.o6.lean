/-! the start: class and reference hold the same -/
def W00 : Nat → Nat → List Int32 := fun i p => if i = 0 then (if p = 0 then [0, 107, 17] else if p = 1 then [140] else [101]) else []
def e00 : TE := ((0, fun _ => 0), (0, 0, fun _ _ => 0, fun _ => 0, 0, 0), (fun _ => -1, fun _ => 0, fun _ _ => 0))
theorem REL0 : REL hC0 hM0 := by
  refine ⟨cI0, cV0, cL0, cA0, dI0, cV0, cL0, dA0, 1, W00, 0, fun _ _ => 0, fun _ => 0, 0, 0, e00, rfl, rfl, ?_, ?_, ?_, ?_, ?_, ?_, ?_, ?_⟩
  · exact ⟨by omega, fun j hj => absurd hj (Nat.not_lt_zero j), by omega, fun p _ => Nat.zero_le _, by omega, by omega⟩
  · refine ⟨⟨by show 0 ≤ 160; omega, fun i hi => absurd hi (Nat.not_lt_zero i)⟩, ⟨by show 0 ≤ 1; omega, fun z => absurd (show (0 : Nat) = 1 from z) (by omega)⟩, fun s _ => ⟨Or.inl rfl, by show 0 ≤ 40; omega⟩⟩
  · exact ⟨by decide, fun j hj => absurd hj (Nat.not_lt_zero j), by decide, by decide +kernel, rfl⟩
  · refine ⟨by decide, fun i hi => ?_, by decide +kernel⟩
    have : i = 0 := by omega
    subst this
    exact ⟨by decide, by decide, by decide, by decide, by decide +kernel⟩
  · refine ⟨⟨by decide, fun i hi => absurd hi (Nat.not_lt_zero i)⟩, ⟨by decide, fun z => absurd (show (0 : Nat) = 1 from z) (by omega)⟩, ?_⟩
    show ∀ s, s < 4 → cI0 (47 + 2 * s) 1 = -1 ∧ cI0 (47 + 2 * s) 2 = nI 0 ∧ ∀ i, i < 40 → cA0 (48 + 2 * s) i = 0
    decide +kernel
  · exact ⟨by decide, fun j hj => absurd hj (Nat.not_lt_zero j), by decide, by decide +kernel, by decide⟩
  · refine ⟨by decide, 5, by decide, by omega, fun i hi => ?_⟩
    have : i = 0 := by omega
    subst this
    intro p hp
    match p, hp with
    | 0, _ => exact ⟨0, by decide, by decide, by decide, by decide +kernel, Or.inl ⟨Or.inr ⟨0, by omega, by decide⟩, Or.inl ⟨Or.inl ⟨7, by omega, by decide⟩, Or.inr (Or.inr ⟨Or.inr (Or.inr (Or.inr (Or.inr (Or.inl rfl)))), by omega, rfl⟩)⟩⟩, by decide⟩
    | 1, _ => exact ⟨3, by decide, by decide, by decide, by decide +kernel, Or.inl ⟨Or.inl ⟨40, by omega, by decide⟩, rfl⟩, by decide⟩
    | 2, _ => exact ⟨4, by decide, by decide, by decide, by decide +kernel, Or.inl ⟨Or.inl ⟨1, by omega, by decide⟩, rfl⟩, by decide⟩
  · refine ⟨⟨by decide, fun i hi => absurd hi (Nat.not_lt_zero i)⟩, ⟨by decide, fun z => absurd (show (0 : Nat) = 1 from z) (by omega)⟩, ?_⟩
    show ∀ s, s < 4 → dA0 20 s = -1 ∧ dA0 21 s = nI 0 ∧ ∀ i, i < 40 → dA0 22 (40 * s + i) = 0
    decide +kernel
