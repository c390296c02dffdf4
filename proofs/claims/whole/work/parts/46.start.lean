/-! both are alike at the start -/
theorem rr_start : RR st1C st0M := by
  obtain ⟨h98, ho, -, h99⟩ := st1C_ok
  have e : ∀ q j, q ≠ 98 → q ≠ 99 → st1C q j = st0C q j := fun q j h1 h2 => congrFun (ho q h1 h2) j
  refine ⟨⟨⟨4, 0, by decide, by decide, by decide, (e 1 0 (by decide) (by decide)).trans rfl, rfl, (e 1 2 (by decide) (by decide)).trans rfl, rfl, (e 1 1 (by decide) (by decide)).trans rfl, (e 1 3 (by decide) (by decide)).trans rfl⟩,
    ⟨0, 0, by decide, by decide, rfl, (e 3 1 (by decide) (by decide)).trans rfl, (e 5 1 (by decide) (by decide)).trans rfl, (e 7 1 (by decide) (by decide)).trans rfl, (e 2 3 (by decide) (by decide)).trans rfl, fun i hi => by omega⟩,
    ⟨0, 0, fun _ => 0, fun _ => 0, ⟨by decide, rfl, (e 10 1 (by decide) (by decide)).trans rfl, (e 12 1 (by decide) (by decide)).trans rfl, (e 14 1 (by decide) (by decide)).trans rfl, (e 16 1 (by decide) (by decide)).trans rfl, (e 18 1 (by decide) (by decide)).trans rfl, (e 20 1 (by decide) (by decide)).trans rfl, fun i hi => by omega⟩,
      ⟨by decide, rfl, (e 23 1 (by decide) (by decide)).trans rfl, (e 25 1 (by decide) (by decide)).trans rfl, fun i hi => by omega⟩, fun s hs => by omega, fun f hf => by omega, fun s f hs hf => by omega⟩,
    ⟨0, by decide, rfl, (e 27 1 (by decide) (by decide)).trans rfl, fun i hi => by omega⟩, ⟨0, by decide, rfl, (e 29 1 (by decide) (by decide)).trans rfl, fun i hi => by omega⟩,
    ⟨0, by decide, rfl, (e 32 1 (by decide) (by decide)).trans rfl, fun i hi => by omega, Or.inl rfl⟩, ⟨0, by decide, rfl, (e 37 1 (by decide) (by decide)).trans rfl, fun i hi => by omega, Or.inl rfl⟩⟩,
    Or.inl rfl, (e 0 7 (by decide) (by decide)).trans rfl, fun i h1 h5 => (h99 i (by omega)).trans rfl, fun i hi => ?_, ⟨0, by decide, rfl, (e 93 1 (by decide) (by decide)).trans rfl, fun j hj => by omega⟩, (e 31 2 (by decide) (by decide)).trans rfl, (e 36 2 (by decide) (by decide)).trans rfl⟩
  refine ⟨(e _ _ (by omega) (by omega)).trans ?_, Or.inl rfl, 0, by decide, rfl, (e _ _ (by omega) (by omega)).trans ?_, fun _ => rfl, fun j hj => by omega⟩
  · have : i = 0 ∨ i = 1 ∨ i = 2 ∨ i = 3 := by omega
    rcases this with rfl | rfl | rfl | rfl <;> rfl
  · have : i = 0 ∨ i = 1 ∨ i = 2 ∨ i = 3 := by omega
    rcases this with rfl | rfl | rfl | rfl <;> rfl
