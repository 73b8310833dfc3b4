/-! the start: alike -/
theorem RC_start : RC sC0 (sM0 1) 0 := by
  refine ⟨by decide, by decide +kernel, by decide +kernel, by decide +kernel, ⟨0, by decide, by decide +kernel⟩, by decide +kernel, fun j hj => ?_, fun g hg => by omega, fun j hj => ?_⟩
  · have e : ∀ j, j < 6 → sC0 9 j = sM0 1 (3 + j) ∧ sM0 1 (3 + j) = nI (1000 * j + 10 * j + 5) := by decide +kernel
    exact ⟨(e j hj).1, j, j, 5, hj, by omega, by decide, (e j hj).2⟩
  · have e : ∀ j, j < 10 → sC0 10 j = sM0 1 (65 + j) - 1 ∧ sM0 1 (65 + j) = nI 0 := by decide +kernel
    exact ⟨(e j hj).1, 0, by decide, (e j hj).2⟩
theorem R_start : R sX0 sM0 := by
  refine ⟨⟨0, RC_cong (fun k hk => ?_) (fun _ _ => rfl) RC_start⟩, ⟨⟨0, by decide, by decide +kernel⟩, by decide +kernel, Or.inl (by decide +kernel)⟩, ⟨0, by decide, by decide +kernel, by decide +kernel, fun j hj => by omega⟩, by decide +kernel, fun s hs => ?_, fun k hk => ?_, fun j hj => ⟨0, by decide, rfl⟩⟩
  · rw [mg0]
    show sC0 k = sX0 k
    unfold sX0
    rw [if_pos hk]
  · have e : ∀ s, s < 4 → sX0 (47 + 2 * s) 0 = sM0 7 s ∧ sX0 (47 + 2 * s) 1 = sM0 8 s ∧ sM0 7 s = 0 ∧ sM0 8 s = nI 0 := by decide +kernel
    obtain ⟨e1, e2, e3, e4⟩ := e s hs
    exact ⟨e1, e2, Or.inl e3, 0, by decide, e4, fun i hi => by omega⟩
  · exact (by decide +kernel : ∀ k, k < 7 → sX0 45 k = sM0 5 k) k hk
