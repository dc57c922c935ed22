/-! THE START holds the invariant -/
set_option maxRecDepth 100000 in
set_option maxHeartbeats 4000000 in
theorem pz_z1I : pz_I px_z1 := by
  refine ⟨0, ⟨by omega, ?_, ?_, ?_, ?_, ?_, ?_, ?_, ?_⟩, ?_, Or.inl ⟨by decide +kernel, by decide +kernel⟩, ?_, ?_, Or.inl ⟨by decide +kernel, by decide +kernel⟩⟩
  · unfold pz_W1 pz_wo; decide +kernel
  · have z : ∀ i, px_z1 151 i = 0 := fun i => rfl
    refine ⟨by unfold pz_wo; decide +kernel, ?_, ?_, ?_, ?_⟩
    · unfold pz_wo; refine ⟨by decide +kernel, by decide +kernel, by decide +kernel, by decide +kernel, by decide +kernel, by decide +kernel, by decide +kernel, by decide +kernel, by decide +kernel, by decide +kernel, by decide +kernel, by decide +kernel, Or.inl (by decide +kernel)⟩
    · unfold pz_wo; decide +kernel
    · decide +kernel
    · intro k hk; omega
  · unfold pz_W3 pz_wo; decide +kernel
  · refine ⟨⟨0, by unfold pz_wo; decide +kernel, ⟨by omega, by decide +kernel, fun l hl => absurd hl (Nat.not_lt_zero _)⟩, by unfold pz_wo; decide +kernel, by unfold pz_wo; decide +kernel, fun l hl => absurd hl (Nat.not_lt_zero _), fun h => by omega⟩, ⟨0, by unfold pz_wo; decide +kernel, ⟨by omega, by decide +kernel, fun l hl => absurd hl (Nat.not_lt_zero _)⟩, by unfold pz_wo; decide +kernel, by unfold pz_wo; decide +kernel, fun l hl => absurd hl (Nat.not_lt_zero _), fun _ i hi => ?_⟩⟩
    have h0 : pz_wo px_z1 15 1 = 0 := by unfold pz_wo; decide +kernel
    rw [h0] at hi; omega
  · exact ⟨0, by omega, by unfold pz_wo; decide +kernel, by decide +kernel, fun i hi => absurd hi (Nat.not_lt_zero _), fun i hi => absurd hi (Nat.not_lt_zero _)⟩
  · exact ⟨0, by omega, by unfold pz_wo; decide +kernel, by decide +kernel, fun i hi => absurd hi (Nat.not_lt_zero _)⟩
  · have a1 : px_z1 150 51 = 0 := by decide +kernel
    have a2 : px_z1 150 53 = 0 := by decide +kernel
    have a3 : px_z1 150 57 = 0 := by decide +kernel
    refine ⟨⟨by unfold pz_wo; decide +kernel, by rw [a1]; omega, by rw [a1]; omega, fun i hi => by rw [a1] at hi; omega⟩, ⟨by unfold pz_wo; decide +kernel, by rw [a2]; omega, by rw [a2]; omega, fun i hi => by rw [a2] at hi; omega⟩, ⟨by unfold pz_wo; decide +kernel, by rw [a3]; omega, by rw [a3]; omega, fun i hi => by rw [a3] at hi; omega⟩⟩
  · intro k hk; exact (rfl : (0 : Int) = 0)
  · exact ⟨0, 0, by omega, by omega, by decide +kernel, by decide +kernel, by decide +kernel, fun j hj => absurd hj (Nat.not_lt_zero _)⟩
  · refine ⟨by decide +kernel, by decide +kernel, by decide +kernel, fun i _ => ⟨?_, ?_, ?_⟩⟩
    · exact (rfl : (0 : Int) = 0)
    · exact Int.le_refl 0
    · exact (by decide : (0 : Int) < 256)
  · exact ⟨by decide +kernel, by decide +kernel, by decide +kernel, by decide +kernel⟩
theorem pz_W0ot (ht : pz_TX) : px_W0 := pz_W0of ht pz_z1I
