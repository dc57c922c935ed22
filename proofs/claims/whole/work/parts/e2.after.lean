/-! TEXT: the class after its fault: it goes on to no harm -/
/-- after a fault: the fault stays, only the place in the tokens moves -/
def pt_dd (b : Nat → Int) (L T : Nat) (u v : px_Z) : Prop := (∃ t, pt_A v b L T t) ∧ (∀ c j, ¬ (c = 121 ∧ j = 4) → v c j = u c j)
theorem pt_stepD {u : px_Z} {b : Nat → Int} {L T t : Nat} (hA : pt_A u b L T t) : ∃ v, f_Reader_step u = some v ∧ pt_dd b L T u v := by
  by_cases ht : t < T
  · obtain ⟨v, a1, a2, a3⟩ := pt_step hA ht
    exact ⟨v, a1, ⟨t + 1, a2⟩, a3⟩
  · refine ⟨u, ?_, ⟨t, hA⟩, fun _ _ _ => rfl⟩
    obtain ⟨⟨a1, a2, a3, a4, a5⟩, a6, a7, a8⟩ := hA
    unfold f_Reader_step
    rw [a1, a6, pz_wr_id (by omega) (by omega), if_pos (by omega)]
theorem pt_expectD {u : px_Z} {b : Nat → Int} {L T t : Nat} (hA : pt_A u b L T t) (h0 : u 121 7 ≠ 0) (k : Int) : ∃ v, f_Reader_expect u k = some v ∧ pt_dd b L T u v := by
  obtain ⟨g1, g2, g3, g4⟩ := pt_A_tok hA
  unfold f_Reader_expect
  rw [if_pos g1]
  by_cases h : u 122 (u 121 4).toNat = k
  · obtain ⟨v, a1, a2⟩ := pt_stepD hA
    rw [if_pos h, a1, Option.bind_some]
    exact ⟨v, rfl, a2⟩
  · rw [if_neg h, pt_fail2 h0, Option.bind_some]
    exact ⟨u, rfl, ⟨t, hA⟩, fun _ _ _ => rfl⟩
theorem pt_numbD {u : px_Z} {b : Nat → Int} {L T t : Nat} (hA : pt_A u b L T t) (h0 : u 121 7 ≠ 0) (lo hi : Int) : ∃ x v, f_Reader_numberWithin u lo hi = some (x, v) ∧ pt_dd b L T u v := by
  obtain ⟨g1, g2, g3, g4⟩ := pt_A_tok hA
  unfold f_Reader_numberWithin
  rw [if_pos g1, if_pos g1]
  by_cases h : u 122 (u 121 4).toNat = 1
  · rw [if_pos h]
    by_cases h1 : f_R_within u (u 123 (u 121 4).toNat) lo hi = 0
    · rw [if_pos h1, pt_fail2 h0, Option.bind_some]
      exact ⟨_, u, rfl, ⟨t, hA⟩, fun _ _ _ => rfl⟩
    · obtain ⟨v, a1, a2⟩ := pt_stepD hA
      rw [if_neg h1, a1, Option.bind_some]
      exact ⟨_, v, rfl, a2⟩
  · rw [if_neg h, pt_fail2 h0, Option.bind_some]
    exact ⟨_, u, rfl, ⟨t, hA⟩, fun _ _ _ => rfl⟩
theorem pt_goesOn {u : px_Z} {b : Nat → Int} {L T t : Nat} (hA : pt_A u b L T t) : f_Reader_goesOn u = some (if u 121 7 = 0 ∧ pt_st b L t < L then 1 else 0) := by
  obtain ⟨g1, g2, g3, g4⟩ := pt_A_tok hA
  unfold f_Reader_goesOn
  by_cases h0 : u 121 7 = 0
  · rw [if_pos h0, if_pos g1, g2]
    have hst := pt_st_le b L t
    rcases pt_kinds b hst with ⟨k1, k2, k3⟩ | ⟨ki, k1, k2⟩ | ⟨ki, k1, k2⟩ | ⟨ki, k1, k2, k3⟩ | ⟨j', ki, kj, k1, k2, k3⟩
    · rw [k1, if_pos rfl, if_neg (fun h => by omega)]
    · rw [k1, if_neg (by decide), if_pos ⟨h0, ki⟩]
    · rw [k1, if_neg (by decide), if_pos ⟨h0, ki⟩]
    · have hcr := of_decide_eq_true k1
      rw [if_neg (by omega), if_pos ⟨h0, ki⟩]
    · rw [k1, if_neg (by omega), if_pos ⟨h0, ki⟩]
  · rw [if_neg h0, if_neg (fun h => h0 h.1)]
