/-! TEXT: a number within bounds -/
theorem pt_isN {z : px_Z} {b : Nat → Int} {L i : Nat} (hB : pt_B z b L i) : (z 150 16 = 3 ↔ pt_ck b L i = 1) ∧ (pt_ck b L i = 1 → i < L ∧ z 150 17 = pt_mw b L i) := by
  obtain ⟨h1, h2, h3, h4, h5, h6, h7, h8, h9, h10⟩ := hB
  rw [h9]
  rcases pt_kinds b h6 with ⟨k1, k2, _⟩ | ⟨ki, k1, k2⟩ | ⟨ki, k1, k2⟩ | ⟨ki, k1, k2, k3⟩ | ⟨j', ki, kj, k1, k2, k3⟩
  · rw [k2, k1]; exact ⟨⟨fun h => absurd h (by decide), fun h => absurd h (by decide)⟩, fun h => absurd h (by decide)⟩
  · rw [k2, k1]; exact ⟨⟨fun _ => rfl, fun _ => rfl⟩, fun _ => ⟨ki, h10 ki⟩⟩
  · rw [k2, k1]; exact ⟨⟨fun h => absurd h (by decide), fun h => absurd h (by decide)⟩, fun h => absurd h (by decide)⟩
  · have hcr := of_decide_eq_true k1
    rw [k2]; exact ⟨⟨fun h => absurd h (by decide), fun h => by omega⟩, fun h => by omega⟩
  · rw [k2, k1]; exact ⟨⟨fun h => absurd h (by decide), fun h => by omega⟩, fun h => by omega⟩
theorem pt_numb {u z : px_Z} {b : Nat → Int} {L T t : Nat} (hA : pt_A u b L T t) (hB : pt_B z b L (pt_st b L t)) (h0 : u 121 7 = 0) (lo hi : Int) : ∃ v w r x k, f_Reader_numberWithin u lo hi = some (x, v) ∧ f_M_readNumber z lo hi = some (r, w) ∧ (k = 1 ∨ k = 2) ∧ (pt_ck b L (pt_st b L t) = 1 → x = pt_mw b L (pt_st b L t)) ∧ pt_both b L T t k (pt_ck b L (pt_st b L t) = 1 ∧ lo ≤ pt_mw b L (pt_st b L t) ∧ pt_mw b L (pt_st b L t) ≤ hi) u v z w r (pt_mw b L (pt_st b L t)) := by
  obtain ⟨g1, g2, g3, g4⟩ := pt_A_tok hA
  obtain ⟨n1, n2⟩ := pt_isN hB
  unfold f_Reader_numberWithin f_M_readNumber
  rw [if_pos g1, if_pos g1, g2]
  by_cases h : pt_ck b L (pt_st b L t) = 1
  · have ht := pt_A_end hA (by rw [h]; decide)
    rw [if_pos h, if_pos (n1.mpr h), (n2 h).2, g3 h]
    unfold f_R_within f_M_isIn
    by_cases h1 : pt_mw b L (pt_st b L t) < lo
    · obtain ⟨v, w, a1, a2, a3, a4, a5, a6, a7, a8, a9⟩ := pt_bad hA hB h0 2
      rw [if_pos h1, if_pos rfl, if_pos rfl, a1, a2, Option.bind_some, Option.bind_some]
      exact ⟨v, w, -1, _, 2, rfl, rfl, Or.inr rfl, fun _ => rfl, a3, a4, Or.inr ⟨fun hh => by omega, a5, a6, a7, rfl, a8, a9⟩⟩
    · rw [if_neg h1]
      by_cases h2 : hi < pt_mw b L (pt_st b L t)
      · obtain ⟨v, w, a1, a2, a3, a4, a5, a6, a7, a8, a9⟩ := pt_bad hA hB h0 2
        rw [if_pos h2, if_pos rfl, if_pos rfl, a1, a2, Option.bind_some, Option.bind_some]
        exact ⟨v, w, -1, _, 2, rfl, rfl, Or.inr rfl, fun _ => rfl, a3, a4, Or.inr ⟨fun hh => by omega, a5, a6, a7, rfl, a8, a9⟩⟩
      · obtain ⟨v, w, a1, a2, a3, a4, a5, a6, a7⟩ := pt_good hA hB h0 ht
        rw [if_neg h2, if_neg (by decide), if_neg (by decide), a1, a2, Option.bind_some, Option.bind_some]
        exact ⟨v, w, _, _, 2, rfl, rfl, Or.inr rfl, fun _ => rfl, a3, a4, Or.inl ⟨⟨h, by omega, by omega⟩, ht, a5, a6, a7, rfl⟩⟩
  · obtain ⟨v, w, a1, a2, a3, a4, a5, a6, a7, a8, a9⟩ := pt_bad hA hB h0 1
    rw [if_neg h, if_neg (fun hh => h (n1.mp hh)), a1, a2, Option.bind_some, Option.bind_some]
    exact ⟨v, w, -1, _, 1, rfl, rfl, Or.inl rfl, fun hh => absurd hh h, a3, a4, Or.inr ⟨fun hh => h hh.1, a5, a6, a7, rfl, a8, a9⟩⟩
