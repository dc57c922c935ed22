/-! TEXT: a WORD and its number -/
/-- the outcome of a reading: both stand at the token t', or the same fault -/
def pt_out (b : Nat → Int) (L T t' : Nat) (v w : px_Z) (r : Int) : Prop := (v 121 7 = 0 ∧ pt_A v b L T t' ∧ pt_B w b L (pt_st b L t') ∧ r ≠ -1) ∨ (v 121 7 ≠ 0 ∧ (∃ t, pt_A v b L T t) ∧ r = -1 ∧ w 150 31 = v 121 7 ∧ w 150 32 = v 121 8)
theorem pt_told {u z : px_Z} {b : Nat → Int} {L T t : Nat} (hA : pt_A u b L T t) (hB : pt_B z b L (pt_st b L t)) (h0 : u 121 7 = 0) {j : Nat} (hj : j < 28) {lo hi : Int} (hlo : 0 ≤ lo) : ∃ v1 v w r x, f_Reader_expect u (256 + (j : Int)) = some v1 ∧ f_Reader_numberWithin v1 lo hi = some (x, v) ∧ f_M_readTold z (pt_pe j : Int) lo hi = some (r, w) ∧ pt_fa u v ∧ pt_fb z w ∧ pt_out b L T (t + 2) v w r ∧ (v 121 7 = 0 → x = r ∧ lo ≤ r ∧ r ≤ hi) := by
  obtain ⟨v1, w1, r1, a1, a2, a3, a4, a5⟩ := pt_word hA hB h0 hj
  unfold f_M_readTold
  rw [a2, Option.bind_some]
  rcases a5 with ⟨ok, ht, hA1, hB1, h1, hr⟩ | ⟨nok, hA1, h7, h8, hr, g1, g2⟩
  · subst hr
    obtain ⟨v, w, r, x, k, b1, b2, hk, hx, b3, b4, b5⟩ := pt_numb hA1 hB1 h1 lo hi
    rw [if_neg (by show ¬ (0 : Int) = -1; decide), b2, Option.bind_some]
    refine ⟨v1, v, w, r, x, a1, b1, rfl, fun c j hh => (b3 c j hh).trans (a3 c j hh), fun c j hh => (b4 c j hh).trans (a4 c j hh), ?_, ?_⟩
    · rcases b5 with ⟨ok2, ht2, hA2, hB2, h2, hr2⟩ | ⟨nok2, hA2, k7, k8, hr2, g1, g2⟩
      · exact Or.inl ⟨h2, hA2, hB2, by omega⟩
      · exact Or.inr ⟨by omega, ⟨_, hA2⟩, hr2, by rw [g1, k7], by rw [g2, k8]⟩
    · intro h
      rcases b5 with ⟨ok2, ht2, hA2, hB2, h2, hr2⟩ | ⟨nok2, hA2, k7, k8, hr2, g1, g2⟩
      · rw [hx ok2.1, hr2]; exact ⟨rfl, ok2.2.1, ok2.2.2⟩
      · omega
  · obtain ⟨x, v, b1, hA2, b2⟩ := pt_numbD hA1 (by omega) lo hi
    rw [if_pos hr]
    have e7 := b2 121 7 (by omega)
    have e8 := b2 121 8 (by omega)
    refine ⟨v1, v, w1, -1, x, a1, b1, rfl, fun c j hh => (b2 c j (by omega)).trans (a3 c j hh), a4, Or.inr ⟨by omega, hA2, rfl, by rw [g1, e7, h7], by rw [g2, e8, h8]⟩, fun h => by omega⟩
