/-! TEXT: the class at its t-th token, the reference at the token that begins at i -/
def pt_A (u : px_Z) (b : Nat → Int) (L T t : Nat) : Prop := pt_toks u b L T ∧ u 121 4 = (t : Int) ∧ t ≤ T ∧ L ≤ 400 ∧ (u 121 7 = 0 → u 121 8 = -1)
def pt_B (z : px_Z) (b : Nat → Int) (L i : Nat) : Prop := z 150 13 = (L : Int) ∧ L ≤ 400 ∧ z 156 = b ∧ (∀ k, k < 400 → 0 ≤ b k) ∧ (∀ k, k < 139 → z 157 k = pz_wd.getD k 0) ∧ i ≤ L ∧ z 150 14 = (pt_en b L i : Int) ∧ z 150 15 = (i : Int) ∧ z 150 16 = pt_mk b L i ∧ (i < L → z 150 17 = pt_mw b L i)
/-- cells that tell where the class is stay: what else may change -/
theorem pt_A_of {u v : px_Z} {b : Nat → Int} {L T t : Nat} (h : pt_A u b L T t) (h1 : ∀ j, j = 3 ∨ j = 4 ∨ j = 7 ∨ j = 8 → v 121 j = u 121 j) (h2 : ∀ c j, 122 ≤ c → c ≤ 124 → v c j = u c j) : pt_A v b L T t := by
  obtain ⟨⟨a1, a2, a3, a4, a5⟩, a6, a7, a8, a9⟩ := h
  refine ⟨⟨(h1 3 (Or.inl rfl)).trans a1, a2, a3, a4, fun k hk => ?_⟩, (h1 4 (Or.inr (Or.inl rfl))).trans a6, a7, a8, fun q => (h1 8 (Or.inr (Or.inr (Or.inr rfl)))).trans (a9 ((h1 7 (Or.inr (Or.inr (Or.inl rfl)))).symm.trans q))⟩
  obtain ⟨c1, c2, c3⟩ := a5 k hk
  exact ⟨(h2 122 k (by omega) (by omega)).trans c1, fun h => (h2 123 k (by omega) (by omega)).trans (c2 h), (h2 124 k (by omega) (by omega)).trans c3⟩
/-- the token under the class's hand -/
theorem pt_A_tok {u : px_Z} {b : Nat → Int} {L T t : Nat} (h : pt_A u b L T t) : (0 ≤ u 121 4 ∧ u 121 4 < 401) ∧ u 122 (u 121 4).toNat = pt_ck b L (pt_st b L t) ∧ (pt_ck b L (pt_st b L t) = 1 → u 123 (u 121 4).toNat = pt_mw b L (pt_st b L t)) ∧ u 124 (u 121 4).toNat = (pt_st b L t : Int) := by
  obtain ⟨⟨a1, a2, a3, a4, a5⟩, a6, a7, a8⟩ := h
  rw [a6, Int.toNat_natCast]
  exact ⟨⟨Int.natCast_nonneg _, by omega⟩, a5 t a7⟩
theorem pt_A_end {u : px_Z} {b : Nat → Int} {L T t : Nat} (h : pt_A u b L T t) : pt_ck b L (pt_st b L t) ≠ 0 → t < T := by
  intro h1
  obtain ⟨⟨a1, a2, a3, a4, a5⟩, a6, a7, a8⟩ := h
  apply Nat.lt_of_le_of_ne a7
  intro e; subst e
  apply h1
  rw [a4, pt_ck, if_neg (by omega)]
theorem pt_step {u : px_Z} {b : Nat → Int} {L T t : Nat} (h : pt_A u b L T t) (ht : t < T) : ∃ v, f_Reader_step u = some v ∧ pt_A v b L T (t + 1) ∧ (∀ c j, ¬ (c = 121 ∧ j = 4) → v c j = u c j) := by
  obtain ⟨⟨a1, a2, a3, a4, a5⟩, a6, a7, a8, a9⟩ := h
  unfold f_Reader_step
  rw [a1, a6, pz_wr_id (by omega) (by omega), if_neg (by omega), pz_wr_suc (by omega)]
  refine ⟨_, rfl, ⟨⟨?_, a2, a3, a4, fun k hk => ?_⟩, pt_upi, by omega, a8, fun q => by rw [pt_upn (by omega)] at q ⊢; exact a9 q⟩, fun c j hh => pt_upn hh⟩
  · rw [pt_upn (by omega)]; exact a1
  · obtain ⟨c1, c2, c3⟩ := a5 k hk
    exact ⟨by rw [pt_upn (by omega)]; exact c1, fun h => by rw [pt_upn (by omega)]; exact c2 h, by rw [pt_upn (by omega)]; exact c3⟩
theorem pt_next {z : px_Z} {b : Nat → Int} {L t : Nat} (h : pt_B z b L (pt_st b L t)) : ∃ v, f_M_reads z = some v ∧ pt_B v b L (pt_st b L (t + 1)) ∧ pt_fr z v := by
  obtain ⟨h1, h2, h3, h4, h5, h6, h7, h8, h9, h10⟩ := h
  have hen := pt_en_le b h6
  obtain ⟨v, a1, a2, a3, a4, a5, a6⟩ := pt_reads h2 h1 h3 h4 h5 hen.2.1 h7
  refine ⟨v, a1, ⟨?_, h2, ?_, h4, fun k hk => ?_, pt_st_le b L (t + 1), a2, a3, a4, a5⟩, a6⟩
  · rw [a6 150 13 (by omega)]; exact h1
  · rw [← h3]; exact funext fun k => a6 156 k (by omega)
  · rw [a6 157 k (by omega)]; exact h5 k hk
theorem pt_fail {u : px_Z} {b : Nat → Int} {L T t : Nat} (h : pt_A u b L T t) (h0 : u 121 7 = 0) (k : Int) (hk : k ≠ 0 := by decide) : ∃ v, f_Reader_fail u k = some v ∧ v 121 7 = k ∧ v 121 8 = (pt_st b L t : Int) ∧ pt_A v b L T t ∧ (∀ c j, ¬ (c = 121 ∧ (j = 7 ∨ j = 8)) → v c j = u c j) := by
  obtain ⟨g1, g2, g3, g4⟩ := pt_A_tok h
  have e1 : px_up u 121 7 k 121 4 = u 121 4 := pt_upn (by omega)
  have e2 : px_up u 121 7 k 124 = u 124 := pt_upc (by omega)
  unfold f_Reader_fail
  rw [if_pos h0, e1, if_pos g1, e2, g4]
  refine ⟨_, rfl, ?_, pt_upi, ?_, fun c j hh => ?_⟩
  · rw [pt_upn (by omega), pt_upi]
  · obtain ⟨⟨a1, a2, a3, a4, a5⟩, a6, a7, a8, a9⟩ := h
    refine ⟨⟨by rw [pt_upn (by omega), pt_upn (by omega)]; exact a1, a2, a3, a4, fun q hq => ?_⟩, by rw [pt_upn (by omega), pt_upn (by omega)]; exact a6, a7, a8, fun q => by rw [pt_upn (by omega), pt_upi] at q; exact absurd q hk⟩
    obtain ⟨c1, c2, c3⟩ := a5 q hq
    exact ⟨by rw [pt_upn (by omega), pt_upn (by omega)]; exact c1, fun h => by rw [pt_upn (by omega), pt_upn (by omega)]; exact c2 h, by rw [pt_upn (by omega), pt_upn (by omega)]; exact c3⟩
  · rw [pt_upn (by omega), pt_upn (by omega)]
theorem pt_fail2 {u : px_Z} (h0 : u 121 7 ≠ 0) (k : Int) : f_Reader_fail u k = some u := by
  unfold f_Reader_fail; rw [if_neg h0]
