/-! TEXT: the smallest readings, side by side -/
def pt_fa (u v : px_Z) : Prop := ∀ c j, ¬ (c = 121 ∧ (j = 4 ∨ j = 7 ∨ j = 8)) → v c j = u c j
def pt_fb (z w : px_Z) : Prop := ∀ c j, ¬ (c = 150 ∧ ((14 ≤ j ∧ j ≤ 17) ∨ j = 31 ∨ j = 32)) → w c j = z c j
/-- both went on, or both found the same fault at the same place -/
def pt_both (b : Nat → Int) (L T t : Nat) (k : Int) (ok : Prop) (u v z w : px_Z) (r : Int) (a : Int) : Prop :=
  pt_fa u v ∧ pt_fb z w ∧ ((ok ∧ t < T ∧ pt_A v b L T (t + 1) ∧ pt_B w b L (pt_st b L (t + 1)) ∧ v 121 7 = 0 ∧ r = a) ∨ (¬ ok ∧ pt_A v b L T t ∧ v 121 7 = k ∧ v 121 8 = (pt_st b L t : Int) ∧ r = -1 ∧ w 150 31 = k ∧ w 150 32 = (pt_st b L t : Int)))
theorem pt_errs {z : px_Z} {b : Nat → Int} {L i : Nat} (h : pt_B z b L i) (k : Int) : ∃ w, f_M_errs z k = some (-1, w) ∧ w 150 31 = k ∧ w 150 32 = (i : Int) ∧ pt_fb z w := by
  unfold f_M_errs
  have e : px_up z 150 31 k 150 15 = (i : Int) := by rw [pt_upn (by omega)]; exact h.2.2.2.2.2.2.2.1
  rw [e]
  exact ⟨_, rfl, by rw [pt_upn (by omega), pt_upi], pt_upi, fun c j hh => by rw [pt_upn (by omega), pt_upn (by omega)]⟩
theorem pt_good {u z : px_Z} {b : Nat → Int} {L T t : Nat} (hA : pt_A u b L T t) (hB : pt_B z b L (pt_st b L t)) (h0 : u 121 7 = 0) (ht : t < T) : ∃ v w, f_Reader_step u = some v ∧ f_M_reads z = some w ∧ pt_fa u v ∧ pt_fb z w ∧ pt_A v b L T (t + 1) ∧ pt_B w b L (pt_st b L (t + 1)) ∧ v 121 7 = 0 := by
  obtain ⟨v, a1, a2, a3⟩ := pt_step hA ht
  obtain ⟨w, b1, b2, b3⟩ := pt_next hB
  exact ⟨v, w, a1, b1, fun c j hh => a3 c j (by omega), fun c j hh => b3 c j (by omega), a2, b2, (a3 121 7 (by omega)).trans h0⟩
theorem pt_bad {u z : px_Z} {b : Nat → Int} {L T t : Nat} (hA : pt_A u b L T t) (hB : pt_B z b L (pt_st b L t)) (h0 : u 121 7 = 0) (k : Int) (hk : k ≠ 0 := by decide) : ∃ v w, f_Reader_fail u k = some v ∧ f_M_errs z k = some (-1, w) ∧ pt_fa u v ∧ pt_fb z w ∧ pt_A v b L T t ∧ v 121 7 = k ∧ v 121 8 = (pt_st b L t : Int) ∧ w 150 31 = k ∧ w 150 32 = (pt_st b L t : Int) := by
  obtain ⟨v, a1, a2, a3, a4, a5⟩ := pt_fail hA h0 k hk
  obtain ⟨w, b1, b2, b3, b4⟩ := pt_errs hB k
  exact ⟨v, w, a1, b1, fun c j hh => a5 c j (by omega), b4, a4, a2, a3, b2, b3⟩
/-- the reference's question for a sign, for a WORD -/
theorem pt_isSg {z : px_Z} {b : Nat → Int} {L i : Nat} (hB : pt_B z b L i) {c : Int} (hc : pt_sg c = true) : f_M_isSign z c = if pt_ck b L i = c then 1 else 0 := by
  have hcr : c = 59 ∨ c = 43 ∨ c = 45 ∨ c = 42 ∨ c = 47 ∨ c = 40 ∨ c = 41 ∨ c = 60 ∨ c = 61 ∨ c = 62 := of_decide_eq_true hc
  obtain ⟨h1, h2, h3, h4, h5, h6, h7, h8, h9, h10⟩ := hB
  unfold f_M_isSign
  rw [h9]
  rcases pt_kinds b h6 with ⟨k1, k2, _⟩ | ⟨ki, k1, k2⟩ | ⟨ki, k1, k2⟩ | ⟨ki, k1, k2, k3⟩ | ⟨j, ki, kj, k1, k2, k3⟩
  · rw [k2, k1, if_neg (by decide), if_neg (by omega)]
  · rw [k2, k1, if_neg (by decide), if_neg (by omega)]
  · rw [k2, k1, if_neg (by decide), if_neg (by omega)]
  · rw [k2, if_pos rfl, h10 ki, k3]
  · rw [k2, k1, if_neg (by decide), if_neg (by omega)]
theorem pt_isWd {z : px_Z} {b : Nat → Int} {L i : Nat} (hB : pt_B z b L i) {j : Nat} (hj : j < 28) : f_M_isWord z (pt_pe j : Int) = if pt_ck b L i = 256 + (j : Int) then 1 else 0 := by
  obtain ⟨h1, h2, h3, h4, h5, h6, h7, h8, h9, h10⟩ := hB
  unfold f_M_isWord
  rw [h9]
  rcases pt_kinds b h6 with ⟨k1, k2, _⟩ | ⟨ki, k1, k2⟩ | ⟨ki, k1, k2⟩ | ⟨ki, k1, k2, k3⟩ | ⟨j', ki, kj, k1, k2, k3⟩
  · rw [k2, k1, if_neg (by decide), if_neg (by omega)]
  · rw [k2, k1, if_neg (by decide), if_neg (by omega)]
  · rw [k2, k1, if_neg (by decide), if_neg (by omega)]
  · have hcr := of_decide_eq_true k1
    rw [k2, if_neg (by decide), if_neg (by omega)]
  · rw [k2, if_pos rfl, h10 ki, k3, k1]
    by_cases e : j' = j
    · subst e; rw [if_pos rfl, if_pos rfl]
    · rw [if_neg (fun h => e (pt_pei j' kj j hj (by omega))), if_neg (by omega)]
theorem pt_expect {u z : px_Z} {b : Nat → Int} {L T t : Nat} (hA : pt_A u b L T t) (hB : pt_B z b L (pt_st b L t)) (h0 : u 121 7 = 0) {k : Int} (hk : k ≠ 0) {q : Int} (hq : q = if pt_ck b L (pt_st b L t) = k then 1 else 0) : ∃ v w r, f_Reader_expect u k = some v ∧ (if q = 0 then (f_M_errs z 1).bind (fun q3 => some (q3.1, q3.2)) else (f_M_reads z).bind (fun q2 => some (0, q2))) = some (r, w) ∧ pt_both b L T t 1 (pt_ck b L (pt_st b L t) = k) u v z w r 0 := by
  obtain ⟨g1, g2, g3, g4⟩ := pt_A_tok hA
  unfold f_Reader_expect
  rw [if_pos g1, g2]
  by_cases h : pt_ck b L (pt_st b L t) = k
  · have ht := pt_A_end hA (by rw [h]; exact hk)
    obtain ⟨v, w, a1, a2, a3, a4, a5, a6, a7⟩ := pt_good hA hB h0 ht
    rw [if_pos h] at hq
    rw [if_pos h, hq, if_neg (by decide), a1, a2, Option.bind_some, Option.bind_some]
    exact ⟨v, w, 0, rfl, rfl, a3, a4, Or.inl ⟨h, ht, a5, a6, a7, rfl⟩⟩
  · obtain ⟨v, w, a1, a2, a3, a4, a5, a6, a7, a8, a9⟩ := pt_bad hA hB h0 1
    rw [if_neg h] at hq
    rw [if_neg h, hq, if_pos rfl, a1, a2, Option.bind_some, Option.bind_some]
    exact ⟨v, w, -1, rfl, rfl, a3, a4, Or.inr ⟨h, a5, a6, a7, rfl, a8, a9⟩⟩
theorem pt_mark {u z : px_Z} {b : Nat → Int} {L T t : Nat} (hA : pt_A u b L T t) (hB : pt_B z b L (pt_st b L t)) (h0 : u 121 7 = 0) {c : Int} (hc : pt_sg c = true) : ∃ v w r, f_Reader_expect u c = some v ∧ f_M_readMark z c = some (r, w) ∧ pt_both b L T t 1 (pt_ck b L (pt_st b L t) = c) u v z w r 0 :=
  pt_expect hA hB h0 (fun h => by rw [h] at hc; exact absurd hc (by decide)) (pt_isSg hB hc)
theorem pt_word {u z : px_Z} {b : Nat → Int} {L T t : Nat} (hA : pt_A u b L T t) (hB : pt_B z b L (pt_st b L t)) (h0 : u 121 7 = 0) {j : Nat} (hj : j < 28) : ∃ v w r, f_Reader_expect u (256 + (j : Int)) = some v ∧ f_M_readWord z (pt_pe j : Int) = some (r, w) ∧ pt_both b L T t 1 (pt_ck b L (pt_st b L t) = 256 + (j : Int)) u v z w r 0 :=
  pt_expect hA hB h0 (by omega) (pt_isWd hB hj)
