/-! TEXT: a line of a LAW -/
theorem pt_addLine {s : px_Z} {n : Nat} (h : s 125 0 = (n : Int)) (hn : n < 16) (x1 x2 x3 : Int) : ∃ v, f_Law_addLine s x1 x2 x3 = some v ∧ v 125 0 = ((n + 1 : Nat) : Int) ∧ v 126 n = x1 ∧ v 127 n = x2 ∧ v 128 n = x3 ∧ v 129 n = s 125 1 ∧ (∀ c j, ¬ (c = 125 ∧ j = 0) → ¬ (126 ≤ c ∧ c ≤ 129 ∧ j = n) → v c j = s c j) := by
  have g : 0 ≤ (n : Int) ∧ (n : Int) < 16 := by omega
  refine ⟨px_up (px_up (px_up (px_up (px_up s 126 n x1) 127 n x2) 128 n x3) 129 n (s 125 1)) 125 0 ((n + 1 : Nat) : Int), ?_, pt_upi, ?_, ?_, ?_, ?_, ?_⟩
  · unfold f_Law_addLine
    simp only [pt_upc, ne_eq, Nat.reduceEqDiff, not_false_eq_true, h, if_pos g, Int.toNat_natCast]
    rw [if_neg (by omega), pz_wr_suc (by omega)]
  · rw [pt_upn (by omega), pt_upn (by omega), pt_upn (by omega), pt_upn (by omega), pt_upi]
  · rw [pt_upn (by omega), pt_upn (by omega), pt_upn (by omega), pt_upi]
  · rw [pt_upn (by omega), pt_upn (by omega), pt_upi]
  · rw [pt_upn (by omega), pt_upi]
  · intro c j h1 h2
    rw [pt_upn (by omega), pt_upn (by omega), pt_upn (by omega), pt_upn (by omega), pt_upn (by omega)]
/-- the word of a line -/
def pt_KN (b : Nat → Int) (L i : Nat) (z : px_Z) : Prop := (z 150 26 = 0 ∧ pt_ck b L i = 265) ∨ (z 150 26 ≠ 0 ∧ 266 ≤ pt_ck b L i ∧ pt_ck b L i ≤ 268)
theorem pt_lw1 {z : px_Z} {b : Nat → Int} {L i : Nat} (hB : pt_B z b L i) (h : pt_KN b L i z) : f_M_isLineWord z ≠ 0 ∧ z 150 17 = pt_ck b L i - 265 := by
  have h10 := hB.2.2.2.2.2.2.2.2.2
  have hv : z 150 17 = pt_ck b L i - 265 := by
    rcases pt_kinds b hB.2.2.2.2.2.1 with ⟨k1, k2, k3⟩ | ⟨ki, k1, k2⟩ | ⟨ki, k1, k2⟩ | ⟨ki, k1, k2, k3⟩ | ⟨j, ki, kj, k1, k2, k3⟩
    · rcases h with h | h <;> omega
    · rcases h with h | h <;> omega
    · rcases h with h | h <;> omega
    · have hcr := of_decide_eq_true k1
      rcases h with h | h <;> omega
    · rw [h10 ki, k3, k1]
      have hj : j = 9 ∨ j = 10 ∨ j = 11 ∨ j = 12 := by rcases h with h | h <;> omega
      rcases hj with e | e | e | e <;> subst e <;> decide
  refine ⟨?_, hv⟩
  unfold f_M_isLineWord
  rcases h with ⟨h1, h2⟩ | ⟨h1, h2⟩
  · rw [if_pos h1, pt_isW1 hB (j := 9) (by decide) (k := 265) (m := 0) rfl rfl h2]; decide
  · rw [if_neg h1]
    by_cases e1 : pt_ck b L i = 266
    · rw [pt_isW1 hB (j := 10) (by decide) (k := 266) (m := 1) rfl rfl e1, if_neg pt_1n0]; decide
    · rw [pt_isW0 hB (j := 10) (by decide) (k := 266) (m := 1) rfl rfl e1, if_pos rfl]
      by_cases e2 : pt_ck b L i = 267
      · rw [pt_isW1 hB (j := 11) (by decide) (k := 267) (m := 2) rfl rfl e2, if_neg pt_1n0]; decide
      · rw [pt_isW0 hB (j := 11) (by decide) (k := 267) (m := 2) rfl rfl e2, if_pos rfl, pt_isW1 hB (j := 12) (by decide) (k := 268) (m := 3) rfl rfl (by omega), if_neg pt_1n0]; decide
theorem pt_lw0 {z : px_Z} {b : Nat → Int} {L i : Nat} (hB : pt_B z b L i) (h : ¬ pt_KN b L i z) : f_M_isLineWord z = 0 := by
  unfold f_M_isLineWord
  by_cases h1 : z 150 26 = 0
  · rw [if_pos h1, pt_isW0 hB (j := 9) (by decide) (k := 265) (m := 0) rfl rfl (fun h2 => h (Or.inl ⟨h1, h2⟩))]
  · have h2 : ¬ (266 ≤ pt_ck b L i ∧ pt_ck b L i ≤ 268) := fun hh => h (Or.inr ⟨h1, hh⟩)
    rw [if_neg h1, pt_isW0 hB (j := 10) (by decide) (k := 266) (m := 1) rfl rfl (by omega), if_pos rfl, pt_isW0 hB (j := 11) (by decide) (k := 267) (m := 2) rfl rfl (by omega), if_pos rfl, pt_isW0 hB (j := 12) (by decide) (k := 268) (m := 3) rfl rfl (by omega), if_pos rfl]
theorem pt_lwR {u z : px_Z} {b : Nat → Int} {L T t : Nat} (hA : pt_A u b L T t) (hP : pt_P u z) (x1 : Int) : (pt_KN b L (pt_st b L t) z → f_Reader_readLawLine u x1 = j_Reader_readLawLine_j20 u x1 (pt_ck b L (pt_st b L t)) 1) ∧ (¬ pt_KN b L (pt_st b L t) z → f_Reader_readLawLine u x1 = (f_Reader_fail u 1).bind (fun q16 => some q16)) := by
  obtain ⟨g1, g2, g3, g4⟩ := pt_A_tok hA
  unfold f_Reader_readLawLine
  rw [if_pos g1, g2, pz_within]
  rcases hP with ⟨p1, p2⟩ | ⟨p1, p2⟩
  · rw [if_pos p1]
    refine ⟨fun h => ?_, fun h => ?_⟩
    · have h2 : 266 ≤ pt_ck b L (pt_st b L t) ∧ pt_ck b L (pt_st b L t) ≤ 268 := by
        rcases h with ⟨q1, _⟩ | ⟨_, q2⟩
        · exact absurd q1 p2
        · exact q2
      rw [if_pos h2]
    · rw [if_neg (fun h2 => h (Or.inr ⟨p2, h2⟩))]
      unfold j_Reader_readLawLine_j20
      rw [if_pos rfl]
  · rw [if_neg (show ¬ u 121 6 = 0 by omega)]
    refine ⟨fun h => ?_, fun h => ?_⟩
    · have h2 : pt_ck b L (pt_st b L t) = 265 := by
        rcases h with ⟨_, q1⟩ | ⟨q1, _⟩
        · exact q1
        · exact absurd p2 q1
      rw [if_pos h2]
    · rw [if_neg (fun h2 => h (Or.inl ⟨p2, h2⟩))]
      unfold j_Reader_readLawLine_j20
      rw [if_pos rfl]
theorem pt_w32 {n : Nat} (h : n < 16) : px_wr (32 + (n : Int)) = ((32 + n : Nat) : Int) := by rw [pz_wr_id (by omega) (by omega)]; omega
def pt_k8 (s : px_Z) : Option (Int × px_Z) := (f_M_errs s 3).bind (fun q19 => some (q19.1, q19.2))
def pt_k64 (s : px_Z) : Option (Int × px_Z) := (f_M_errs s 1).bind (fun q20 => some (q20.1, q20.2))
def pt_k75 (s : px_Z) (x1 : Int) : Option (Int × px_Z) := if (s 150 16) = (0) then some (x1, s) else (f_M_errs s 1).bind (fun q22 => some (q22.1, q22.2))
def pt_rl (fm : Nat) (s : px_Z) (x : Int) : Option (Int × px_Z) := l_M_readLaw_2 pt_k8 pt_k64 pt_k75 fm s x
/-- the end of a line -/
def pt_le1 (fm n : Nat) (s : px_Z) : Option (Int × px_Z) := if f_M_isSign (px_up s 162 (32 + n) (s 150 27)) 59 = 0 then pt_k64 (px_up s 162 (32 + n) (s 150 27)) else (f_M_reads (px_up s 162 (32 + n) (s 150 27))).bind (fun q12 => pt_rl fm q12 ((n + 1 : Nat) : Int))
theorem pt_rlE {n fm : Nat} (hn : n < 16) {s : px_Z} (h : f_M_isLineWord s ≠ 0) : pt_rl (fm + 1) s (n : Int) = (f_M_reads (px_up s 159 (32 + n) (s 150 17))).bind (fun q4 => (f_M_readSum (px_up q4 160 (32 + n) (q4 150 27))).bind (fun q6 => if (q6.1) = ((-1)) then some (((-1), q6.2)) else (if (f_M_isWord (px_up q6.2 161 (32 + n) (q6.2 150 27)) 4) = (0) then pt_le1 fm n (px_up q6.2 161 (32 + n) (q6.2 150 27)) else (f_M_reads (px_up q6.2 161 (32 + n) (q6.2 150 27))).bind (fun q13 => (f_M_readAny q13).bind (fun q14 => if (q14.1) = ((-1)) then some (((-1), q14.2)) else pt_le1 fm n q14.2))))) := by
  have g : 0 ≤ ((32 + n : Nat) : Int) ∧ ((32 + n : Nat) : Int) < 48 := ⟨Int.natCast_nonneg _, by omega⟩
  unfold pt_rl
  rw [l_M_readLaw_2, if_neg h, if_neg (show ¬ (n : Int) = 16 by omega), pt_w32 hn, pz_wr_suc (show n < 2147483647 by omega)]
  simp only [if_pos g, Int.toNat_natCast, pt_le1, pt_rl]
theorem pt_SU {b : Nat → Int} {L T k0 t m : Nat} {ts : List Nat} {u z : px_Z} {c k : Nat} {x : Int} (hS : pt_S b L T k0 t m ts u z) (hc : 159 ≤ c ∧ c ≤ 162) : pt_S b L T k0 t m ts u (px_up z c k x) := by
  obtain ⟨hA, hB, h0, hQ⟩ := hS
  refine ⟨hA, pt_B_up hB (by omega) (by omega), h0, ?_⟩
  obtain ⟨c1, c2, c3, c4, c5⟩ := hQ
  refine ⟨c1, by rw [pt_upn (by omega)]; exact c2, c3, c4, fun i hi => ?_⟩
  rw [pt_upn (by omega), pt_upn (by omega), pt_upn (by omega)]
  exact c5 i hi
theorem pt_PU {u z : px_Z} {c k : Nat} {x : Int} (hP : pt_P u z) (hc : c ≠ 150) : pt_P u (px_up z c k x) := by
  unfold pt_P; rw [pt_upn (by omega)]; exact hP
def pt_fL (n m : Nat) (u v : px_Z) : Prop := ∀ c j, ¬ (c = 121 ∧ (j = 4 ∨ j = 7 ∨ j = 8)) → c ≠ 125 → ¬ (126 ≤ c ∧ c ≤ 129 ∧ j = n) → ¬ (c = 130 ∧ m ≤ j) → v c j = u c j
def pt_gL (n : Nat) (z w : px_Z) : Prop := ∀ c j, ¬ (c = 150 ∧ ((14 ≤ j ∧ j ≤ 17) ∨ j = 27 ∨ j = 28 ∨ j = 30 ∨ j = 31 ∨ j = 32)) → ¬ ((c = 163 ∨ c = 164) ∧ 800 ≤ j) → c ≠ 165 → ¬ (159 ≤ c ∧ c ≤ 162 ∧ j = 32 + n) → w c j = z c j
/-- both at the end of line n, its numbers known -/
def pt_lnR (n : Nat) (v w : px_Z) : Prop := v 126 n = 265 + w 159 (32 + n) ∧ v 127 n = w 160 (32 + n) ∧ v 128 n = w 161 (32 + n) ∧ v 129 n = w 162 (32 + n)
/-- the mark of a line, and the line is told -/
theorem pt_lend {b : Nat → Int} {L T k0 t m n : Nat} {ts : List Nat} {u z : px_Z} (hS : pt_S b L T k0 t m ts u z) (hn : n < 16) (h125 : u 125 0 = (n : Int)) (x2 x4 x5 : Int) (fm : Nat) : ∃ v w, j_Reader_readLawLine_j60 u x2 x4 x5 = some v ∧ pt_fL n m u v ∧ (∀ j, v 130 j = u 130 j) ∧ pt_gL n z w ∧ ((t < T ∧ pt_le1 fm n z = pt_rl fm w ((n + 1 : Nat) : Int) ∧ pt_A v b L T (t + 1) ∧ pt_B w b L (pt_st b L (t + 1)) ∧ v 121 7 = 0 ∧ v 125 0 = ((n + 1 : Nat) : Int) ∧ v 125 1 = (m : Int) ∧ v 126 n = x2 ∧ v 127 n = x4 ∧ v 128 n = x5 ∧ v 129 n = (m : Int) ∧ w 162 (32 + n) = (m : Int) ∧ w 150 27 = (m : Int) ∧ (∀ c j, ¬ (c = 150 ∧ 14 ≤ j ∧ j ≤ 17) → ¬ (c = 162 ∧ j = 32 + n) → w c j = z c j)) ∨ (pt_le1 fm n z = some (-1, w) ∧ v 121 7 ≠ 0 ∧ w 150 31 = v 121 7 ∧ w 150 32 = v 121 8)) := by
  have SU : pt_S b L T k0 t m ts u (px_up z 162 (32 + n) (z 150 27)) := pt_SU hS (by omega)
  obtain ⟨g1, g2, g3, g4⟩ := pt_A_tok hS.1
  unfold j_Reader_readLawLine_j60 pt_le1
  rw [if_pos hS.2.2.1]
  by_cases h59 : pt_ck b L (pt_st b L t) = 59
  · have ht := pt_A_end hS.1 (by rw [h59]; decide)
    obtain ⟨v1, w, a1, a2, a3, a4, a5⟩ := pt_go SU ht
    have ex : f_Reader_expect u 59 = some v1 := by
      unfold f_Reader_expect
      rw [if_pos g1, if_pos (g2.trans h59), a1, Option.bind_some]
    obtain ⟨v, b1, b2, b3, b4, b5, b6, b7⟩ := pt_addLine ((a4 125 0 (by omega)).trans h125) hn x2 x4 x5
    rw [ex, Option.bind_some, b1, Option.bind_some, pt_isS1 SU.2.1 (c := 59) rfl h59, if_neg pt_1n0, a2, Option.bind_some]
    have e1 : v 125 1 = (m : Int) := (b7 125 1 (by omega) (by omega)).trans ((a4 125 1 (by omega)).trans hS.2.2.2.1)
    refine ⟨v, w, rfl, fun c j q1 q2 q3 q4 => (b7 c j (by omega) q3).trans (a4 c j q1), fun j => (b7 130 j (by omega) (by omega)).trans (a4 130 j (by omega)), fun c j q1 q2 q3 q4 => (a5 c j (by omega)).trans (pt_upn (by omega)), Or.inl ⟨ht, rfl, pt_A_of a3.1 (fun j hj => b7 121 j (by omega) (by omega)) (fun c j q1 q2 => b7 c j (by omega) (by omega)), a3.2.1, (b7 121 7 (by omega) (by omega)).trans a3.2.2.1, b2, e1, b3, b4, b5, b6.trans ((a4 125 1 (by omega)).trans hS.2.2.2.1), ?_, ?_, fun c j q1 q2 => ?_⟩⟩
    · rw [a5 162 _ (by omega), pt_upi]; exact hS.2.2.2.2.1
    · rw [a5 150 27 (by omega), pt_upn (by omega)]; exact hS.2.2.2.2.1
    · obtain ⟨wq, r1, r2, r3⟩ := pt_next SU.2.1
      have ew : w = wq := by rw [a2] at r1; injection r1
      rw [ew, r3 c j (by omega), pt_upn (by omega)]
  · obtain ⟨v1, w, a1, a2, a3, a4, a5⟩ := pt_no SU (k := 1) (by decide)
    have ex : f_Reader_expect u 59 = some v1 := by
      unfold f_Reader_expect
      rw [if_pos g1, if_neg (fun hh => h59 (g2.symm.trans hh)), a1, Option.bind_some]
    obtain ⟨v, b1, b2, b3, b4, b5, b6, b7⟩ := pt_addLine ((a4 125 0 (by omega)).trans h125) hn x2 x4 x5
    unfold pt_k64
    rw [ex, Option.bind_some, b1, Option.bind_some, pt_isS0 SU.2.1 (c := 59) rfl h59, if_pos rfl, a2, Option.bind_some]
    exact ⟨v, w, rfl, fun c j q1 q2 q3 q4 => (b7 c j (by omega) q3).trans (a4 c j q1), fun j => (b7 130 j (by omega) (by omega)).trans (a4 130 j (by omega)), fun c j q1 q2 q3 q4 => (a5 c j (by omega)).trans (pt_upn (by omega)), Or.inr ⟨rfl, by rw [b7 121 7 (by omega) (by omega)]; exact a3.1, by rw [b7 121 7 (by omega) (by omega)]; exact a3.2.2.2.1, by rw [b7 121 8 (by omega) (by omega)]; exact a3.2.2.2.2⟩⟩
