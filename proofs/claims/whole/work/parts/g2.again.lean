/-! TEXT: a PLAN's again, written out -/
theorem pt_repL {len total : Nat} (hl : 0 < len) : ∀ (r fu i : Nat) (s : px_Z), 60 - i = r → r + 1 < fu → len ≤ i → i < 2000000 → ∃ v, l_Plan_repeat_14 fu s (len : Int) (total : Int) (i : Int) = some v ∧ v 138 0 = (total : Int) ∧ (∀ c j, 139 ≤ c → c ≤ 141 → j < i → v c j = s c j) ∧ (∀ c j, 139 ≤ c → c ≤ 141 → i ≤ j → j < total → j < 60 → v c j = v c (j - len)) ∧ (∀ c j, ¬ (c = 138 ∧ j = 0) → ¬ (139 ≤ c ∧ c ≤ 141) → v c j = s c j) := by
  intro r
  induction r with
  | zero =>
    intro fu i s hr hf hli hi
    obtain ⟨fu, rfl⟩ : ∃ q, fu = q + 1 := ⟨fu - 1, by omega⟩
    refine ⟨px_up s 138 0 (total : Int), ?_, pt_upi, fun c j h1 h2 _ => pt_upn (by omega), fun c j h1 h2 h3 h4 h5 => by omega, fun c j h1 h2 => pt_upn h1⟩
    rw [l_Plan_repeat_14, if_neg (show ¬ (len : Int) ≤ 0 by omega)]
    by_cases e : (total : Int) ≤ (i : Int)
    · rw [if_pos e]
    · rw [if_neg e, if_pos (show (60 : Int) ≤ (i : Int) by omega)]
  | succ r ih =>
    intro fu i s hr hf hli hi
    obtain ⟨fu, rfl⟩ : ∃ q, fu = q + 1 := ⟨fu - 1, by omega⟩
    rw [l_Plan_repeat_14, if_neg (show ¬ (len : Int) ≤ 0 by omega)]
    by_cases e : (total : Int) ≤ (i : Int)
    · rw [if_pos e]
      exact ⟨px_up s 138 0 (total : Int), rfl, pt_upi, fun c j h1 h2 _ => pt_upn (by omega), fun c j h1 h2 h3 h4 h5 => by omega, fun c j h1 h2 => pt_upn h1⟩
    · have wi : px_wr ((i : Int) - (len : Int)) = ((i - len : Nat) : Int) := by rw [pz_wr_id (by omega) (by omega)]; omega
      have g1 : 0 ≤ ((i - len : Nat) : Int) ∧ ((i - len : Nat) : Int) < 60 := by clear wi; omega
      have g2 : 0 ≤ (i : Int) ∧ (i : Int) < 60 := by clear wi; omega
      rw [if_neg e, if_neg (show ¬ (60 : Int) ≤ (i : Int) by clear wi; omega), wi, if_pos g1, if_pos g2, if_pos g1, if_pos g2, if_pos g1, if_pos g2, Int.toNat_natCast, Int.toNat_natCast, pz_wr_suc (show i < 2147483647 by clear wi; omega), pt_upc (show 140 ≠ 139 by decide), pt_upc (show 141 ≠ 140 by decide), pt_upc (show 141 ≠ 139 by decide)]
      clear wi
      obtain ⟨s1, hs1⟩ : ∃ s1 : px_Z, px_up (px_up (px_up s 139 i (s 139 (i - len))) 140 i (s 140 (i - len))) 141 i (s 141 (i - len)) = s1 := ⟨_, rfl⟩
      have q1 : ∀ c, 139 ≤ c → c ≤ 141 → s1 c i = s c (i - len) := by
        intro c h1 h2
        have hc : c = 139 ∨ c = 140 ∨ c = 141 := by omega
        rw [← hs1]
        rcases hc with e | e | e
        · subst e; rw [pt_upn (by omega), pt_upn (by omega), pt_upi]
        · subst e; rw [pt_upn (by omega), pt_upi]
        · subst e; rw [pt_upi]
      have q2 : ∀ c j, ¬ (139 ≤ c ∧ c ≤ 141 ∧ j = i) → s1 c j = s c j := by
        intro c j h
        rw [← hs1, pt_upn (by omega), pt_upn (by omega), pt_upn (by omega)]
      rw [hs1]
      obtain ⟨v, a1, a2, a3, a4, a5⟩ := ih fu (i + 1) s1 (by omega) (by omega) (by omega) (by omega)
      refine ⟨v, a1, a2, fun c j h1 h2 h3 => (a3 c j h1 h2 (by omega)).trans (q2 c j (by omega)), fun c j h1 h2 h3 h4 h5 => ?_, fun c j h1 h2 => (a5 c j h1 h2).trans (q2 c j (by omega))⟩
      by_cases ej : j = i
      · subst ej
        rw [a3 c j h1 h2 (by omega), q1 c h1 h2, a3 c (j - len) h1 h2 (by omega), q2 c (j - len) (by omega)]
      · exact a4 c j h1 h2 (by omega) h4 h5
/-- deeds of both: N of them, the i-th is the step F i; k steps -/
def pt_PD (nt N k : Nat) (F : Nat → Nat) (u z : px_Z) : Prop := u 138 0 = (N : Int) ∧ (∀ i, i < N → F i < k) ∧ ∀ i, i < N → i < 60 → pt_dr nt (u 139 i) (u 140 i) (u 141 i) (z 168 (F i)) (z 169 (F i)) (z 170 (F i))
def pt_RF (N l : Nat) (F : Nat → Nat) (i : Nat) : Nat := if i < N then F i else F (N + (i - N) % l)
theorem pt_rep {nt N N' k x : Nat} {F : Nat → Nat} {u z : px_Z} (h : pt_PD nt N' k F u z) (hN : N ≤ N') (hN2 : N' < 1000000) (hx1 : 1 ≤ x) (hx : x ≤ 9) : ∃ v, f_Plan_repeat u (N : Int) (x : Int) = some v ∧ pt_PD nt (N + (N' - N) * x) k (pt_RF N (N' - N) F) v z ∧ (∀ c j, ¬ (c = 138 ∧ j = 0) → ¬ (139 ≤ c ∧ c ≤ 141) → v c j = u c j) := by
  obtain ⟨h1, h2, h3⟩ := h
  have hbig : px_big = 1000000 := rfl
  have hm : (N' - N) * x ≤ (N' - N) * 9 := Nat.mul_le_mul_left _ hx
  have hm1 : (N' - N) * 1 ≤ (N' - N) * x := Nat.mul_le_mul_left _ hx1
  have w1 : px_wr ((N' : Int) - (N : Int)) = ((N' - N : Nat) : Int) := by rw [pz_wr_id (by omega) (by omega)]; omega
  have w2 : px_wr (((N' - N : Nat) : Int) * (x : Int)) = (((N' - N) * x : Nat) : Int) := by rw [← Int.natCast_mul, pz_wr_id (by omega) (by omega)]
  have w3 : px_wr ((N : Int) + (((N' - N) * x : Nat) : Int)) = ((N + (N' - N) * x : Nat) : Int) := by rw [pz_wr_id (by clear w1 w2; omega) (by clear w1 w2; omega)]; clear w1 w2; omega
  unfold f_Plan_repeat
  rw [h1, w1, w2, w3]
  clear w1 w2 w3
  rcases Nat.eq_zero_or_pos (N' - N) with h0 | h0
  · refine ⟨px_up u 138 0 ((N + (N' - N) * x : Nat) : Int), ?_, ⟨pt_upi, fun i hi => ?_, fun i hi hi6 => ?_⟩, fun c j g1 g2 => pt_upn g1⟩
    · show l_Plan_repeat_14 (999999 + 1) u ((N' - N : Nat) : Int) ((N + (N' - N) * x : Nat) : Int) (N' : Int) = _
      rw [l_Plan_repeat_14, if_pos (show ((N' - N : Nat) : Int) ≤ 0 by omega)]
    · rw [h0, Nat.zero_mul] at hi
      unfold pt_RF
      rw [if_pos (by omega)]
      exact h2 i (by omega)
    · rw [h0, Nat.zero_mul] at hi
      unfold pt_RF
      rw [if_pos (by omega), pt_upn (by omega), pt_upn (by omega), pt_upn (by omega)]
      exact h3 i (by omega) hi6
  · obtain ⟨v, a1, a2, a3, a4, a5⟩ := pt_repL (len := N' - N) (total := N + (N' - N) * x) h0 (60 - N') px_big N' u rfl (by omega) (by omega) (by omega)
    refine ⟨v, a1, ⟨a2, fun i hi => ?_, ?_⟩, a5⟩
    · unfold pt_RF
      by_cases e : i < N
      · rw [if_pos e]; exact h2 i (by omega)
      · rw [if_neg e]
        have := Nat.mod_lt (i - N) h0
        exact h2 _ (by omega)
    · intro i
      induction i using Nat.strongRecOn with
      | ind i ih =>
        intro hi hi6
        by_cases e : i < N'
        · have e1 : pt_RF N (N' - N) F i = F i := by
            unfold pt_RF
            by_cases e2 : i < N
            · rw [if_pos e2]
            · rw [if_neg e2, Nat.mod_eq_of_lt (by omega), show N + (i - N) = i by omega]
          rw [e1, a3 139 i (by omega) (by omega) e, a3 140 i (by omega) (by omega) e, a3 141 i (by omega) (by omega) e]
          exact h3 i e hi6
        · have e1 : pt_RF N (N' - N) F i = pt_RF N (N' - N) F (i - (N' - N)) := by
            unfold pt_RF
            rw [if_neg (by omega), if_neg (by omega), Nat.mod_eq_sub_mod (show N' - N ≤ i - N by omega), show i - N - (N' - N) = i - (N' - N) - N by omega]
          rw [e1, a4 139 i (by omega) (by omega) (by omega) hi hi6, a4 140 i (by omega) (by omega) (by omega) hi hi6, a4 141 i (by omega) (by omega) (by omega) hi hi6]
          exact ih (i - (N' - N)) (by omega) (by omega) (by omega)
/-! the reference's steps, one by one -/
def pt_steps (fm : Nat) (z : px_Z) : Option (Int × px_Z) := l_M_readSteps_3 (fun s => j_M_readSteps_j39 s) fm z
theorem pt_isD1 {z : px_Z} {b : Nat → Int} {L i : Nat} (hB : pt_B z b L i) (h : 280 ≤ pt_ck b L i ∧ pt_ck b L i ≤ 282) : f_M_isDeed z = 1 := by
  unfold f_M_isDeed
  by_cases e1 : pt_ck b L i = 280
  · rw [pt_isW1 hB (j := 24) (by decide) (k := 280) (m := 24) rfl rfl e1, if_neg pt_1n0]
  · rw [pt_isW0 hB (j := 24) (by decide) (k := 280) (m := 24) rfl rfl e1, if_pos rfl]
    by_cases e2 : pt_ck b L i = 281
    · rw [pt_isW1 hB (j := 25) (by decide) (k := 281) (m := 25) rfl rfl e2, if_neg pt_1n0]
    · rw [pt_isW0 hB (j := 25) (by decide) (k := 281) (m := 25) rfl rfl e2, if_pos rfl, pt_isW1 hB (j := 26) (by decide) (k := 282) (m := 26) rfl rfl (by omega), if_neg pt_1n0]
theorem pt_isD0 {z : px_Z} {b : Nat → Int} {L i : Nat} (hB : pt_B z b L i) (h : ¬ (280 ≤ pt_ck b L i ∧ pt_ck b L i ≤ 282)) : f_M_isDeed z = 0 := by
  unfold f_M_isDeed
  rw [pt_isW0 hB (j := 24) (by decide) (k := 280) (m := 24) rfl rfl (by omega), if_pos rfl, pt_isW0 hB (j := 25) (by decide) (k := 281) (m := 25) rfl rfl (by omega), if_pos rfl, pt_isW0 hB (j := 26) (by decide) (k := 282) (m := 26) rfl rfl (by omega), if_pos rfl]
theorem pt_sD {z : px_Z} {n : Nat} (h : f_M_isDeed z = 1) : pt_steps (n + 1) z = (f_M_readDeed z).bind (fun q8 => if (q8.1) = ((-1)) then some (((-1), q8.2)) else pt_steps n q8.2) := by
  unfold pt_steps
  rw [l_M_readSteps_3, h, if_neg pt_1n0, if_neg pt_1n0]
theorem pt_sA {z : px_Z} {n : Nat} (h : f_M_isDeed z = 0) (h7 : f_M_isWord z 27 = 1) : pt_steps (n + 1) z = (f_M_readAgain z).bind (fun q15 => if (q15.1) = ((-1)) then some (((-1), q15.2)) else pt_steps n q15.2) := by
  unfold pt_steps
  rw [l_M_readSteps_3, h, if_pos rfl, h7, if_neg pt_1n0, if_pos rfl, if_neg pt_1n0]
theorem pt_sE {z : px_Z} {n : Nat} (h : f_M_isDeed z = 0) (h7 : f_M_isWord z 27 = 0) (h28 : ¬ z 150 28 ≤ 0) (h41 : f_M_isSign z 41 = 1) : pt_steps (n + 1) z = (f_M_readAgainEnd z).bind (fun q23 => if (q23.1) = ((-1)) then some (((-1), q23.2)) else pt_steps n q23.2) := by
  unfold pt_steps
  rw [l_M_readSteps_3, h, if_pos rfl, h7, if_pos rfl, if_neg h28, h41, if_neg pt_1n0, if_pos rfl, if_pos rfl]
theorem pt_sX {z : px_Z} {n : Nat} (h : f_M_isDeed z = 0) (h7 : f_M_isWord z 27 = 0) (hx : z 150 28 ≤ 0 ∨ f_M_isSign z 41 = 0) : pt_steps (n + 1) z = j_M_readSteps_j39 z := by
  unfold pt_steps
  rw [l_M_readSteps_3, h, if_pos rfl, h7, if_pos rfl]
  by_cases e : z 150 28 ≤ 0
  · rw [if_pos e]
  · rw [if_neg e, hx.resolve_left e, if_pos rfl]
/-- the bound of a level's cost -/
def pt_W (o : Nat) : Nat := 9 ^ (4 - o)
theorem pt_Wp (o : Nat) : 1 ≤ pt_W o := Nat.pow_pos (by decide)
theorem pt_Wl (o : Nat) : pt_W o ≤ 6561 := Nat.pow_le_pow_right (by decide) (show 4 - o ≤ 4 by omega)
theorem pt_Ws {o : Nat} (h : o < 4) : pt_W o = 9 * pt_W (o + 1) := by
  unfold pt_W
  rw [show 4 - o = (4 - (o + 1)) + 1 by omega, Nat.pow_succ, Nat.mul_comm]
