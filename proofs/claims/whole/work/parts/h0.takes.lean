/-! TEXT: the reference takes what it has read -/
theorem pt_w5 {m : Nat} (h : m ≤ 24) : px_wr (5 * (m : Int)) = ((5 * m : Nat) : Int) := by rw [pz_wr_id (by omega) (by omega)]; omega
theorem pt_w3 {m : Nat} (h : m ≤ 60) : px_wr (3 * (m : Int)) = ((3 * m : Nat) : Int) := by rw [pz_wr_id (by omega) (by omega)]; omega
theorem pt_w120i {i : Nat} (h : i < 120) : px_wr (120 + (i : Int)) = ((120 + i : Nat) : Int) := by rw [pz_wr_id (by omega) (by omega)]; omega
theorem pt_w180i {i : Nat} (h : i < 180) : px_wr (180 + (i : Int)) = ((180 + i : Nat) : Int) := by rw [pz_wr_id (by omega) (by omega)]; omega
theorem pt_to5 {K : px_Z → Int → Int → Option px_Z} {m : Nat} (hm : m ≤ 24) (x1 : Int) : ∀ (r fu i : Nat) (s : px_Z), i + r = 5 * m → r < fu → ∃ v, l_M_takesOther_5 K fu s x1 (m : Int) (i : Int) = K v x1 (m : Int) ∧ (∀ j, i ≤ j → j < 5 * m → v 166 j = s 166 (120 + j)) ∧ (∀ c j, ¬ (c = 166 ∧ i ≤ j ∧ j < 5 * m) → v c j = s c j) := by
  intro r
  induction r with
  | zero =>
    intro fu i s hi hf
    obtain ⟨fu, rfl⟩ : ∃ q, fu = q + 1 := ⟨fu - 1, by omega⟩
    rw [l_M_takesOther_5, pt_w5 hm, if_pos (show ((5 * m : Nat) : Int) ≤ (i : Int) by omega)]
    exact ⟨s, rfl, fun j h1 h2 => by omega, fun _ _ _ => rfl⟩
  | succ r ih =>
    intro fu i s hi hf
    obtain ⟨fu, rfl⟩ : ∃ q, fu = q + 1 := ⟨fu - 1, by omega⟩
    have g1 : 0 ≤ ((120 + i : Nat) : Int) ∧ ((120 + i : Nat) : Int) < 240 := ⟨Int.natCast_nonneg _, by omega⟩
    have g2 : 0 ≤ (i : Int) ∧ (i : Int) < 240 := ⟨Int.natCast_nonneg _, by omega⟩
    rw [l_M_takesOther_5, pt_w5 hm, if_neg (show ¬ ((5 * m : Nat) : Int) ≤ (i : Int) by omega), pt_w120i (by omega), if_pos g1, if_pos g2, Int.toNat_natCast, Int.toNat_natCast, pz_wr_suc (by omega)]
    obtain ⟨v, a1, a2, a3⟩ := ih fu (i + 1) (px_up s 166 i (s 166 (120 + i))) (by omega) (by omega)
    refine ⟨v, a1, fun j h1 h2 => ?_, fun c j h => ?_⟩
    · by_cases e : j = i
      · subst e; rw [a3 166 j (by omega), pt_upi]
      · rw [a2 j (by omega) h2, pt_upn (by omega)]
    · rw [a3 c j (by omega), pt_upn (by omega)]
theorem pt_to30 {K : px_Z → Int → Int → Option px_Z} (x1 x2 : Int) : ∀ (r fu i : Nat) (s : px_Z), i + r = 8 → r < fu → ∃ v, l_M_takesOther_30 K fu s x1 x2 (i : Int) = K v x1 x2 ∧ (∀ j, i ≤ j → j < 8 → v 167 j = s 167 (8 + j)) ∧ (∀ c j, ¬ (c = 167 ∧ i ≤ j ∧ j < 8) → v c j = s c j) := by
  intro r
  induction r with
  | zero =>
    intro fu i s hi hf
    obtain ⟨fu, rfl⟩ : ∃ q, fu = q + 1 := ⟨fu - 1, by omega⟩
    rw [l_M_takesOther_30, if_pos (show (8 : Int) ≤ (i : Int) by omega)]
    exact ⟨s, rfl, fun j h1 h2 => by omega, fun _ _ _ => rfl⟩
  | succ r ih =>
    intro fu i s hi hf
    obtain ⟨fu, rfl⟩ : ∃ q, fu = q + 1 := ⟨fu - 1, by omega⟩
    have g1 : 0 ≤ ((8 + i : Nat) : Int) ∧ ((8 + i : Nat) : Int) < 16 := ⟨Int.natCast_nonneg _, by omega⟩
    have g2 : 0 ≤ (i : Int) ∧ (i : Int) < 16 := ⟨Int.natCast_nonneg _, by omega⟩
    rw [l_M_takesOther_30, if_neg (show ¬ (8 : Int) ≤ (i : Int) by omega), pz_w8 (by omega), if_pos g1, if_pos g2, Int.toNat_natCast, Int.toNat_natCast, pz_wr_suc (by omega)]
    obtain ⟨v, a1, a2, a3⟩ := ih fu (i + 1) (px_up s 167 i (s 167 (8 + i))) (by omega) (by omega)
    refine ⟨v, a1, fun j h1 h2 => ?_, fun c j h => ?_⟩
    · by_cases e : j = i
      · subst e; rw [a3 167 j (by omega), pt_upi]
      · rw [a2 j (by omega) h2, pt_upn (by omega)]
    · rw [a3 c j (by omega), pt_upn (by omega)]
theorem pt_to53 {K : px_Z → Int → Option px_Z} {m : Nat} (hm : m ≤ 60) : ∀ (r fu i : Nat) (s : px_Z), i + r = 3 * m → r < fu → ∃ v, l_M_takesOther_53 K fu s (m : Int) (i : Int) = K v (m : Int) ∧ (∀ j, i ≤ j → j < 3 * m → v 171 j = s 171 (180 + j)) ∧ (∀ c j, ¬ (c = 171 ∧ i ≤ j ∧ j < 3 * m) → v c j = s c j) := by
  intro r
  induction r with
  | zero =>
    intro fu i s hi hf
    obtain ⟨fu, rfl⟩ : ∃ q, fu = q + 1 := ⟨fu - 1, by omega⟩
    rw [l_M_takesOther_53, pt_w3 hm, if_pos (show ((3 * m : Nat) : Int) ≤ (i : Int) by omega)]
    exact ⟨s, rfl, fun j h1 h2 => by omega, fun _ _ _ => rfl⟩
  | succ r ih =>
    intro fu i s hi hf
    obtain ⟨fu, rfl⟩ : ∃ q, fu = q + 1 := ⟨fu - 1, by omega⟩
    have g1 : 0 ≤ ((180 + i : Nat) : Int) ∧ ((180 + i : Nat) : Int) < 360 := ⟨Int.natCast_nonneg _, by omega⟩
    have g2 : 0 ≤ (i : Int) ∧ (i : Int) < 360 := ⟨Int.natCast_nonneg _, by omega⟩
    rw [l_M_takesOther_53, pt_w3 hm, if_neg (show ¬ ((3 * m : Nat) : Int) ≤ (i : Int) by omega), pt_w180i (by omega), if_pos g1, if_pos g2, Int.toNat_natCast, Int.toNat_natCast, pz_wr_suc (by omega)]
    obtain ⟨v, a1, a2, a3⟩ := ih fu (i + 1) (px_up s 171 i (s 171 (180 + i))) (by omega) (by omega)
    refine ⟨v, a1, fun j h1 h2 => ?_, fun c j h => ?_⟩
    · by_cases e : j = i
      · subst e; rw [a3 171 j (by omega), pt_upi]
      · rw [a2 j (by omega) h2, pt_upn (by omega)]
    · rw [a3 c j (by omega), pt_upn (by omega)]
theorem pt_w16k {k i : Nat} (hk : k ≤ 1) (hi : i < 16) : px_wr (px_wr (16 * (k : Int)) + (i : Int)) = ((16 * k + i : Nat) : Int) := pz_w16 hk hi
theorem pt_w400k {k i : Nat} (hk : k ≤ 1) (hi : i < 400) : px_wr (px_wr (400 * (k : Int)) + (i : Int)) = ((400 * k + i : Nat) : Int) := by
  rw [pz_wr_id (x := 400 * (k : Int)) (by omega) (by omega), pz_wr_id (by omega) (by omega)]; omega
set_option maxHeartbeats 2000000 in
theorem pt_tl2 {K : px_Z → Int → Option px_Z} {m k : Nat} (hm : m ≤ 16) (hk : k ≤ 1) : ∀ (r fu i : Nat) (s : px_Z), i + r = m → r < fu → s 150 26 = (k : Int) → ∃ v, l_M_takesLaw_2 K fu s (m : Int) (i : Int) = K v (m : Int) ∧ (∀ c j, 159 ≤ c → c ≤ 162 → i ≤ j → j < m → v c (16 * k + j) = s c (32 + j)) ∧ (∀ c j, ¬ (159 ≤ c ∧ c ≤ 162 ∧ 16 * k + i ≤ j ∧ j < 16 * k + m) → v c j = s c j) := by
  intro r
  induction r with
  | zero =>
    intro fu i s hi hf h26
    obtain ⟨fu, rfl⟩ : ∃ q, fu = q + 1 := ⟨fu - 1, by omega⟩
    rw [l_M_takesLaw_2, if_pos (show (m : Int) ≤ (i : Int) by omega)]
    exact ⟨s, rfl, fun c j h1 h2 h3 h4 => by omega, fun _ _ _ => rfl⟩
  | succ r ih =>
    intro fu i s hi hf h26
    obtain ⟨fu, rfl⟩ : ∃ q, fu = q + 1 := ⟨fu - 1, by omega⟩
    have g1 : 0 ≤ ((32 + i : Nat) : Int) ∧ ((32 + i : Nat) : Int) < 48 := ⟨Int.natCast_nonneg _, by omega⟩
    have g2 : 0 ≤ ((16 * k + i : Nat) : Int) ∧ ((16 * k + i : Nat) : Int) < 48 := ⟨Int.natCast_nonneg _, by omega⟩
    have e : l_M_takesLaw_2 K (fu + 1) s (m : Int) (i : Int) = l_M_takesLaw_2 K fu (px_up (px_up (px_up (px_up s 159 (16 * k + i) (s 159 (32 + i))) 160 (16 * k + i) (s 160 (32 + i))) 161 (16 * k + i) (s 161 (32 + i))) 162 (16 * k + i) (s 162 (32 + i))) (m : Int) ((i + 1 : Nat) : Int) := by
      rw [l_M_takesLaw_2, if_neg (show ¬ (m : Int) ≤ (i : Int) by omega)]
      simp only [pt_upc, ne_eq, Nat.reduceEqDiff, not_false_eq_true, h26, pt_w32 (show i < 16 by omega), pt_w16k hk (show i < 16 by omega), Int.toNat_natCast, if_pos g1, if_pos g2, pz_wr_suc (show i < 2147483647 by omega)]
    obtain ⟨s1, hs1⟩ : ∃ s1 : px_Z, px_up (px_up (px_up (px_up s 159 (16 * k + i) (s 159 (32 + i))) 160 (16 * k + i) (s 160 (32 + i))) 161 (16 * k + i) (s 161 (32 + i))) 162 (16 * k + i) (s 162 (32 + i)) = s1 := ⟨_, rfl⟩
    rw [e, hs1]
    have q1 : ∀ c, 159 ≤ c → c ≤ 162 → s1 c (16 * k + i) = s c (32 + i) := by
      intro c h1 h2
      have hc : c = 159 ∨ c = 160 ∨ c = 161 ∨ c = 162 := by omega
      rw [← hs1]
      rcases hc with e | e | e | e
      · subst e; rw [pt_upn (by omega), pt_upn (by omega), pt_upn (by omega), pt_upi]
      · subst e; rw [pt_upn (by omega), pt_upn (by omega), pt_upi]
      · subst e; rw [pt_upn (by omega), pt_upi]
      · subst e; rw [pt_upi]
    have q2 : ∀ c j, ¬ (159 ≤ c ∧ c ≤ 162 ∧ j = 16 * k + i) → s1 c j = s c j := by
      intro c j h
      rw [← hs1, pt_upn (by omega), pt_upn (by omega), pt_upn (by omega), pt_upn (by omega)]
    obtain ⟨v, a1, a2, a3⟩ := ih fu (i + 1) s1 (by omega) (by omega) ((q2 150 26 (by omega)).trans h26)
    refine ⟨v, a1, fun c j h1 h2 h3 h4 => ?_, fun c j h => ?_⟩
    · by_cases e : j = i
      · subst e; rw [a3 c _ (by omega), q1 c h1 h2]
      · rw [a2 c j h1 h2 (by omega) h4, q2 c _ (by omega)]
    · rw [a3 c j (by omega), q2 c j (by omega)]
set_option maxHeartbeats 2000000 in
theorem pt_tl69 {K : px_Z → Int → Option px_Z} {m k : Nat} (hm : m ≤ 400) (hk : k ≤ 1) (x1 : Int) : ∀ (r fu i : Nat) (s : px_Z), i + r = m → r < fu → s 150 26 = (k : Int) → s 150 27 = (m : Int) → ∃ v, l_M_takesLaw_69 K fu s x1 (i : Int) = K v x1 ∧ (∀ c j, 163 ≤ c → c ≤ 164 → i ≤ j → j < m → v c (400 * k + j) = s c (800 + j)) ∧ (∀ c j, ¬ (163 ≤ c ∧ c ≤ 164 ∧ 400 * k + i ≤ j ∧ j < 400 * k + m) → v c j = s c j) := by
  intro r
  induction r with
  | zero =>
    intro fu i s hi hf h26 h27
    obtain ⟨fu, rfl⟩ : ∃ q, fu = q + 1 := ⟨fu - 1, by omega⟩
    rw [l_M_takesLaw_69, h27, if_pos (show (m : Int) ≤ (i : Int) by omega)]
    exact ⟨s, rfl, fun c j h1 h2 h3 h4 => by omega, fun _ _ _ => rfl⟩
  | succ r ih =>
    intro fu i s hi hf h26 h27
    obtain ⟨fu, rfl⟩ : ∃ q, fu = q + 1 := ⟨fu - 1, by omega⟩
    have g1 : 0 ≤ ((800 + i : Nat) : Int) ∧ ((800 + i : Nat) : Int) < 1200 := ⟨Int.natCast_nonneg _, by omega⟩
    have g2 : 0 ≤ ((400 * k + i : Nat) : Int) ∧ ((400 * k + i : Nat) : Int) < 1200 := ⟨Int.natCast_nonneg _, by omega⟩
    have e : l_M_takesLaw_69 K (fu + 1) s x1 (i : Int) = l_M_takesLaw_69 K fu (px_up (px_up s 163 (400 * k + i) (s 163 (800 + i))) 164 (400 * k + i) (s 164 (800 + i))) x1 ((i + 1 : Nat) : Int) := by
      rw [l_M_takesLaw_69, h27, if_neg (show ¬ (m : Int) ≤ (i : Int) by omega)]
      simp only [pt_upc, ne_eq, Nat.reduceEqDiff, not_false_eq_true, h26, pt_w800 (show i < 400 by omega), pt_w400k hk (show i < 400 by omega), Int.toNat_natCast, if_pos g1, if_pos g2, pz_wr_suc (show i < 2147483647 by omega)]
    obtain ⟨s1, hs1⟩ : ∃ s1 : px_Z, px_up (px_up s 163 (400 * k + i) (s 163 (800 + i))) 164 (400 * k + i) (s 164 (800 + i)) = s1 := ⟨_, rfl⟩
    rw [e, hs1]
    have q1 : ∀ c, 163 ≤ c → c ≤ 164 → s1 c (400 * k + i) = s c (800 + i) := by
      intro c h1 h2
      have hc : c = 163 ∨ c = 164 := by omega
      rw [← hs1]
      rcases hc with e | e
      · subst e; rw [pt_upn (by omega), pt_upi]
      · subst e; rw [pt_upi]
    have q2 : ∀ c j, ¬ (163 ≤ c ∧ c ≤ 164 ∧ j = 400 * k + i) → s1 c j = s c j := by
      intro c j h
      rw [← hs1, pt_upn (by omega), pt_upn (by omega)]
    obtain ⟨v, a1, a2, a3⟩ := ih fu (i + 1) s1 (by omega) (by omega) ((q2 150 26 (by omega)).trans h26) ((q2 150 27 (by omega)).trans h27)
    refine ⟨v, a1, fun c j h1 h2 h3 h4 => ?_, fun c j h => ?_⟩
    · by_cases e : j = i
      · subst e; rw [a3 c _ (by omega), q1 c h1 h2]
      · rw [a2 c j h1 h2 (by omega) h4, q2 c _ (by omega)]
    · rw [a3 c j (by omega), q2 c j (by omega)]
/-- a LAW is taken -/
theorem pt_tlaw {s : px_Z} {k n m : Nat} (hk : k ≤ 1) (hn : n ≤ 16) (hm : m ≤ 400) (h26 : s 150 26 = (k : Int)) (h27 : s 150 27 = (m : Int)) : ∃ v, f_M_takesLaw s (n : Int) = some v ∧ v 158 k = (n : Int) ∧ (∀ c j, 159 ≤ c → c ≤ 162 → j < n → v c (16 * k + j) = s c (32 + j)) ∧ (∀ c j, 163 ≤ c → c ≤ 164 → j < m → v c (400 * k + j) = s c (800 + j)) ∧ (∀ c j, ¬ (c = 158 ∧ j = k) → ¬ (159 ≤ c ∧ c ≤ 162 ∧ 16 * k ≤ j ∧ j < 16 * k + n) → ¬ (163 ≤ c ∧ c ≤ 164 ∧ 400 * k ≤ j ∧ j < 400 * k + m) → v c j = s c j) := by
  have hbig : px_big = 1000000 := rfl
  obtain ⟨v1, a1, a2, a3⟩ := pt_tl2 (K := fun s x1 => l_M_takesLaw_69 (fun s x1 => if 0 ≤ (s 150 26) ∧ (s 150 26) < 2 then some (px_up s 158 (s 150 26).toNat x1) else none) px_big s x1 0) (m := n) (k := k) hn hk n px_big 0 s (by omega) (by omega) h26
  obtain ⟨v2, b1, b2, b3⟩ := pt_tl69 (K := fun s x1 => if 0 ≤ (s 150 26) ∧ (s 150 26) < 2 then some (px_up s 158 (s 150 26).toNat x1) else none) (m := m) (k := k) hm hk (n : Int) m px_big 0 v1 (by omega) (by omega) ((a3 150 26 (by omega)).trans h26) ((a3 150 27 (by omega)).trans h27)
  have e26 : v2 150 26 = (k : Int) := (b3 150 26 (by omega)).trans ((a3 150 26 (by omega)).trans h26)
  have g : 0 ≤ (k : Int) ∧ (k : Int) < 2 := by omega
  refine ⟨px_up v2 158 k (n : Int), ?_, pt_upi, fun c j h1 h2 h3 => ?_, fun c j h1 h2 h3 => ?_, fun c j h1 h2 h3 => ?_⟩
  · unfold f_M_takesLaw
    refine a1.trans (b1.trans ?_)
    rw [e26, if_pos g, Int.toNat_natCast]
  · rw [pt_upn (by omega), b3 c _ (by omega)]; exact a2 c j h1 h2 (Nat.zero_le _) h3
  · rw [pt_upn (by omega), b2 c j h1 h2 (Nat.zero_le _) h3, a3 c _ (by omega)]
  · rw [pt_upn (by omega), b3 c j (by omega), a3 c j (by omega)]
