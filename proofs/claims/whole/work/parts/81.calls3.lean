/-! LETTERS, SIGHTS, ERRANDS as they are told -/
set_option maxRecDepth 100000 in
theorem pz_k5 : pz_ra 9 (fun n => decide (px_shl 1 (n : Int) = ((2 ^ n : Nat) : Int))) = true := by decide +kernel
theorem pz_shl1 {n : Nat} (h : n ≤ 8) : px_shl 1 (n : Int) = ((2 ^ n : Nat) : Int) := by
  have := pz_ra_at pz_k5 (show n < 9 by omega)
  simpa only [decide_eq_true_eq] using this
theorem po_letter {s : px_Z} (h : pz_I s) (v : Int) : pz_op (f_R_letter s v) (fun u => f_M_letter u v) := by
  have h' := h
  obtain ⟨n, ⟨hn, w1, wF, w3, w4, w5, w6, ⟨w7a, w7b, w7c⟩, w8⟩, hU, hM, hT, hX, hC⟩ := h
  have b1' : s 6 1 = (n : Int) := w1.1
  have b2' : s 150 6 = (n : Int) := w1.2.1
  have hall := pz_all hn
  have hpw := pz_pow_le hn
  obtain ⟨l1, l2, l3, l4⟩ := w7a
  have l1' : s 38 0 = s 150 51 := l1
  obtain ⟨L, hL⟩ : ∃ L : Nat, s 150 51 = (L : Int) := ⟨(s 150 51).toNat, by omega⟩
  have hno : f_R_letter s v = some (-1, s) → f_M_letter s v = some (-1, px_up s 150 0 0) → pz_op (f_R_letter s v) (fun u => f_M_letter u v) := fun e1 e2 => ⟨-1, s, px_up s 150 0 0, e1, e2, pz_I_told h'⟩
  have hR0 : f_R_letter s v = if 0 ≤ v ∧ v ≤ ((2 ^ n - 1 : Nat) : Int) then (f_Told_addLetter s v).bind (fun q2 => some (q2.1, q2.2)) else some (-1, s) := by
    unfold f_R_letter f_World_all
    rw [b1', hall.1, pz_within, pz_i1]
  have hM0 : ∀ u : px_Z, u 150 6 = (n : Int) → u 150 51 = (L : Int) → f_M_letter u v = if v < 0 then some (-1, px_up u 150 0 0) else (if ((2 ^ n : Nat) : Int) ≤ v then some (-1, px_up u 150 0 0) else (if (L : Int) = 8 then some (-1, px_up u 150 0 0) else (if 0 ≤ (L : Int) ∧ (L : Int) < 8 then some (px_wr (px_wr ((L : Int) + 1) - 1), px_up (px_up (px_up u 150 0 0) 178 L v) 150 51 (px_wr ((L : Int) + 1))) else none))) := by
    intro u h1 h2
    unfold f_M_letter
    simp (disch := decide) only [pz_up_c, pz_up_i, pz_up_s, h1, h2, pz_shl1 hn, Int.toNat_natCast]
  by_cases hv : 0 ≤ v ∧ v ≤ ((2 ^ n - 1 : Nat) : Int)
  · by_cases hL8 : L = 8
    · refine hno ?_ ?_
      · rw [hR0, if_pos hv]
        unfold f_Told_addLetter
        rw [l1', hL, if_neg (by omega)]; rfl
      · rw [hM0 _ b2' hL, if_neg (by omega), if_neg (by omega), if_pos (by omega)]
    · refine ⟨(L : Int), px_up (px_up s 39 L v) 38 0 ((L + 1 : Nat) : Int), px_up (px_up (px_up (px_up (px_up s 39 L v) 38 0 ((L + 1 : Nat) : Int)) 150 0 0) 178 L v) 150 51 ((L + 1 : Nat) : Int), ?_, ?_, ?_⟩
      · rw [hR0, if_pos hv]
        unfold f_Told_addLetter
        rw [l1', hL, if_pos (by omega), if_pos (by omega), Int.toNat_natCast, show (px_up s 39 L v) 38 0 = s 38 0 from rfl, l1', hL, pz_wr_suc (by omega)]
        show some (px_wr (((L + 1 : Nat) : Int) - 1), _) = _
        rw [pz_wr_pred (by omega), show ((L + 1 : Nat) : Int) - 1 = (L : Int) by omega]
      · show f_M_letter _ v = _
        rw [hM0 _ (by exact b2') (by exact hL), if_neg (by omega), if_neg (by omega), if_neg (by omega), if_pos (by omega), pz_wr_suc (by omega), pz_wr_pred (by omega), show ((L + 1 : Nat) : Int) - 1 = (L : Int) by omega]
      · refine ⟨n, ⟨hn, w1, wF, w3, w4, w5, w6, ⟨⟨rfl, ?_, ?_, fun i hi => ?_⟩, w7b, w7c⟩, w8⟩, pz_U_ek hU ?_, pz_M_ek hM ?_, pz_T_ek hT ?_, pz_X_ek hX ?_, pz_C_ek hC ?_⟩
        · show 0 ≤ ((L + 1 : Nat) : Int); omega
        · show ((L + 1 : Nat) : Int) ≤ 8; omega
        · have hi' : (i : Int) < ((L + 1 : Nat) : Int) := hi
          show px_up s 39 L v 39 i = px_up s 178 L v 178 i ∧ 0 ≤ px_up s 178 L v 178 i ∧ px_up s 178 L v 178 i < 256
          rw [pz_up_same, pz_up_same]
          by_cases hiL : i = L
          · rw [if_pos hiL, if_pos hiL]; exact ⟨rfl, hv.1, by omega⟩
          · rw [if_neg hiL, if_neg hiL]; exact l4 i (by omega)
        all_goals repeat (first | exact pz_ek_rf | refine pz_ek_up rfl ?_)
  · refine hno ?_ ?_
    · rw [hR0, if_neg hv]
    · rw [hM0 _ b2' hL]
      by_cases h0 : v < 0
      · rw [if_pos h0]
      · rw [if_neg h0, if_pos (by omega)]
theorem po_sight {s : px_Z} (h : pz_I s) (a b c : Int) : pz_op (f_R_sight s a b c) (fun u => f_M_sight u a b c) := by
  have h' := h
  obtain ⟨n, ⟨hn, w1, wF, w3, w4, w5, w6, ⟨w7a, w7b, w7c⟩, w8⟩, hU, hM, hT, hX, hC⟩ := h
  have b1' : s 6 1 = (n : Int) := w1.1
  have b2' : s 150 6 = (n : Int) := w1.2.1
  obtain ⟨l1, l2, l3, l4⟩ := w7b
  have l1' : s 38 1 = s 150 53 := l1
  obtain ⟨L, hL⟩ : ∃ L : Nat, s 150 53 = (L : Int) := ⟨(s 150 53).toNat, by omega⟩
  have hno : f_R_sight s a b c = some (-1, s) → f_M_sight s a b c = some (-1, px_up s 150 0 0) → pz_op (f_R_sight s a b c) (fun u => f_M_sight u a b c) := fun e1 e2 => ⟨-1, s, px_up s 150 0 0, e1, e2, pz_I_told h'⟩
  by_cases ha : a = -1
  · subst ha
    refine ⟨0, px_up s 38 1 0, px_up (px_up (px_up s 38 1 0) 150 0 0) 150 53 0, rfl, rfl, ?_⟩
    refine ⟨n, ⟨hn, w1, wF, w3, w4, w5, w6, ⟨w7a, ⟨rfl, Int.le_refl 0, (show (0 : Int) ≤ 12 by decide), fun i hi => ?_⟩, w7c⟩, w8⟩, pz_U_ek hU ?_, pz_M_ek hM ?_, pz_T_ek hT ?_, pz_X_ek hX ?_, pz_C_ek hC ?_⟩
    · have hi' : (i : Int) < 0 := hi
      omega
    all_goals repeat (first | exact pz_ek_rf | refine pz_ek_up rfl ?_)
  · have hR0 : f_R_sight s a b c = if 0 ≤ a ∧ a ≤ (n : Int) - 1 then (if 0 ≤ b ∧ b ≤ 60 then (if 0 ≤ c ∧ c ≤ 99 then (f_Told_addSight s a b c).bind (fun q5 => some (q5.1, q5.2)) else some (-1, s)) else some (-1, s)) else some (-1, s) := by
      unfold f_R_sight
      rw [if_neg ha, b1', pz_wr_pred (by omega), pz_within, pz_within, pz_within, pz_i1, pz_i1, pz_i1]
    have hM0 : ∀ u : px_Z, u 150 6 = (n : Int) → u 150 53 = (L : Int) → f_M_sight u a b c = if 0 ≤ a ∧ a ≤ (n : Int) - 1 then (if 0 ≤ b ∧ b ≤ 60 then (if 0 ≤ c ∧ c ≤ 99 then (if (L : Int) = 12 then some (-1, px_up u 150 0 0) else (if 0 ≤ (L : Int) ∧ (L : Int) < 12 then some (px_wr ((L : Int) + 1), px_up (px_up (px_up (px_up (px_up u 150 0 0) 179 L a) 180 L b) 181 L c) 150 53 (px_wr ((L : Int) + 1))) else none)) else some (-1, px_up u 150 0 0)) else some (-1, px_up u 150 0 0)) else some (-1, px_up u 150 0 0) := by
      intro u h1 h2
      unfold f_M_sight
      rw [if_neg ha, pz_isThing (s := px_up u 150 0 0) h1, pz_isIn, pz_isIn, pz_i1, pz_i1, pz_i1]
      simp (disch := decide) only [pz_up_c, pz_up_i, pz_up_s, h2, Int.toNat_natCast]
      by_cases hq : 0 ≤ (L : Int) ∧ (L : Int) < 12
      · simp only [if_pos hq]
      · simp only [if_neg hq]
    by_cases c1 : 0 ≤ a ∧ a ≤ (n : Int) - 1
    · by_cases c2 : 0 ≤ b ∧ b ≤ 60
      · by_cases c3 : 0 ≤ c ∧ c ≤ 99
        · have hadd : f_Told_addSight s a b c = if (L : Int) < 12 then (if 0 ≤ (L : Int) ∧ (L : Int) < 12 then some (px_wr ((L : Int) + 1), px_up (px_up (px_up (px_up s 40 L a) 41 L b) 42 L c) 38 1 (px_wr ((L : Int) + 1))) else none) else some (-1, s) := by
            unfold f_Told_addSight
            simp (disch := decide) only [pz_up_c, pz_up_i, pz_up_s, l1', hL, Int.toNat_natCast]
            by_cases hq : 0 ≤ (L : Int) ∧ (L : Int) < 12
            · simp only [if_pos hq]
            · simp only [if_neg hq]
          by_cases hL8 : L = 12
          · refine hno ?_ ?_
            · rw [hR0, if_pos c1, if_pos c2, if_pos c3, hadd, if_neg (by omega)]; rfl
            · rw [hM0 _ b2' hL, if_pos c1, if_pos c2, if_pos c3, if_pos (by omega)]
          · refine ⟨((L + 1 : Nat) : Int), px_up (px_up (px_up (px_up s 40 L a) 41 L b) 42 L c) 38 1 ((L + 1 : Nat) : Int), px_up (px_up (px_up (px_up (px_up (px_up (px_up (px_up (px_up s 40 L a) 41 L b) 42 L c) 38 1 ((L + 1 : Nat) : Int)) 150 0 0) 179 L a) 180 L b) 181 L c) 150 53 ((L + 1 : Nat) : Int), ?_, ?_, ?_⟩
            · rw [hR0, if_pos c1, if_pos c2, if_pos c3, hadd, if_pos (by omega), if_pos (by omega), pz_wr_suc (by omega)]; rfl
            · show f_M_sight _ a b c = _
              rw [hM0 _ (by exact b2') (by exact hL), if_pos c1, if_pos c2, if_pos c3, if_neg (by omega), if_pos (by omega), pz_wr_suc (by omega)]
            · refine ⟨n, ⟨hn, w1, wF, w3, w4, w5, w6, ⟨w7a, ⟨rfl, ?_, ?_, fun i hi => ?_⟩, w7c⟩, w8⟩, pz_U_ek hU ?_, pz_M_ek hM ?_, pz_T_ek hT ?_, pz_X_ek hX ?_, pz_C_ek hC ?_⟩
              · show 0 ≤ ((L + 1 : Nat) : Int); omega
              · show ((L + 1 : Nat) : Int) ≤ 12; omega
              · have hi' : (i : Int) < ((L + 1 : Nat) : Int) := hi
                show px_up s 40 L a 40 i = px_up s 179 L a 179 i ∧ 0 ≤ px_up s 179 L a 179 i ∧ px_up s 179 L a 179 i < 8 ∧ px_up s 41 L b 41 i = px_up s 180 L b 180 i ∧ px_up s 42 L c 42 i = px_up s 181 L c 181 i
                rw [pz_up_same, pz_up_same, pz_up_same, pz_up_same, pz_up_same, pz_up_same]
                by_cases hiL : i = L
                · simp only [if_pos hiL]; exact ⟨trivial, c1.1, by omega, trivial, trivial⟩
                · simp only [if_neg hiL]; exact l4 i (by omega)
              all_goals repeat (first | exact pz_ek_rf | refine pz_ek_up rfl ?_)
        · refine hno ?_ ?_
          · rw [hR0, if_pos c1, if_pos c2, if_neg c3]
          · rw [hM0 _ b2' hL, if_pos c1, if_pos c2, if_neg c3]
      · refine hno ?_ ?_
        · rw [hR0, if_pos c1, if_neg c2]
        · rw [hM0 _ b2' hL, if_pos c1, if_neg c2]
    · refine hno ?_ ?_
      · rw [hR0, if_neg c1]
      · rw [hM0 _ b2' hL, if_neg c1]
theorem po_errand {s : px_Z} (h : pz_I s) (a b : Int) : pz_op (f_R_errand s a b) (fun u => f_M_errand u a b) := by
  have h' := h
  obtain ⟨n, ⟨hn, w1, wF, w3, w4, w5, w6, ⟨w7a, w7b, w7c⟩, w8⟩, hU, hM, hT, hX, hC⟩ := h
  obtain ⟨l1, l2, l3, l4⟩ := w7c
  have l1' : s 38 2 = s 150 57 := l1
  obtain ⟨L, hL⟩ : ∃ L : Nat, s 150 57 = (L : Int) := ⟨(s 150 57).toNat, by omega⟩
  have hno : f_R_errand s a b = some (-1, s) → f_M_errand s a b = some (-1, px_up s 150 0 0) → pz_op (f_R_errand s a b) (fun u => f_M_errand u a b) := fun e1 e2 => ⟨-1, s, px_up s 150 0 0, e1, e2, pz_I_told h'⟩
  by_cases ha : a = -1
  · subst ha
    refine ⟨0, px_up s 38 2 0, px_up (px_up (px_up s 38 2 0) 150 0 0) 150 57 0, rfl, rfl, ?_⟩
    refine ⟨n, ⟨hn, w1, wF, w3, w4, w5, w6, ⟨w7a, w7b, ⟨rfl, Int.le_refl 0, (show (0 : Int) ≤ 12 by decide), fun i hi => ?_⟩⟩, w8⟩, pz_U_ek hU ?_, pz_M_ek hM ?_, pz_T_ek hT ?_, pz_X_ek hX ?_, pz_C_ek hC ?_⟩
    · have hi' : (i : Int) < 0 := hi
      omega
    all_goals repeat (first | exact pz_ek_rf | refine pz_ek_up rfl ?_)
  · have hR0 : f_R_errand s a b = if 0 ≤ a ∧ a ≤ 60 then (if 1 ≤ b ∧ b ≤ 20 then (f_Told_addErrand s a b).bind (fun q5 => some (q5.1, q5.2)) else some (-1, s)) else some (-1, s) := by
      unfold f_R_errand
      rw [if_neg ha, pz_within, pz_within, pz_i1, pz_i1]
    have hM0 : ∀ u : px_Z, u 150 57 = (L : Int) → f_M_errand u a b = if 0 ≤ a ∧ a ≤ 60 then (if 1 ≤ b ∧ b ≤ 20 then (if (L : Int) = 12 then some (-1, px_up u 150 0 0) else (if 0 ≤ (L : Int) ∧ (L : Int) < 12 then some (px_wr ((L : Int) + 1), px_up (px_up (px_up (px_up u 150 0 0) 182 L a) 183 L (px_wr (px_wr (a + b) - 1))) 150 57 (px_wr ((L : Int) + 1))) else none)) else some (-1, px_up u 150 0 0)) else some (-1, px_up u 150 0 0) := by
      intro u h2
      unfold f_M_errand
      rw [if_neg ha, pz_isIn, pz_isIn, pz_i1, pz_i1]
      simp (disch := decide) only [pz_up_c, pz_up_i, pz_up_s, h2, Int.toNat_natCast]
      by_cases hq : 0 ≤ (L : Int) ∧ (L : Int) < 12
      · simp only [if_pos hq]
      · simp only [if_neg hq]
    by_cases c1 : 0 ≤ a ∧ a ≤ 60
    · by_cases c2 : 1 ≤ b ∧ b ≤ 20
      · have hadd : f_Told_addErrand s a b = if (L : Int) < 12 then (if 0 ≤ (L : Int) ∧ (L : Int) < 12 then some (px_wr ((L : Int) + 1), px_up (px_up (px_up s 43 L a) 44 L b) 38 2 (px_wr ((L : Int) + 1))) else none) else some (-1, s) := by
          unfold f_Told_addErrand
          simp (disch := decide) only [pz_up_c, pz_up_i, pz_up_s, l1', hL, Int.toNat_natCast]
          by_cases hq : 0 ≤ (L : Int) ∧ (L : Int) < 12
          · simp only [if_pos hq]
          · simp only [if_neg hq]
        by_cases hL8 : L = 12
        · refine hno ?_ ?_
          · rw [hR0, if_pos c1, if_pos c2, hadd, if_neg (by omega)]; rfl
          · rw [hM0 _ hL, if_pos c1, if_pos c2, if_pos (by omega)]
        · refine ⟨((L + 1 : Nat) : Int), px_up (px_up (px_up s 43 L a) 44 L b) 38 2 ((L + 1 : Nat) : Int), px_up (px_up (px_up (px_up (px_up (px_up (px_up s 43 L a) 44 L b) 38 2 ((L + 1 : Nat) : Int)) 150 0 0) 182 L a) 183 L (a + b - 1)) 150 57 ((L + 1 : Nat) : Int), ?_, ?_, ?_⟩
          · rw [hR0, if_pos c1, if_pos c2, hadd, if_pos (by omega), if_pos (by omega), pz_wr_suc (by omega)]; rfl
          · show f_M_errand _ a b = _
            rw [hM0 _ (by exact hL), if_pos c1, if_pos c2, if_neg (by omega), if_pos (by omega), pz_wr_suc (by omega), pz_wr_id (x := a + b) (by omega) (by omega), pz_wr_id (x := a + b - 1) (by omega) (by omega)]
          · refine ⟨n, ⟨hn, w1, wF, w3, w4, w5, w6, ⟨w7a, w7b, ⟨rfl, ?_, ?_, fun i hi => ?_⟩⟩, w8⟩, pz_U_ek hU ?_, pz_M_ek hM ?_, pz_T_ek hT ?_, pz_X_ek hX ?_, pz_C_ek hC ?_⟩
            · show 0 ≤ ((L + 1 : Nat) : Int); omega
            · show ((L + 1 : Nat) : Int) ≤ 12; omega
            · have hi' : (i : Int) < ((L + 1 : Nat) : Int) := hi
              show px_up s 43 L a 43 i = px_up s 182 L a 182 i ∧ 0 ≤ px_up s 43 L a 43 i ∧ px_up s 43 L a 43 i ≤ 60 ∧ 1 ≤ px_up s 44 L b 44 i ∧ px_up s 44 L b 44 i ≤ 20 ∧ px_up s 43 L a 43 i + px_up s 44 L b 44 i - 1 = px_up s 183 L (a + b - 1) 183 i
              rw [pz_up_same, pz_up_same, pz_up_same, pz_up_same]
              by_cases hiL : i = L
              · simp only [if_pos hiL]; exact ⟨trivial, c1.1, c1.2, c2.1, c2.2, trivial⟩
              · simp only [if_neg hiL]; exact l4 i (by omega)
            all_goals repeat (first | exact pz_ek_rf | refine pz_ek_up rfl ?_)
      · refine hno ?_ ?_
        · rw [hR0, if_pos c1, if_neg c2]
        · rw [hM0 _ hL, if_pos c1, if_neg c2]
    · refine hno ?_ ?_
      · rw [hR0, if_neg c1]
      · rw [hM0 _ hL, if_neg c1]
theorem pz_xor_nn {a b : Int} (h1 : 0 ≤ a) (h2 : a < 2147483648) (h3 : 0 ≤ b) (h4 : b < 2147483648) : 0 ≤ px_xor a b := by
  unfold px_xor
  have ha : (Int32.ofInt a).toBitVec.toNat < 2147483648 := by
    show (BitVec.ofInt 32 a).toNat < _
    rw [BitVec.toNat_ofInt]
    have : a % ((2 ^ 32 : Nat) : Int) = a := Int.emod_eq_of_lt h1 (by omega)
    rw [this]; omega
  have hb : (Int32.ofInt b).toBitVec.toNat < 2147483648 := by
    show (BitVec.ofInt 32 b).toNat < _
    rw [BitVec.toNat_ofInt]
    have : b % ((2 ^ 32 : Nat) : Int) = b := Int.emod_eq_of_lt h3 (by omega)
    rw [this]; omega
  show 0 ≤ ((Int32.ofInt a).toBitVec ^^^ (Int32.ofInt b).toBitVec).toInt
  have hx : ((Int32.ofInt a).toBitVec ^^^ (Int32.ofInt b).toBitVec).toNat < 2147483648 := by
    rw [BitVec.toNat_xor]
    exact Nat.xor_lt_two_pow (n := 31) ha hb
  rw [BitVec.toInt_eq_toNat_cond, if_pos (by omega)]
  omega
theorem po_share {s : px_Z} (h : pz_I s) (a b c d : Int) : pz_oq (f_R_share s a b c d) s (fun u => f_M_share u a b c d) := by
  have key : ∃ x, f_R_share s a b c d = some x ∧ f_M_share s a b c d = some (x, px_up s 150 0 0) := by
    unfold f_R_share f_M_share
    rw [pz_within, pz_within, pz_within, pz_isIn, pz_isIn, pz_isIn, pz_isIn, pz_i1, pz_i1, pz_i1, pz_i1, pz_i1, pz_i1, pz_i1]
    by_cases c1 : 0 ≤ a ∧ a ≤ 99999
    · by_cases c2 : 1 ≤ b ∧ b ≤ 99
      · by_cases c3 : 1 ≤ c ∧ c ≤ 99
        · have m1 : 0 ≤ a * b := Int.mul_nonneg c1.1 (by omega)
          have m2 : a * b ≤ 99999 * 99 := Int.mul_le_mul c1.2 c2.2 (by omega) (by omega)
          have m3 : 0 ≤ a * c := Int.mul_nonneg c1.1 (by omega)
          have m4 : a * c ≤ 99999 * 99 := Int.mul_le_mul c1.2 c3.2 (by omega) (by omega)
          have fd : ∀ x : Int, 0 ≤ x → x ≤ 99999 * 99 → f_Math_floorDiv s (px_wr x) (px_wr (b + c)) = some (px_wr ((px_wr x).tdiv (px_wr (b + c)))) := by
            intro x h1 h2
            unfold f_Math_floorDiv
            rw [pz_wr_id (x := x) (by omega) (by omega), pz_wr_id (x := b + c) (by omega) (by omega), if_neg (by omega), if_pos (pz_xor_nn h1 (by omega) (by omega) (by omega))]
          have hbc : ¬ (px_wr (b + c) = 0) := by rw [pz_wr_id (by omega) (by omega)]; omega
          rw [if_pos c1, if_pos c2, if_pos c3, if_pos c1, if_pos c2, if_pos c3, fd _ m1 m2, fd _ m3 m4]
          simp only [Option.bind_some, if_neg hbc]
          by_cases d0 : d = 0
          · subst d0; exact ⟨_, rfl, rfl⟩
          · by_cases d1 : d = 1
            · subst d1; exact ⟨_, rfl, rfl⟩
            · by_cases d2 : d = 2
              · subst d2; exact ⟨_, rfl, rfl⟩
              · rw [if_neg d0, if_neg d1, if_neg d2, if_neg (by omega)]; exact ⟨_, rfl, rfl⟩
        · rw [if_pos c1, if_pos c2, if_neg c3, if_pos c1, if_pos c2, if_neg c3]; exact ⟨_, rfl, rfl⟩
      · rw [if_pos c1, if_neg c2, if_pos c1, if_neg c2]; exact ⟨_, rfl, rfl⟩
    · rw [if_neg c1, if_neg c1]; exact ⟨_, rfl, rfl⟩
  obtain ⟨x, e1, e2⟩ := key
  exact ⟨x, _, e1, e2, pz_I_told h⟩
