/-! SIMPLE CALLS -/
theorem pz_i1 {α : Type} {c : Prop} [Decidable c] {A B : α} : (if (if c then (1 : Int) else 0) = 0 then A else B) = if c then B else A := by
  by_cases h : c <;> simp [h]
theorem pz_isThing {s : px_Z} {n : Nat} (h : s 150 6 = (n : Int)) (x : Int) : f_M_isThing s x = if 0 ≤ x ∧ x ≤ (n : Int) - 1 then 1 else 0 := by
  unfold f_M_isThing
  rw [h]
  repeat' split
  all_goals omega
theorem pz_wr_pred {n : Nat} (h : n ≤ 2147483647) : px_wr ((n : Int) - 1) = (n : Int) - 1 := pz_wr_id (by omega) (by omega)
theorem pz_U_zero {n m : Nat} {s t : px_Z} (h : pz_U n s) (h1 : t 88 2 = 0) (h2 : t 150 3 = 0) (h3 : t 88 1 = s 88 1) : pz_U m t := by
  obtain ⟨k, r, hk, hr, -, -, e3, -⟩ := h
  exact ⟨0, r, by decide, hr, h1, h2, h3.trans e3, fun j hj => absurd hj (Nat.not_lt_zero j)⟩
theorem pz_F_lo {n : Nat} {f0 f1 f2 f3 f4 q g0 r : Nat → Int} (h : pz_F n f0 f1 f2 f3 f4 q) (eq : ∀ i, 8 ≤ i → r i = q i) (ha : g0 0 = r 1 ∧ g0 1 = r 3 ∧ g0 2 = r 4 ∧ g0 3 = r 5 ∧ g0 4 = r 0 ∧ g0 5 = r 6 - 1 ∧ g0 7 = r 2) (hb : 0 ≤ r 4 ∧ r 4 ≤ 9999 ∧ 0 ≤ r 5 ∧ r 5 ≤ 99 ∧ 0 ≤ r 0 ∧ r 0 ≤ 60 ∧ 0 ≤ r 6 ∧ r 6 ≤ (n : Int) ∧ 0 ≤ r 2 ∧ r 2 ≤ 120 ∧ 0 ≤ r 7 ∧ r 7 ≤ r 0 + 1 ∧ ((g0 6 = 0 ∧ r 7 ≠ r 0 + 1) ∨ (g0 6 = 1 ∧ r 7 = r 0 + 1))) : pz_F n g0 f1 f2 f3 f4 r := by
  obtain ⟨a, b, c, d, e⟩ := h
  refine ⟨ha, hb, fun i hi => ?_, fun i hi hni => ?_, fun k hk => ?_⟩
  · rw [eq (8 + i) (by omega), eq (16 + i) (by omega), eq (24 + i) (by omega), eq (32 + i) (by omega)]
    exact c i hi
  · rw [eq (8 + i) (by omega), eq (16 + i) (by omega), eq (24 + i) (by omega), eq (32 + i) (by omega)]
    exact d i hi hni
  · rw [eq (16 + k) (by omega)]
    intro h1 i hi
    rw [eq (16 + i) (by omega)]
    exact e k hk h1 i hi
theorem po_state {s : px_Z} (h : pz_I s) (v : Int) : pz_op (f_R_state s v) (fun u => f_M_state u v) := by
  obtain ⟨n, ⟨hn, w1, wF, w3, w4, w5, w6, w7, w8⟩, hU, hM, hT, hX, hC⟩ := h
  have e : s 7 0 = s 151 1 := wF.1.1
  refine ⟨s 7 0, px_up (px_up (px_up (px_up s 7 0 v) 88 2 0) 145 10 (-2)) 145 13 0, px_up (px_up (px_up (px_up (px_up (px_up (px_up s 7 0 v) 88 2 0) 145 10 (-2)) 145 13 0) 150 0 0) 151 1 v) 150 3 0, rfl, ?_, ?_⟩
  · rw [e]; rfl
  · refine ⟨n, ⟨hn, w1, ?_, w3, w4, w5, w6, w7, w8⟩, pz_U_zero hU rfl rfl rfl, pz_M_ek hM ?_, pz_T_ek hT ?_, pz_X_ek hX ?_, Or.inl ⟨rfl, rfl⟩⟩
    · have wF' := wF
      obtain ⟨⟨a1, a2, a3, a4, a5, a6, a7⟩, b, c, d, e'⟩ := wF
      exact pz_F_lo wF' (fun i hi => pz_up_i (show i ≠ 1 by omega)) ⟨rfl, a2, a3, a4, a5, a6, a7⟩ b
    all_goals repeat (first | exact pz_ek_rf | refine pz_ek_up rfl ?_)
/-- nothing but told changes -/
theorem pz_I_told {s : px_Z} (h : pz_I s) : pz_I (px_up s 150 0 0) := pz_I_ek h (pz_ek_up rfl pz_ek_rf)
theorem po_end {s : px_Z} (h : pz_I s) (v : Int) : pz_op (f_R_end s v) (fun u => f_M_end u v) := by
  have h' := h
  obtain ⟨n, hW, hU, hM, hT, hX, hC⟩ := h
  obtain ⟨t1, t2, t3, t4⟩ := hT
  unfold f_R_end
  rw [pz_within, pz_i1]
  by_cases hv : 0 ≤ v ∧ v ≤ s 5 5
  · rw [if_pos hv]
    refine ⟨1, px_up s 5 5 v, px_up (px_up (px_up s 5 5 v) 150 0 0) 150 13 v, rfl, ?_, ?_⟩
    · show f_M_end (px_up s 5 5 v) v = _
      unfold f_M_end
      rw [pz_isIn, pz_i1]
      exact if_pos (show 0 ≤ v ∧ v ≤ s 150 13 by omega)
    · refine ⟨n, pz_W_ek hW ?_ ?_, pz_U_ek hU ?_, pz_M_ek hM ?_, ⟨rfl, hv.1, ?_, t4⟩, pz_X_ek hX ?_, pz_C_ek hC ?_⟩
      case refine_5 => show v ≤ 400; omega
      all_goals repeat (first | exact pz_ek_rf | refine pz_ek_up rfl ?_)
  · rw [if_neg hv]
    refine ⟨0, s, px_up s 150 0 0, rfl, ?_, pz_I_told h'⟩
    show f_M_end s v = _
    unfold f_M_end
    rw [pz_isIn, pz_i1]
    exact if_neg (show ¬ (0 ≤ v ∧ v ≤ s 150 13) by omega)
theorem po_fault {s : px_Z} (h : pz_I s) (v : Int) : pz_oq (some (f_R_fault s v)) s (fun u => f_M_fault u v) := by
  have h' := h
  obtain ⟨n, hW, hU, hM, hT, hX, hC⟩ := h
  refine ⟨_, px_up s 150 0 0, rfl, ?_, pz_I_told h'⟩
  show f_M_fault s v = _
  unfold f_M_fault f_R_fault
  rw [hX.1, hX.2.1]
  by_cases h0 : v = 0
  · rw [if_pos h0, if_pos h0]; rfl
  · rw [if_neg h0, if_neg h0]
    by_cases h1 : v = 1
    · rw [if_pos h1, if_pos h1]; rfl
    · rw [if_neg h1, if_neg h1]
theorem pz_hs_W {n : Nat} {u : px_Z} {f0 f1 f3 f4 q : Nat → Int} {f2 : Nat → Int} (hn : n ≤ 8) (hF : pz_F n f0 f1 f2 f3 f4 q) : pz_hs (fun i => q (16 + i)) n = pz_hs f2 n := pz_hs_congr (fun i hi => ((hF.2.2.1 i (by omega)).2.1).symm)
theorem po_look {s : px_Z} (h : pz_I s) (v : Int) : pz_oq (f_R_look s v) s (fun u => f_M_look u v) := by
  have h' := h
  obtain ⟨n, ⟨hn, w1, wF, w3, ⟨⟨ma, w4a, w4b⟩, ⟨mb, w4c, w4d⟩⟩, ⟨mh, w5a, w5b, w5c, w5d⟩, ⟨md, w6a, w6b, w6c, w6d⟩, ⟨w7a, w7b, w7c⟩, w8⟩, hU, hM, hT, hX, hC⟩ := h
  obtain ⟨k, r, hk, hr, u1, u2, u3, u4⟩ := hU
  obtain ⟨b1, b2, b3, b4, b5, b6, b7, b8, b9⟩ := w1
  have f := wF.1
  have g := wF.2.1
  have hR : f_World_homeSet s = some ((pz_hs (s 9) n : Nat) : Int) := pz_homeR hn b1
  have hMm : f_M_homeSet (px_up s 150 0 0) = some ((pz_hs (fun i => s 151 (16 + i)) n : Nat) : Int) := pz_homeM (s := px_up s 150 0 0) hn b2
  have hh : pz_hs (fun i => s 151 (16 + i)) n = pz_hs (s 9) n := pz_hs_congr (fun i hi => ((wF.2.2.1 i (by omega)).2.1).symm)
  have key : ∃ a, f_R_look s v = some a ∧ f_M_look s v = some (a, px_up s 150 0 0) := by
    unfold f_R_look f_M_look f_R_lookAtTold
    rw [hR, hMm, hh]
    by_cases c0 : v = 0
    · rw [if_pos c0, if_pos c0]; exact ⟨_, rfl, by rw [show s 6 1 = (n : Int) from b1]; exact congrArg (fun a => some (a, px_up s 150 0 0)) b2⟩
    rw [if_neg c0, if_neg c0]
    by_cases c1 : v = 1
    · rw [if_pos c1, if_pos c1]; exact ⟨_, rfl, rfl⟩
    rw [if_neg c1, if_neg c1]
    by_cases c2 : v = 2
    · rw [if_pos c2, if_pos c2]; exact ⟨_, rfl, congrArg (fun a => some (a, px_up s 150 0 0)) (f.2.2.2.2.1).symm⟩
    rw [if_neg c2, if_neg c2]
    by_cases c3 : v = 3
    · rw [if_pos c3, if_pos c3]; exact ⟨_, rfl, congrArg (fun a => some (a, px_up s 150 0 0)) (f.2.1).symm⟩
    rw [if_neg c3, if_neg c3]
    by_cases c4 : v = 4
    · rw [if_pos c4, if_pos c4]; exact ⟨_, rfl, congrArg (fun a => some (a, px_up s 150 0 0)) (f.2.2.1).symm⟩
    rw [if_neg c4, if_neg c4]
    by_cases c5 : v = 5
    · rw [if_pos c5, if_pos c5]; exact ⟨_, rfl, congrArg (fun a => some (a, px_up s 150 0 0)) (f.2.2.2.1).symm⟩
    rw [if_neg c5, if_neg c5]
    by_cases c6 : v = 6
    · rw [if_pos c6, if_pos c6]
      refine ⟨_, rfl, congrArg (fun a => some (a, px_up s 150 0 0)) ?_⟩
      show px_wr (s 151 6 - 1) = s 7 5
      rw [pz_wr_id (by omega) (by omega)]
      exact f.2.2.2.2.2.1.symm
    rw [if_neg c6, if_neg c6]
    by_cases c7 : v = 7
    · rw [if_pos c7, if_pos c7]; exact ⟨_, rfl, congrArg (fun a => some (a, px_up s 150 0 0)) (f.2.2.2.2.2.2).symm⟩
    rw [if_neg c7, if_neg c7]
    by_cases c8 : v = 8
    · rw [if_pos c8, if_pos c8]; exact ⟨_, rfl, congrArg (fun a => some (a, px_up s 150 0 0)) (f.1).symm⟩
    rw [if_neg c8, if_neg c8]
    by_cases c9 : v = 9
    · subst c9; exact ⟨_, rfl, congrArg (fun a => some (a, px_up s 150 0 0)) ((w4b.1.2.1).trans w4a.symm)⟩
    simp only [if_neg c9]
    by_cases c10 : v = 10
    · subst c10; exact ⟨_, rfl, congrArg (fun a => some (a, px_up s 150 0 0)) ((w4d.1.2.1).trans w4c.symm)⟩
    simp only [if_neg c10]
    by_cases c11 : v = 11
    · subst c11; exact ⟨_, rfl, congrArg (fun a => some (a, px_up s 150 0 0)) (w5c.trans w5b.symm)⟩
    simp only [if_neg c11]
    by_cases c12 : v = 12
    · subst c12; exact ⟨_, rfl, congrArg (fun a => some (a, px_up s 150 0 0)) b9.symm⟩
    simp only [if_neg c12]
    by_cases c13 : v = 13
    · subst c13; exact ⟨_, rfl, congrArg (fun a => some (a, px_up s 150 0 0)) (w6c.trans w6b.symm)⟩
    simp only [if_neg c13]
    by_cases c14 : v = 14
    · subst c14; exact ⟨_, rfl, congrArg (fun a => some (a, px_up s 150 0 0)) w7a.1.symm⟩
    simp only [if_neg c14]
    by_cases c15 : v = 15
    · subst c15; exact ⟨_, rfl, congrArg (fun a => some (a, px_up s 150 0 0)) w7b.1.symm⟩
    simp only [if_neg c15]
    by_cases c16 : v = 16
    · subst c16; exact ⟨_, rfl, congrArg (fun a => some (a, px_up s 150 0 0)) w7c.1.symm⟩
    simp only [if_neg c16]
    by_cases c17 : v = 17
    · rw [if_pos c17, if_pos c17]; exact ⟨_, rfl, congrArg (fun a => some (a, px_up s 150 0 0)) (u2.trans u1.symm)⟩
    rw [if_neg c17, if_neg c17]
    by_cases c20 : v = 20
    · rw [if_pos c20, if_pos c20]; exact ⟨_, rfl, congrArg (fun a => some (a, px_up s 150 0 0)) b3.symm⟩
    rw [if_neg c20, if_neg c20]
    by_cases c21 : v = 21
    · rw [if_pos c21, if_pos c21]; exact ⟨_, rfl, congrArg (fun a => some (a, px_up s 150 0 0)) b4.symm⟩
    rw [if_neg c21, if_neg c21]
    by_cases c22 : v = 22
    · rw [if_pos c22, if_pos c22]
      refine ⟨_, rfl, congrArg (fun a => some (a, px_up s 150 0 0)) ?_⟩
      show px_wr (s 150 10 + 30) = s 6 4
      have b6' : s 6 4 = s 150 10 + 30 := b6
      have b7' : 0 ≤ s 6 4 := b7
      have b8' : s 6 4 ≤ 60 := b8
      rw [pz_wr_id (by omega) (by omega)]
      exact b6'.symm
    rw [if_neg c22, if_neg c22]
    exact ⟨_, rfl, rfl⟩
  obtain ⟨a, e1, e2⟩ := key
  exact ⟨a, _, e1, e2, pz_I_told h'⟩
theorem po_mud {s : px_Z} (h : pz_I s) (p w : Int) : pz_oq (f_R_mud s p w) s (fun u => f_M_mud u p w) := by
  have h' := h
  obtain ⟨n, ⟨hn, w1, wF, w3, w4, ⟨mh, w5a, w5b, w5c, w5d, w5e⟩, w6, w7, w8⟩, hU, hM, hT, hX, hC⟩ := h
  have hR := pz_mudR (s := s) w5a w5b p w
  have hMm := pz_mudM (s := px_up s 150 0 0) w5a w5c p w
  have he : pz_md (pz_hlv (s 29) (s 30) (s 31) (s 32) (s 33)) mh p w = pz_md (fun i k => s 166 (5 * i + k)) mh p w := pz_md_congr w5d p w
  have hnone : ¬ (0 ≤ p ∧ p ≤ 5 ∧ 0 ≤ w ∧ w ≤ 60) → pz_md (pz_hlv (s 29) (s 30) (s 31) (s 32) (s 33)) mh p w = -1 := by
    intro hc
    unfold pz_md
    cases hq : pz_fi (pz_mdp (pz_hlv (s 29) (s 30) (s 31) (s 32) (s 33)) p w) mh 0 with
    | none => rfl
    | some i =>
      obtain ⟨_, h5, h6⟩ := pz_fi_some _ _ _ hq
      rw [pz_mdp_s] at h6
      simp only [Bool.and_eq_true, decide_eq_true_eq] at h6
      have h7 : -1 ≤ s 29 i ∧ s 29 i ≤ 7 ∧ 0 ≤ s 30 i ∧ s 30 i ≤ 5 ∧ (s 29 i = -1 → 0 ≤ s 31 i ∧ s 32 i ≤ 60 ∧ 0 ≤ s 33 i ∧ s 33 i ≤ 5) := w5e i (by omega)
      have h8 := h7.2.2.2.2 h6.1.1
      exact absurd (show 0 ≤ p ∧ p ≤ 5 ∧ 0 ≤ w ∧ w ≤ 60 by omega) hc
  refine ⟨_, px_up s 150 0 0, by unfold f_R_mud; rw [hR]; rfl, ?_, pz_I_told h'⟩
  show f_M_mud s p w = _
  unfold f_M_mud
  rw [pz_isIn, pz_isIn, pz_i1, pz_i1, hMm]
  by_cases c1 : 0 ≤ p ∧ p ≤ 5
  · rw [if_pos c1]
    by_cases c2 : 0 ≤ w ∧ w ≤ 60
    · rw [if_pos c2, he]; rfl
    · rw [if_neg c2, hnone (fun hc => c2 hc.2.2)]
  · rw [if_neg c1, hnone (fun hc => c1 ⟨hc.1, hc.2.1⟩)]
theorem po_book {s : px_Z} (h : pz_I s) (i w : Int) : pz_oq (f_R_book s i w) s (fun u => f_M_book u i w) := by
  have h' := h
  obtain ⟨n, ⟨hn, w1, wF, w3, w4, w5, w6, w7, w8⟩, hU, hM, hT, hX, hC⟩ := h
  have e : s 7 7 = s 151 2 := wF.1.2.2.2.2.2.2
  have g := wF.2.1
  have hb : px_wr (s 151 2 - 1) = s 151 2 - 1 := pz_wr_id (by omega) (by omega)
  have key : ∃ a, f_R_book s i w = some a ∧ f_M_book s i w = some (a, px_up s 150 0 0) := by
    unfold f_R_book f_M_book
    rw [e]
    rw [show (px_up s 150 0 0) 151 2 = s 151 2 from rfl, hb, pz_within, pz_within, pz_isIn, pz_isIn, pz_i1, pz_i1, pz_i1, pz_i1]
    by_cases c1 : 0 ≤ i ∧ i ≤ s 151 2 - 1
    · rw [if_pos c1, if_pos c1]
      by_cases c2 : 0 ≤ w ∧ w ≤ 4
      · rw [if_pos c2, if_pos c2, Int.mul_comm i 5, pz_wr_id (x := 5 * i) (by omega) (by omega), pz_wr_id (by omega) (by omega), if_pos (by omega), if_pos (by omega)]
        refine ⟨_, rfl, congrArg (fun a => some (a, px_up s 150 0 0)) ?_⟩
        show s 155 _ = s 45 _
        exact (w8 _ (by omega)).symm
      · rw [if_neg c2, if_neg c2]; exact ⟨_, rfl, rfl⟩
    · rw [if_neg c1, if_neg c1]; exact ⟨_, rfl, rfl⟩
  obtain ⟨a, e1, e2⟩ := key
  exact ⟨a, _, e1, e2, pz_I_told h'⟩
