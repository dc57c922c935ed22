/-! TEXT: the call -/
theorem po_text {s : px_Z} (h : pz_I s) (k : Int) : pz_op (f_R_text s k) (fun u => f_M_text u k) := by
  have inn : ∀ (y : px_Z) (a : Int), f_M_isIn y a 0 4 = if 0 ≤ a ∧ a ≤ 4 then 1 else 0 := fun y a => pz_isIn y a 0 4
  by_cases k0 : k = 0
  · subst k0
    refine pt_glue h (pt_RPlaw (k := 0) (x := 1) (by decide)) ?_ (fun y => ?_) (pt_TK0 s)
    · unfold f_R_text; rfl
    · unfold f_M_text f_M_readsText
      rw [inn, pt_itn, if_pos (by decide)]
      cases f_M_reads (px_up (px_up (px_up (px_up (px_up (px_up (px_up y 150 0 0) 150 33 0) 150 34 (-1)) 150 14 0) 150 27 0) 150 28 0) 150 26 0) with
      | none => rfl
      | some q =>
        rw [Option.bind_some, Option.bind_some, if_neg (show ¬ (0 : Int) = 2 by decide), if_neg (show ¬ (0 : Int) = 3 by decide), if_neg (show ¬ (0 : Int) = 4 by decide)]
        cases f_M_readLaw q with
        | none => rfl
        | some p => rfl
  by_cases k1 : k = 1
  · subst k1
    refine pt_glue h (pt_RPlaw (k := 1) (x := 0) (by decide)) ?_ (fun y => ?_) (pt_TK1 s)
    · unfold f_R_text; rfl
    · unfold f_M_text f_M_readsText
      rw [inn, pt_itn, if_pos (by decide)]
      cases f_M_reads (px_up (px_up (px_up (px_up (px_up (px_up (px_up y 150 0 0) 150 33 0) 150 34 (-1)) 150 14 0) 150 27 0) 150 28 0) 150 26 1) with
      | none => rfl
      | some q =>
        rw [Option.bind_some, Option.bind_some, if_neg (show ¬ (1 : Int) = 2 by decide), if_neg (show ¬ (1 : Int) = 3 by decide), if_neg (show ¬ (1 : Int) = 4 by decide)]
        cases f_M_readLaw q with
        | none => rfl
        | some p => rfl
  by_cases k2 : k = 2
  · subst k2
    refine pt_glue h pt_RPhil ?_ (fun y => ?_) (pt_TK2 s)
    · unfold f_R_text; rfl
    · unfold f_M_text f_M_readsText
      rw [inn, pt_itn, if_pos (by decide)]
      cases f_M_reads (px_up (px_up (px_up (px_up (px_up (px_up (px_up y 150 0 0) 150 33 0) 150 34 (-1)) 150 14 0) 150 27 0) 150 28 0) 150 26 2) with
      | none => rfl
      | some q =>
        rw [Option.bind_some, Option.bind_some, if_pos rfl]
        cases f_M_readHills q with
        | none => rfl
        | some p => rfl
  by_cases k3 : k = 3
  · subst k3
    refine pt_glue h pt_RPaft ?_ (fun y => ?_) (pt_TK3 s)
    · unfold f_R_text; rfl
    · unfold f_M_text f_M_readsText
      rw [inn, pt_itn, if_pos (by decide)]
      cases f_M_reads (px_up (px_up (px_up (px_up (px_up (px_up (px_up y 150 0 0) 150 33 0) 150 34 (-1)) 150 14 0) 150 27 0) 150 28 0) 150 26 3) with
      | none => rfl
      | some q =>
        rw [Option.bind_some, Option.bind_some, if_neg (show ¬ (3 : Int) = 2 by decide), if_pos rfl]
        cases f_M_readAfter q with
        | none => rfl
        | some p => rfl
  by_cases k4 : k = 4
  · subst k4
    refine pt_glue h pt_RPpla ?_ (fun y => ?_) (pt_TK4 s)
    · unfold f_R_text; rfl
    · unfold f_M_text f_M_readsText
      rw [inn, pt_itn, if_pos (by decide)]
      cases f_M_reads (px_up (px_up (px_up (px_up (px_up (px_up (px_up y 150 0 0) 150 33 0) 150 34 (-1)) 150 14 0) 150 27 0) 150 28 0) 150 26 4) with
      | none => rfl
      | some q =>
        rw [Option.bind_some, Option.bind_some, if_neg (show ¬ (4 : Int) = 2 by decide), if_neg (show ¬ (4 : Int) = 3 by decide), if_pos rfl]
        cases f_M_readPlan q with
        | none => rfl
        | some p => rfl
  obtain ⟨n, hW, hU, hMM, hT, hX, hC⟩ := h
  obtain ⟨L, hL⟩ : ∃ L : Nat, s 150 13 = (L : Int) := ⟨(s 150 13).toNat, by have := hT.2.1; omega⟩
  have hL4 : L ≤ 400 := by have := hT.2.2.1; omega
  obtain ⟨u0, T, p1, p2, p3, p4, p5, p6, p7⟩ := pt_split (s := s) (L := L) (b := s 156) (fun q hq => (hT.2.2.2 q hq).1) (fun q hq => (hT.2.2.2 q hq).2) hL4 (s 6 1)
  have p1' : f_Reader_split s (s 5 5) (s 6 1) = some u0 := by rw [hT.1.trans hL]; exact p1
  refine ⟨-1, px_up u0 5 5 0, px_up (px_up (px_up (px_up (px_up (px_up (px_up (px_up u0 5 5 0) 150 0 0) 150 33 0) 150 34 (-1)) 150 14 0) 150 27 0) 150 28 0) 150 13 0, ?_, ?_, ?_⟩
  · unfold f_R_text
    rw [p1', Option.bind_some, if_neg k0, if_neg k1, if_neg k2, if_neg k3, if_neg k4]
  · show f_M_text (px_up u0 5 5 0) k = _
    unfold f_M_text j_M_text_j41
    rw [inn, pt_itn, if_neg (show ¬ (0 ≤ k ∧ k ≤ 4) by omega), if_pos rfl]
  · obtain ⟨t, ht⟩ : ∃ t : px_Z, px_up (px_up (px_up (px_up (px_up (px_up (px_up (px_up u0 5 5 0) 150 0 0) 150 33 0) 150 34 (-1)) 150 14 0) 150 27 0) 150 28 0) 150 13 0 = t := ⟨_, rfl⟩
    have G : ∀ c j, ¬ (c = 5 ∧ j = 5) → ¬ (c = 121 ∧ 3 ≤ j ∧ j ≤ 8) → ¬ (122 ≤ c ∧ c ≤ 124) → ¬ (c = 150 ∧ (j = 0 ∨ j = 13 ∨ j = 14 ∨ j = 27 ∨ j = 28 ∨ j = 33 ∨ j = 34)) → t c j = s c j := by
      intro c j h1 h2 h3 h4
      rw [← ht, pt_upn (by omega), pt_upn (by omega), pt_upn (by omega), pt_upn (by omega), pt_upn (by omega), pt_upn (by omega), pt_upn (by omega), pt_upn (by omega)]
      exact p7 c j h2 h3
    have t55 : t 5 5 = 0 := by rw [← ht, pt_upn (by omega), pt_upn (by omega), pt_upn (by omega), pt_upn (by omega), pt_upn (by omega), pt_upn (by omega), pt_upn (by omega), pt_upi]
    have t13 : t 150 13 = 0 := by rw [← ht, pt_upi]
    have t33 : t 150 33 = 0 := by rw [← ht, pt_upn (by omega), pt_upn (by omega), pt_upn (by omega), pt_upn (by omega), pt_upn (by omega), pt_upi]
    have t34 : t 150 34 = -1 := by rw [← ht, pt_upn (by omega), pt_upn (by omega), pt_upn (by omega), pt_upn (by omega), pt_upi]
    have t7 : t 121 7 = 0 := by rw [← ht, pt_upn (by omega), pt_upn (by omega), pt_upn (by omega), pt_upn (by omega), pt_upn (by omega), pt_upn (by omega), pt_upn (by omega), pt_upn (by omega)]; exact p5
    have t8 : t 121 8 = -1 := by rw [← ht, pt_upn (by omega), pt_upn (by omega), pt_upn (by omega), pt_upn (by omega), pt_upn (by omega), pt_upn (by omega), pt_upn (by omega), pt_upn (by omega)]; exact p6
    rw [ht]
    obtain ⟨hn, w1', wF, w3, w4, w5, w6, w7, w8⟩ := hW
    refine pt_fin ⟨hn, w1', wF, w3, w4, w5, w6, w7, w8⟩ hMM hT hX (fun c j h => G c j (by unfold pt_un at h; omega) (by unfold pt_un at h; omega) (by unfold pt_un at h; omega) (by unfold pt_un at h; omega)) ?_ (pt_W3k w3 (fun i => G 12 i (by omega) (by omega) (by omega) (by omega)) (fun i hi => G 13 i (by omega) (by omega) (by omega) (by omega)) (fun i => G 154 i (by omega) (by omega) (by omega) (by omega)) (fun i hi => G 167 i (by omega) (by omega) (by omega) (by omega))) (pt_W4k w4 (fun c i q1 q2 => G c i (by omega) (by omega) (by omega) (by omega)) (fun j => G 158 j (by omega) (by omega) (by omega) (by omega)) (fun c i q1 q2 q3 => G c i (by omega) (by omega) (by omega) (by omega)) (fun c i q1 q2 q3 => G c i (by omega) (by omega) (by omega) (by omega))) (pt_W5k w5 (fun c i q1 q2 => G c i (by omega) (by omega) (by omega) (by omega)) (G 150 35 (by omega) (by omega) (by omega) (by omega)) (fun i hi => G 166 i (by omega) (by omega) (by omega) (by omega))) (pt_W6k w6 (fun c i q1 q2 => G c i (by omega) (by omega) (by omega) (by omega)) (G 150 43 (by omega) (by omega) (by omega) (by omega)) (fun i hi => G 171 i (by omega) (by omega) (by omega) (by omega))) (pz_U_ek hU (fun c i hk => by
      unfold pz_kU at hk
      simp only [Bool.or_eq_true, Bool.and_eq_true, beq_iff_eq, decide_eq_true_eq] at hk
      exact G c i (by omega) (by omega) (by omega) (by omega))) t55 t13 (t7.trans t33.symm) (t8.trans t34.symm) (pz_C_ek hC (fun c i hk => by
      unfold pz_kC at hk
      simp only [Bool.or_eq_true, Bool.and_eq_true, beq_iff_eq] at hk
      exact G c i (by omega) (by omega) (by omega) (by omega)))
    rw [G 6 7 (by omega) (by omega) (by omega) (by omega), G 150 37 (by omega) (by omega) (by omega) (by omega)]
    exact w1'.2.2.2.2.2.2.2.2
