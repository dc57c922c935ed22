theorem pz_wb1_fate {q : px_Z} {c i : Nat} (h : 1 ≤ c ∧ c ≤ 5) : pz_wb1 q (47 + c) i = q (47 + c) i := by
  rcases (show c = 1 ∨ c = 2 ∨ c = 3 ∨ c = 4 ∨ c = 5 by omega) with rfl | rfl | rfl | rfl | rfl
  all_goals (unfold pz_wb1; simp (disch := decide) only [pz_cp_c, pz_up_c])
theorem pz_wb2_fate {q : px_Z} {c i : Nat} (h : 1 ≤ c ∧ c ≤ 5) : pz_wb2 q (6 + c) i = q (6 + c) i := by
  rcases (show c = 1 ∨ c = 2 ∨ c = 3 ∨ c = 4 ∨ c = 5 by omega) with rfl | rfl | rfl | rfl | rfl
  all_goals (unfold pz_wb2; simp (disch := decide) only [pz_cp_c, pz_up_c])
theorem pz_kM_img {c i : Nat} (h : pz_kM c i = true) : (c = 5 ∧ i = 2) ∨ (c = 150 ∧ i = 61) ∨ (47 ≤ c ∧ c < 88) ∨ c = 184 := by
  unfold pz_kM at h
  simp only [Bool.or_eq_true, Bool.and_eq_true, beq_iff_eq, decide_eq_true_eq] at h
  omega
theorem po_image1 {s : px_Z} (h : pz_I s) : pz_op (f_R_image s 1) (fun u => f_M_image u 1) := by
  obtain ⟨n, hW, hU, hM, hT, hX, hC⟩ := h
  have g13 : (s 7 6 = 0 ∧ s 151 7 ≠ s 151 0 + 1) ∨ (s 7 6 = 1 ∧ s 151 7 = s 151 0 + 1) := hW.2.2.1.2.1.2.2.2.2.2.2.2.2.2.2.2.2
  obtain ⟨q, e1, ha, c0, c1, c2, c3, c4⟩ := pz_be_13 (s := s) (g13.elim (fun q => Or.inl q.1) (fun q => Or.inr q.1))
  have hR : f_R_image s 1 = some (1, px_up (pz_wb1 q) 5 2 1) := by
    unfold f_R_image
    rw [if_neg (by decide), pz_wb1_eq e1, Option.bind_some]
  have fr : ∀ c i, ¬ (47 ≤ c ∧ c < 88) → ¬ (c = 5 ∧ i = 2) → (px_up (pz_wb1 q) 5 2 1) c i = s c i := by
    intro c i h1 h2
    rw [pz_up_get, if_neg h2, pz_wb1_fr (by omega)]
    exact ha c i (by simp only [List.mem_cons, List.not_mem_nil, or_false]; omega)
  have cp : ∀ c i, pz_ku c i = true → (px_up (pz_wb1 q) 5 2 1) (47 + c) i = s (6 + c) i := by
    intro c i hk
    have h40 := pz_ku_lt hk
    rw [pz_up_c (by omega)]
    by_cases hc : 1 ≤ c ∧ c ≤ 5
    · rw [pz_wb1_fate hc]
      rcases (show c = 1 ∨ c = 2 ∨ c = 3 ∨ c = 4 ∨ c = 5 by omega) with rfl | rfl | rfl | rfl | rfl
      · exact c0 i (of_decide_eq_true hk)
      · exact c1 i (of_decide_eq_true hk)
      · exact c2 i (of_decide_eq_true hk)
      · exact c3 i (of_decide_eq_true hk)
      · exact c4 i (of_decide_eq_true hk)
    · rw [pz_wb1_ku hk hc]
      exact ha _ i (by simp only [List.mem_cons, List.not_mem_nil, or_false]; omega)
  have t52 : (px_up (pz_wb1 q) 5 2 1) 5 2 = 1 := rfl
  generalize px_up (pz_wb1 q) 5 2 1 = t at hR fr cp t52
  obtain ⟨z1, z', e2, hKI, hz'⟩ := pz_imgM (T := true) (z := px_up t 150 0 0)
  have hz1 : z' = z1 := hz'
  subst hz1
  have hM1 : f_M_image t 1 = some (1, z') := by
    unfold f_M_image
    rw [if_neg (by decide)]
    exact e2
  obtain ⟨k1, k2, k3, k4, k5⟩ := hKI
  have zfr : ∀ c i, c ≠ 184 → ¬ (c = 150 ∧ (i = 0 ∨ i = 60 ∨ i = 61 ∨ i = 62)) → z' c i = t c i := by
    intro c i h1 h2
    have hw : (px_up (px_up (px_up (px_up t 150 0 0) 150 60 (if true = true then 1 else 0)) 150 61 1) 150 62 0) c i = t c i := by
      rw [pz_up_get, if_neg (by omega), pz_up_get, if_neg (by omega), pz_up_get, if_neg (by omega), pz_up_get, if_neg (by omega)]
    cases hk : pz_kp c i with
    | true => rw [k3 c i hk, if_neg (fun q => by cases q.1), hw]
    | false => rw [k5 c i hk h1 (by omega), hw]
  have z61 : z' 150 61 = 1 := k5 150 61 rfl (by decide) (by decide)
  have z183 : ∀ c i, pz_kp c i = true → z' 184 (pz_pos c i) = s c i := by
    intro c i hk
    obtain ⟨p1, p2⟩ := pz_inv_pos hk
    have hc := pz_kp_hi hk
    have hn : ¬ (c = 150 ∧ (i = 0 ∨ i = 60 ∨ i = 61 ∨ i = 62)) := by
      intro q
      rcases q with ⟨rfl, rfl | rfl | rfl | rfl⟩ <;> cases hk
    rw [k4 _, if_pos ⟨rfl, p2⟩, p1]
    show (px_up (px_up (px_up (px_up t 150 0 0) 150 60 1) 150 61 1) 150 62 0) c i = _
    rw [pz_up_get, if_neg (by omega), pz_up_get, if_neg (by omega), pz_up_get, if_neg (by omega), pz_up_get, if_neg (by omega)]
    exact fr c i (by omega) (by omega)
  have both : ∀ c i, c ≠ 184 → ¬ (c = 150 ∧ (i = 0 ∨ i = 60 ∨ i = 61 ∨ i = 62)) → ¬ (47 ≤ c ∧ c < 88) → ¬ (c = 5 ∧ i = 2) → z' c i = s c i := fun c i h1 h2 h3 h4 => (zfr c i h1 h2).trans (fr c i h3 h4)
  refine ⟨1, t, z', hR, hM1, n, pz_W_ek hW (fun c i hk => ?_) (fun c i hk => ?_), pz_U_ek hU (fun c i hk => ?_), Or.inr ⟨(zfr 5 2 (by decide) (by decide)).trans t52, z61, n, pz_W_congr (fun c i hk => ?_) (fun c i hk => z183 c i hk) hW⟩, pz_T_ek hT (fun c i hk => ?_), pz_X_ek hX (fun c i hk => ?_), pz_C_ek hC (fun c i hk => ?_)⟩
  · unfold pz_kR at hk
    simp only [Bool.and_eq_true, decide_eq_true_eq] at hk
    have := pz_ku_lt hk.2
    exact both c i (by omega) (by omega) (by omega) (by omega)
  · have hc := pz_kp_hi hk
    refine both c i (fun q => by rw [q] at hk; cases hk) (fun q => ?_) (by omega) (by omega)
    rcases q with ⟨rfl, rfl | rfl | rfl | rfl⟩ <;> cases hk
  · unfold pz_kU at hk
    simp only [Bool.or_eq_true, Bool.and_eq_true, beq_iff_eq, decide_eq_true_eq] at hk
    exact both c i (by omega) (by omega) (by omega) (by omega)
  · have h40 := pz_ku_lt hk
    rw [zfr _ i (by omega) (by omega)]
    exact cp c i hk
  · unfold pz_kT at hk
    simp only [Bool.or_eq_true, Bool.and_eq_true, beq_iff_eq] at hk
    exact both c i (by omega) (by omega) (by omega) (by omega)
  · unfold pz_kX at hk
    simp only [Bool.or_eq_true, Bool.and_eq_true, beq_iff_eq] at hk
    exact both c i (by omega) (by omega) (by omega) (by omega)
  · have hc := pz_kC_lo hk
    unfold pz_kC at hk
    simp only [Bool.or_eq_true, Bool.and_eq_true, beq_iff_eq] at hk
    exact both c i (by omega) (by omega) (by omega) (by omega)
theorem po_image0 {s : px_Z} (h : pz_I s) : pz_op (f_R_image s 0) (fun u => f_M_image u 0) := by
  have h' := h
  obtain ⟨n, hW, hU, hM, hT, hX, hC⟩ := h
  rcases hM with ⟨i1, i2⟩ | ⟨i1, i2, n2, hI⟩
  · refine ⟨0, s, px_up s 150 0 0, ?_, ?_, pz_I_told h'⟩
    · unfold f_R_image
      rw [if_pos rfl, if_pos i1]
    · show f_M_image s 0 = _
      unfold f_M_image
      rw [if_pos rfl, if_pos (show (px_up s 150 0 0) 150 61 = 0 from i2)]
  · have g13 := hI.2.2.1.2.1.2.2.2.2.2.2.2.2.2.2.2.2
    obtain ⟨q, e1, ha, c0, c1, c2, c3, c4⟩ := pz_be_14 (s := s) (g13.elim (fun q => Or.inl q.1) (fun q => Or.inr q.1))
    have hR : f_R_image s 0 = some (1, px_up (px_up (px_up (pz_wb2 q) 88 2 0) 145 10 (-2)) 145 13 0) := by
      unfold f_R_image
      rw [if_pos rfl, if_neg (by rw [i1]; decide), pz_wb2_eq e1, Option.bind_some]
      rfl
    have fr : ∀ c i, ¬ (6 ≤ c ∧ c < 47) → ¬ (c = 88 ∧ i = 2) → ¬ (c = 145 ∧ (i = 10 ∨ i = 13)) → (px_up (px_up (px_up (pz_wb2 q) 88 2 0) 145 10 (-2)) 145 13 0) c i = s c i := by
      intro c i h1 h2 h3
      rw [pz_up_get, if_neg (by omega), pz_up_get, if_neg (by omega), pz_up_get, if_neg h2, pz_wb2_fr (by omega)]
      exact ha c i (by simp only [List.mem_cons, List.not_mem_nil, or_false]; omega)
    have cp : ∀ c i, pz_ku c i = true → (px_up (px_up (px_up (pz_wb2 q) 88 2 0) 145 10 (-2)) 145 13 0) (6 + c) i = s (47 + c) i := by
      intro c i hk
      have h40 := pz_ku_lt hk
      rw [pz_up_c (by omega), pz_up_c (by omega), pz_up_c (by omega)]
      by_cases hc : 1 ≤ c ∧ c ≤ 5
      · rw [pz_wb2_fate hc]
        rcases (show c = 1 ∨ c = 2 ∨ c = 3 ∨ c = 4 ∨ c = 5 by omega) with rfl | rfl | rfl | rfl | rfl
        · exact c0 i (of_decide_eq_true hk)
        · exact c1 i (of_decide_eq_true hk)
        · exact c2 i (of_decide_eq_true hk)
        · exact c3 i (of_decide_eq_true hk)
        · exact c4 i (of_decide_eq_true hk)
      · rw [pz_wb2_ku hk hc]
        exact ha _ i (by simp only [List.mem_cons, List.not_mem_nil, or_false]; omega)
    have t88 : (px_up (px_up (px_up (pz_wb2 q) 88 2 0) 145 10 (-2)) 145 13 0) 88 2 = 0 := rfl
    have t145 : pz_fg (px_up (px_up (px_up (pz_wb2 q) 88 2 0) 145 10 (-2)) 145 13 0) := ⟨rfl, rfl⟩
    generalize px_up (px_up (px_up (pz_wb2 q) 88 2 0) 145 10 (-2)) 145 13 0 = t at hR fr cp t88 t145
    obtain ⟨z1, z', e2, hKI, hz'⟩ := pz_imgM (T := false) (z := px_up t 150 0 0)
    have hz1 : z' = px_up z1 150 3 0 := hz'
    subst hz1
    have hM1 : f_M_image t 0 = some (1, px_up z1 150 3 0) := by
      unfold f_M_image
      rw [if_pos rfl, if_neg (show ¬ ((px_up t 150 0 0) 150 61 = 0) by
        rw [show (px_up t 150 0 0) 150 61 = t 150 61 from rfl, fr 150 61 (by omega) (by omega) (by omega), i2]; decide)]
      exact e2
    obtain ⟨k1, k2, k3, k4, k5⟩ := hKI
    have zfr : ∀ c i, pz_kp c i = false → c ≠ 184 → ¬ (c = 150 ∧ (i = 0 ∨ i = 3 ∨ i = 60 ∨ i = 61 ∨ i = 62)) → (px_up z1 150 3 0) c i = t c i := by
      intro c i hk h1 h2
      rw [pz_up_get, if_neg (by omega), k5 c i hk h1 (by omega)]
      rw [pz_up_get, if_neg (by omega), pz_up_get, if_neg (by omega), pz_up_get, if_neg (by omega), pz_up_get, if_neg (by omega)]
    have zkp : ∀ c i, pz_kp c i = true → (px_up z1 150 3 0) c i = s 184 (pz_pos c i) := by
      intro c i hk
      obtain ⟨p1, p2⟩ := pz_inv_pos hk
      rw [pz_up_get, if_neg (fun q => by rw [q.1, q.2] at hk; cases hk), k3 c i hk, if_pos ⟨rfl, p2⟩]
      exact fr 184 _ (by omega) (by omega) (by omega)
    have z183 : ∀ p, (px_up z1 150 3 0) 184 p = s 184 p := by
      intro p
      rw [pz_up_c (by decide), k4 p, if_neg (fun q => by cases q.1)]
      exact fr 184 _ (by omega) (by omega) (by omega)
    have z61 : (px_up z1 150 3 0) 150 61 = 1 := k5 150 61 rfl (by decide) (by decide)
    have hlo : ∀ c i, c < 150 → pz_kp c i = false := by
      intro c i hc
      cases hk : pz_kp c i with
      | false => rfl
      | true => have := pz_kp_hi hk; omega
    refine ⟨1, t, px_up z1 150 3 0, hR, hM1, n2, pz_W_congr (fun c i hk => ?_) zkp hI, pz_U_zero hU ?_ rfl ?_, ?_, pz_T_ek hT (fun c i hk => ?_), pz_X_ek hX (fun c i hk => ?_), Or.inl ?_⟩
    · have h40 := pz_ku_lt hk
      show (px_up z1 150 3 0) (6 + c) i = _
      rw [zfr _ i (hlo _ i (by omega)) (by omega) (by omega)]
      exact cp c i hk
    · rw [zfr 88 2 (hlo _ _ (by decide)) (by decide) (by decide)]; exact t88
    · rw [zfr 88 1 (hlo _ _ (by decide)) (by decide) (by decide)]
      exact fr 88 1 (by omega) (by omega) (by omega)
    · refine pz_M_ek (Or.inr ⟨i1, i2, n2, hI⟩) (fun c i hk => ?_)
      rcases pz_kM_img hk with ⟨rfl, rfl⟩ | ⟨rfl, rfl⟩ | h47 | rfl
      · rw [zfr 5 2 (hlo _ _ (by decide)) (by decide) (by decide)]
        exact fr 5 2 (by omega) (by omega) (by omega)
      · rw [z61, i2]
      · rw [zfr c i (hlo _ _ (by omega)) (by omega) (by omega)]
        exact fr c i (by omega) (by omega) (by omega)
      · exact z183 i
    · have hkp : pz_kp c i = false := by
        unfold pz_kT at hk
        simp only [Bool.or_eq_true, Bool.and_eq_true, beq_iff_eq] at hk
        rcases hk with ((⟨rfl, rfl⟩ | ⟨rfl, rfl⟩) | rfl) | rfl <;> rfl
      unfold pz_kT at hk
      simp only [Bool.or_eq_true, Bool.and_eq_true, beq_iff_eq] at hk
      rw [zfr c i hkp (by omega) (by omega)]
      exact fr c i (by omega) (by omega) (by omega)
    · have hkp : pz_kp c i = false := by
        unfold pz_kX at hk
        simp only [Bool.or_eq_true, Bool.and_eq_true, beq_iff_eq] at hk
        rcases hk with (⟨rfl, rfl | rfl⟩ | ⟨rfl, (rfl | rfl) | rfl⟩) | rfl <;> rfl
      unfold pz_kX at hk
      simp only [Bool.or_eq_true, Bool.and_eq_true, beq_iff_eq] at hk
      rw [zfr c i hkp (by omega) (by omega)]
      exact fr c i (by omega) (by omega) (by omega)
    · exact pz_fg_of (zfr 145 10 (hlo _ _ (by decide)) (by decide) (by decide)) (zfr 145 13 (hlo _ _ (by decide)) (by decide) (by decide)) t145
