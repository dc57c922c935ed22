/-! a DEED as a call -/
def pz_kDR (c _ : Nat) : Bool := decide (¬ ((7 ≤ c ∧ c ≤ 11) ∨ c = 20 ∨ c = 27 ∨ c = 45 ∨ c = 46 ∨ c = 88 ∨ (90 ≤ c ∧ c < 120) ∨ c = 145))
def pz_kDM (c i : Nat) : Bool := decide (¬ (c = 151 ∨ c = 152 ∨ c = 155 ∨ c = 174 ∨ c = 175 ∨ (c = 150 ∧ (i = 0 ∨ i = 3))))
def pz_D (n : Nat) (s z : px_Z) : Prop := pz_W n (pz_wo s) z ∧ pz_U2 n s z ∧ z 150 5 = 0
theorem pz_kDR_hi {c i : Nat} (h : 150 ≤ c) : pz_kDR c i = true := decide_eq_true (by omega)
theorem pz_kDM_lo {c i : Nat} (h : c < 150) : pz_kDM c i = true := decide_eq_true (by omega)
theorem pz_kp_hi {c i : Nat} (h : pz_kp c i = true) : 150 ≤ c := by
  refine Nat.le_of_not_lt (fun hc => ?_)
  have h0 : pz_kb c = 0 := by
    unfold pz_kb
    repeat rw [if_neg (by omega)]
  unfold pz_kp at h
  rw [if_neg (by omega), h0] at h
  cases h
theorem pz_kM_DR {c i : Nat} (h : pz_kM c i = true) : pz_kDR c i = true := by
  unfold pz_kM at h
  simp only [Bool.or_eq_true, Bool.and_eq_true, beq_iff_eq, decide_eq_true_eq] at h
  exact decide_eq_true (by omega)
theorem pz_kM_DM {c i : Nat} (h : pz_kM c i = true) : pz_kDM c i = true := by
  unfold pz_kM at h
  simp only [Bool.or_eq_true, Bool.and_eq_true, beq_iff_eq, decide_eq_true_eq] at h
  exact decide_eq_true (by omega)
theorem pz_kT_DR {c i : Nat} (h : pz_kT c i = true) : pz_kDR c i = true := by
  unfold pz_kT at h
  simp only [Bool.or_eq_true, Bool.and_eq_true, beq_iff_eq] at h
  exact decide_eq_true (by omega)
theorem pz_kT_DM {c i : Nat} (h : pz_kT c i = true) : pz_kDM c i = true := by
  unfold pz_kT at h
  simp only [Bool.or_eq_true, Bool.and_eq_true, beq_iff_eq] at h
  exact decide_eq_true (by omega)
theorem pz_kX_DR {c i : Nat} (h : pz_kX c i = true) : pz_kDR c i = true := by
  unfold pz_kX at h
  simp only [Bool.or_eq_true, Bool.and_eq_true, beq_iff_eq] at h
  exact decide_eq_true (by omega)
theorem pz_kX_DM {c i : Nat} (h : pz_kX c i = true) : pz_kDM c i = true := by
  unfold pz_kX at h
  simp only [Bool.or_eq_true, Bool.and_eq_true, beq_iff_eq] at h
  exact decide_eq_true (by omega)
theorem pz_kC_lo {c i : Nat} (h : pz_kC c i = true) : c < 150 := by
  unfold pz_kC at h
  simp only [Bool.or_eq_true, Bool.and_eq_true, beq_iff_eq] at h
  omega
theorem pz_deed {s : px_Z} {R : px_Z → Option (Int × px_Z)} {M : px_Z → Option (Int × px_Z)} (h : pz_I s) (hp : ∀ n z, pz_D n s z → ∃ a s' z', R s = some (a, s') ∧ M z = some (a, z') ∧ pz_W n (pz_wo s') z' ∧ pz_U2 n s' z' ∧ (pz_fg s' ∨ pz_ek pz_kC s s') ∧ pz_ek pz_kDR s s' ∧ pz_ek pz_kDM z z') : pz_op (R s) M := by
  obtain ⟨n, hW, hU, hM, hT, hX, hC⟩ := h
  obtain ⟨a, s', z0, e1, -, -, -, -, f1, -⟩ := hp n s ⟨hW, hU, hX.2.2.1⟩
  have hW' : pz_W n (pz_wo s) s' := pz_W_ek hW pz_ek_rf (pz_ek_mono f1 (fun c i hk => pz_kDR_hi (pz_kp_hi hk)))
  have hU' : pz_U2 n s s' := pz_U2_of hU (fun _ => rfl) (fun _ _ _ _ => rfl) (f1 150 3 (pz_kDR_hi (by decide))) (fun i => f1 152 i (pz_kDR_hi (by decide)))
  have h5 : s' 150 5 = 0 := (f1 150 5 (pz_kDR_hi (by decide))).trans hX.2.2.1
  obtain ⟨a2, s2, z', e2, e3, hW2, hU2, hc, f2, f3⟩ := hp n s' ⟨hW', hU', h5⟩
  rw [e1] at e2
  cases e2
  refine ⟨a, s', z', e1, e3, n, ?_, ?_, ?_, ?_, ?_, ?_⟩
  · refine pz_W_ek hW2 (fun c i hk => ?_) pz_ek_rf
    unfold pz_kR at hk
    simp only [Bool.and_eq_true, decide_eq_true_eq] at hk
    have := pz_ku_lt hk.2
    exact f3 c i (pz_kDM_lo (by omega))
  · exact pz_U2_of hU2 (fun i => f3 88 i (pz_kDM_lo (by decide))) (fun c i q1 q2 => f3 c i (pz_kDM_lo (by omega))) rfl (fun _ => rfl)
  · exact pz_M_ek hM (pz_ek_tr (pz_ek_mono f1 (fun c i hk => pz_kM_DR hk)) (pz_ek_mono f3 (fun c i hk => pz_kM_DM hk)))
  · exact pz_T_ek hT (pz_ek_tr (pz_ek_mono f1 (fun c i hk => pz_kT_DR hk)) (pz_ek_mono f3 (fun c i hk => pz_kT_DM hk)))
  · exact pz_X_ek hX (pz_ek_tr (pz_ek_mono f1 (fun c i hk => pz_kX_DR hk)) (pz_ek_mono f3 (fun c i hk => pz_kX_DM hk)))
  · rcases hc with hc | hc
    · exact Or.inl (pz_fg_of (f3 145 10 (pz_kDM_lo (by decide))) (f3 145 13 (pz_kDM_lo (by decide))) hc)
    · exact pz_C_ek hC (pz_ek_tr hc (pz_ek_mono f3 (fun c i hk => pz_kDM_lo (pz_kC_lo hk))))
theorem pz_D_told {n : Nat} {s z : px_Z} (h : pz_D n s z) : pz_D n s (px_up z 150 0 0) := ⟨pz_W_ek h.1 pz_ek_rf (pz_ek_up rfl pz_ek_rf), pz_U2_of h.2.1 (fun _ => rfl) (fun _ _ _ _ => rfl) rfl (fun _ => rfl), h.2.2⟩
theorem pz_kDM_told {z : px_Z} : pz_ek pz_kDM z (px_up z 150 0 0) := pz_ek_up rfl pz_ek_rf
/-- remembering keeps within a deed's bounds -/
theorem pz_rem_DR {s s' : px_Z} (h : ∀ c i, c ≠ 88 → ¬ (90 ≤ c ∧ c < 120) → c ≠ 145 → s' c i = s c i) : pz_ek pz_kDR s s' := by
  intro c i hk
  have := of_decide_eq_true hk
  exact h c i (by omega) (by omega) (by omega)
theorem pz_rem_DM {z z' : px_Z} (h : ∀ c i, c ≠ 152 → ¬ (c = 150 ∧ i = 3) → z' c i = z c i) : pz_ek pz_kDM z z' := by
  intro c i hk
  have := of_decide_eq_true hk
  exact h c i (by omega) (by omega)
theorem pz_ag_DR {s s' : px_Z} (h : pz_ag [7, 8, 9, 10, 11, 45, 20, 27, 46] s s') : pz_ek pz_kDR s s' := by
  intro c i hk
  have := of_decide_eq_true hk
  refine h c i ?_
  simp only [List.mem_cons, List.not_mem_nil, or_false]
  omega
theorem pz_ag_DM {z z' : px_Z} (h : pz_ag [151, 155, 174, 175] z z') : pz_ek pz_kDM z z' := by
  intro c i hk
  have := of_decide_eq_true hk
  refine h c i ?_
  simp only [List.mem_cons, List.not_mem_nil, or_false]
  omega
theorem pz_ag_U2 {n : Nat} {s s' z z' : px_Z} (hU : pz_U2 n s z) (h1 : pz_ag [7, 8, 9, 10, 11, 45, 20, 27, 46] s s') (h2 : pz_ag [151, 155, 174, 175] z z') : pz_U2 n s' z' := by
  refine pz_U2_of hU (fun i => h1 88 i (by decide)) (fun c i q1 q2 => h1 c i ?_) (h2 150 3 (by decide)) (fun i => h2 152 i (by decide))
  simp only [List.mem_cons, List.not_mem_nil, or_false]
  omega
theorem po_cry {s : px_Z} (h : pz_I s) (v : Int) : pz_op (f_R_cry s v) (fun u => f_M_cry u v) := by
  refine pz_deed (R := fun s => f_R_cry s v) h (fun n z hD => ?_)
  have hD0 := pz_D_told hD
  show ∃ a s' z', f_R_cry s v = _ ∧ f_M_cry z v = _ ∧ _
  unfold f_R_cry f_M_cry
  rw [pz_within, pz_isIn, pz_i1, pz_i1]
  by_cases hv : 1 ≤ v ∧ v ≤ 20
  · rw [if_pos hv, if_pos hv]
    obtain ⟨s1, z1, e1, e2, hW1, hU1, h7, f1, f2⟩ := pz_remP hD0.1 hD0.2.1
    have h5 : z1 150 5 = 0 := (f2 150 5 (by decide) (by decide)).trans hD0.2.2
    obtain ⟨s2, z2, e3, e4, hW2, g1, g2⟩ := pz_cryP hW1 h5 hv
    rw [e1, e2, Option.bind_some, Option.bind_some, e3, e4, Option.bind_some, Option.bind_some]
    have h3 : s2 7 3 = z2 151 5 := hW2.2.2.1.1.2.2.2.1
    rw [h3]
    have g1' : pz_ag [7, 8, 9, 10, 11, 45, 20, 27, 46] s1 s2 := pz_ag_mono g1 (by decide)
    have g2' : pz_ag [151, 155, 174, 175] z1 z2 := pz_ag_mono g2 (by decide)
    exact ⟨_, s2, z2, rfl, rfl, hW2, pz_ag_U2 hU1 g1' g2', Or.inl (pz_fg_of (g1 145 10 (by decide)) (g1 145 13 (by decide)) h7), pz_ek_tr (pz_rem_DR f1) (pz_ag_DR g1'), pz_ek_tr pz_kDM_told (pz_ek_tr (pz_rem_DM f2) (pz_ag_DM g2'))⟩
  · rw [if_neg hv, if_neg hv]
    exact ⟨-1, s, px_up z 150 0 0, rfl, rfl, hD0.1, hD0.2.1, Or.inr pz_ek_rf, pz_ek_rf, pz_kDM_told⟩
theorem pz_back {s : px_Z} {r k : Nat} (hr : r < 6) (hk : 0 < k ∧ k ≤ 6) (h1 : s 88 1 = (r : Int)) (h2 : s 88 2 = (k : Int)) (h6 : s (90 + 5 * r) 6 = 0 ∨ s (90 + 5 * r) 6 = 1) : ∃ u, f_Trail_goBack s = some (1, u) ∧ u 88 1 = (((r + 5) % 6 : Nat) : Int) ∧ u 88 2 = ((k - 1 : Nat) : Int) ∧ (∀ c i, c ≠ 88 → ¬ (7 ≤ c ∧ c < 12) → u c i = s c i) ∧ (∀ i, i < 8 → u 7 i = s (90 + 5 * r) i) ∧ (∀ i, i < 8 → u 8 i = s (91 + 5 * r) i) ∧ (∀ i, i < 8 → u 9 i = s (92 + 5 * r) i) ∧ (∀ i, i < 8 → u 10 i = s (93 + 5 * r) i) ∧ (∀ i, i < 8 → u 11 i = s (94 + 5 * r) i) := by
  have hq : ∀ q : px_Z, q 88 1 = (r : Int) → (px_wr (px_wr (q 88 1 + 6) - 1)).tmod 6 = (((r + 5) % 6 : Nat) : Int) := by
    intro q hq
    rw [hq, pz_wr_id (x := (r : Int) + 6) (by omega) (by omega), pz_wr_id (by omega) (by omega), show (r : Int) + 6 - 1 = ((r + 5 : Nat) : Int) by omega]
    rfl
  have hk1 : ∀ q : px_Z, q 88 2 = (k : Int) → px_wr (q 88 2 - 1) = ((k - 1 : Nat) : Int) := by
    intro q hq
    rw [hq, pz_wr_pred (by omega)]
    omega
  have hk0 : ¬ ((k : Int) = 0) := by omega
  unfold f_Trail_goBack
  rw [h2, if_neg hk0, h1]
  rcases (show r = 0 ∨ r = 1 ∨ r = 2 ∨ r = 3 ∨ r = 4 ∨ r = 5 by omega) with rfl | rfl | rfl | rfl | rfl | rfl
  · obtain ⟨u, e, ha, c0, c1, c2, c3, c4⟩ := pz_be_9 h6
    have hu1 : u 88 1 = ((0 : Nat) : Int) := (ha 88 1 (by decide)).trans h1
    have hu2 : u 88 2 = (k : Int) := (ha 88 2 (by decide)).trans h2
    refine ⟨px_up (px_up u 88 1 (((0 + 5) % 6 : Nat) : Int)) 88 2 ((k - 1 : Nat) : Int), ?_, rfl, rfl, fun c i h3 h4 => ?_, c0, c1, c2, c3, c4⟩
    · rw [if_pos (by decide), e, Option.bind_some, hq u hu1, show (px_up u 88 1 (((0 + 5) % 6 : Nat) : Int)) 88 2 = u 88 2 from rfl, hk1 u hu2]
    · rw [pz_up_c h3, pz_up_c h3, ha c i (by simp only [List.mem_cons, List.not_mem_nil, or_false]; omega)]
  · obtain ⟨u, e, ha, c0, c1, c2, c3, c4⟩ := pz_be_8 h6
    have hu1 : u 88 1 = ((1 : Nat) : Int) := (ha 88 1 (by decide)).trans h1
    have hu2 : u 88 2 = (k : Int) := (ha 88 2 (by decide)).trans h2
    refine ⟨px_up (px_up u 88 1 (((1 + 5) % 6 : Nat) : Int)) 88 2 ((k - 1 : Nat) : Int), ?_, rfl, rfl, fun c i h3 h4 => ?_, c0, c1, c2, c3, c4⟩
    · rw [if_neg (by decide), if_pos (by decide), e, Option.bind_some, hq u hu1, show (px_up u 88 1 (((1 + 5) % 6 : Nat) : Int)) 88 2 = u 88 2 from rfl, hk1 u hu2]
    · rw [pz_up_c h3, pz_up_c h3, ha c i (by simp only [List.mem_cons, List.not_mem_nil, or_false]; omega)]
  · obtain ⟨u, e, ha, c0, c1, c2, c3, c4⟩ := pz_be_7 h6
    have hu1 : u 88 1 = ((2 : Nat) : Int) := (ha 88 1 (by decide)).trans h1
    have hu2 : u 88 2 = (k : Int) := (ha 88 2 (by decide)).trans h2
    refine ⟨px_up (px_up u 88 1 (((2 + 5) % 6 : Nat) : Int)) 88 2 ((k - 1 : Nat) : Int), ?_, rfl, rfl, fun c i h3 h4 => ?_, c0, c1, c2, c3, c4⟩
    · rw [if_neg (by decide), if_neg (by decide), if_pos (by decide), e, Option.bind_some, hq u hu1, show (px_up u 88 1 (((2 + 5) % 6 : Nat) : Int)) 88 2 = u 88 2 from rfl, hk1 u hu2]
    · rw [pz_up_c h3, pz_up_c h3, ha c i (by simp only [List.mem_cons, List.not_mem_nil, or_false]; omega)]
  · obtain ⟨u, e, ha, c0, c1, c2, c3, c4⟩ := pz_be_12 h6
    have hu1 : u 88 1 = ((3 : Nat) : Int) := (ha 88 1 (by decide)).trans h1
    have hu2 : u 88 2 = (k : Int) := (ha 88 2 (by decide)).trans h2
    refine ⟨px_up (px_up u 88 1 (((3 + 5) % 6 : Nat) : Int)) 88 2 ((k - 1 : Nat) : Int), ?_, rfl, rfl, fun c i h3 h4 => ?_, c0, c1, c2, c3, c4⟩
    · rw [if_neg (by decide), if_neg (by decide), if_neg (by decide), if_pos (by decide), e, Option.bind_some, hq u hu1, show (px_up u 88 1 (((3 + 5) % 6 : Nat) : Int)) 88 2 = u 88 2 from rfl, hk1 u hu2]
    · rw [pz_up_c h3, pz_up_c h3, ha c i (by simp only [List.mem_cons, List.not_mem_nil, or_false]; omega)]
  · obtain ⟨u, e, ha, c0, c1, c2, c3, c4⟩ := pz_be_10 h6
    have hu1 : u 88 1 = ((4 : Nat) : Int) := (ha 88 1 (by decide)).trans h1
    have hu2 : u 88 2 = (k : Int) := (ha 88 2 (by decide)).trans h2
    refine ⟨px_up (px_up u 88 1 (((4 + 5) % 6 : Nat) : Int)) 88 2 ((k - 1 : Nat) : Int), ?_, rfl, rfl, fun c i h3 h4 => ?_, c0, c1, c2, c3, c4⟩
    · rw [if_neg (by decide), if_neg (by decide), if_neg (by decide), if_neg (by decide), if_pos (by decide), e, Option.bind_some, hq u hu1, show (px_up u 88 1 (((4 + 5) % 6 : Nat) : Int)) 88 2 = u 88 2 from rfl, hk1 u hu2]
    · rw [pz_up_c h3, pz_up_c h3, ha c i (by simp only [List.mem_cons, List.not_mem_nil, or_false]; omega)]
  · obtain ⟨u, e, ha, c0, c1, c2, c3, c4⟩ := pz_be_11 h6
    have hu1 : u 88 1 = ((5 : Nat) : Int) := (ha 88 1 (by decide)).trans h1
    have hu2 : u 88 2 = (k : Int) := (ha 88 2 (by decide)).trans h2
    refine ⟨px_up (px_up u 88 1 (((5 + 5) % 6 : Nat) : Int)) 88 2 ((k - 1 : Nat) : Int), ?_, rfl, rfl, fun c i h3 h4 => ?_, c0, c1, c2, c3, c4⟩
    · rw [if_neg (by decide), if_neg (by decide), if_neg (by decide), if_neg (by decide), if_neg (by decide), if_pos (by decide), e, Option.bind_some, hq u hu1, show (px_up u 88 1 (((5 + 5) % 6 : Nat) : Int)) 88 2 = u 88 2 from rfl, hk1 u hu2]
    · rw [pz_up_c h3, pz_up_c h3, ha c i (by simp only [List.mem_cons, List.not_mem_nil, or_false]; omega)]
theorem pz_undoM {z : px_Z} {K : Nat} (hK : K ≤ 5) : ∃ y', l_M_undo_16 px_big (px_up (px_up z 150 0 0) 150 3 (K : Int)) 0 = some (1, y') ∧ pz_ag [151] (px_up (px_up z 150 0 0) 150 3 (K : Int)) y' ∧ (∀ j, j < 40 → y' 151 j = z 152 (40 * K + j)) := by
  have hl : ∀ (m fu i : Nat) (y : px_Z), i + m = 40 → m < fu → pz_ag [151] (px_up (px_up z 150 0 0) 150 3 (K : Int)) y → (∀ j, j < i → y 151 j = z 152 (40 * K + j)) → ∃ y', l_M_undo_16 fu y (i : Int) = some (1, y') ∧ pz_ag [151] (px_up (px_up z 150 0 0) 150 3 (K : Int)) y' ∧ (∀ j, j < 40 → y' 151 j = z 152 (40 * K + j)) := by
    intro m
    induction m with
    | zero =>
      intro fu i y hi hf hy ha
      obtain ⟨f, rfl⟩ : ∃ f, fu = f + 1 := ⟨fu - 1, by omega⟩
      rw [l_M_undo_16, if_pos (by omega)]
      exact ⟨y, rfl, hy, fun j hj => ha j (by omega)⟩
    | succ m ih =>
      intro fu i y hi hf hy ha
      obtain ⟨f, rfl⟩ : ∃ f, fu = f + 1 := ⟨fu - 1, by omega⟩
      have y3 : y 150 3 = (K : Int) := hy 150 3 (by decide)
      have x0 : px_wr (px_wr (40 * (K : Int)) + (i : Int)) = ((40 * K + i : Nat) : Int) := by
        rw [pz_wr_id (x := 40 * (K : Int)) (by omega) (by omega), pz_wr_id (by omega) (by omega)]; omega
      rw [l_M_undo_16, if_neg (by omega), y3, x0, if_pos (by omega), if_pos (by omega), Int.toNat_natCast, Int.toNat_natCast, pz_wr_suc (by omega)]
      refine ih f (i + 1) _ (by omega) (by omega) (pz_ag_up hy (by decide)) (fun j hj => ?_)
      rw [pz_up_same]
      by_cases hji : j = i
      · subst hji; rw [if_pos rfl]; exact hy 152 _ (by decide)
      · rw [if_neg hji]; exact ha j (by omega)
  exact hl 40 px_big 0 (px_up (px_up z 150 0 0) 150 3 (K : Int)) (by omega) (pz_big_lt (by omega)) pz_ag_rf (fun j hj => by omega)
theorem po_undo {s : px_Z} (h : pz_I s) : pz_op (f_R_undo s) (fun u => f_M_undo u) := by
  refine pz_deed (R := fun s => f_R_undo s) h (fun n z hD => ?_)
  have hD0 := pz_D_told hD
  obtain ⟨hW, ⟨k, r, hk, hr, u1, u2, u3, hF⟩, h5⟩ := hD0
  show ∃ a s' z', f_R_undo s = _ ∧ f_M_undo z = _ ∧ _
  by_cases hk0 : k = 0
  · subst hk0
    refine ⟨0, s, px_up z 150 0 0, ?_, ?_, hW, ⟨0, r, hk, hr, u1, u2, u3, hF⟩, Or.inr pz_ek_rf, pz_ek_rf, pz_kDM_told⟩
    · unfold f_R_undo f_Trail_goBack
      rw [u1, if_pos (show ((0 : Nat) : Int) = 0 from rfl)]
      rfl
    · unfold f_M_undo
      rw [u2, if_pos (show ((0 : Nat) : Int) = 0 from rfl)]
  · have hF0 := hF 0 (by omega)
    have hr0 : (r + 6 - 0) % 6 = r := by omega
    rw [hr0] at hF0
    have g13 := hF0.2.1.2.2.2.2.2.2.2.2.2.2.2.2
    obtain ⟨u, e1, a1, a2, a3, b0, b1, b2, b3, b4⟩ := pz_back (s := s) hr ⟨by omega, hk⟩ u3 u1 (g13.elim (fun q => Or.inl q.1) (fun q => Or.inr q.1))
    obtain ⟨y, e2, y1, y2⟩ := pz_undoM (z := z) (K := k - 1) (by omega)
    have hFn : pz_F n (u 7) (u 8) (u 9) (u 10) (u 11) (y 151) := pz_F_congr hF0 b0 b1 b2 b3 b4 (fun i hi => by rw [y2 i hi, show k - 1 - 0 = k - 1 by omega]; rfl) hW.1
    refine ⟨1, px_up (px_up u 145 10 (-2)) 145 13 0, y, ?_, ?_, ?_, ?_, Or.inl ⟨rfl, rfl⟩, ?_, ?_⟩
    · unfold f_R_undo
      rw [e1, Option.bind_some]
      rfl
    · unfold f_M_undo
      rw [u2, if_neg (by omega), pz_wr_pred (by omega), show (k : Int) - 1 = ((k - 1 : Nat) : Int) by omega]
      exact e2
    · -- the world: the book stands as it was
      have hmid : pz_W n (pz_wo (fun c i => if 7 ≤ c ∧ c ≤ 11 then u c i else s c i)) (fun c i => if c = 151 then y c i else (px_up z 150 0 0) c i) := by
        refine pz_W_F8 hW (fun c i hc => ?_) (fun c i hc => ?_) hFn hW.2.2.2.2.2.2.2.2
        · simp only [List.mem_cons, List.not_mem_nil, or_false] at hc
          exact if_neg (by omega)
        · simp only [List.mem_cons, List.not_mem_nil, or_false] at hc
          exact if_neg (by omega)
      refine pz_W_ek hmid (fun c i hk' => ?_) (fun c i hk' => ?_)
      · unfold pz_kR at hk'
        simp only [Bool.and_eq_true, decide_eq_true_eq] at hk'
        have := pz_ku_lt hk'.2
        show px_up (px_up u 145 10 (-2)) 145 13 0 c i = if 7 ≤ c ∧ c ≤ 11 then u c i else s c i
        rw [pz_up_c (by omega), pz_up_c (by omega)]
        split
        · rfl
        · exact a3 c i (by omega) (by omega)
      · show y c i = if c = 151 then y c i else (px_up z 150 0 0) c i
        split
        · rfl
        · rename_i hc
          have := pz_kp_hi hk'
          rw [y1 c i (by simp only [List.mem_singleton]; exact hc), pz_up_get, if_neg]
          intro q
          rw [q.1, q.2] at hk'
          cases hk'
    · refine ⟨k - 1, (r + 5) % 6, by omega, Nat.mod_lt _ (by decide), a2, y1 150 3 (by decide), a1, fun j hj => ?_⟩
      have hm := Nat.mod_lt ((r + 5) % 6 + 6 - j) (show 0 < 6 by decide)
      have hx : ((r + 5) % 6 + 6 - j) % 6 = (r + 6 - (j + 1)) % 6 := by omega
      have hc : ∀ c, 90 ≤ c → c < 120 → (px_up (px_up u 145 10 (-2)) 145 13 0) c = s c := fun c q1 q2 => funext (fun i => ((pz_up_c (by omega)).trans (pz_up_c (by omega))).trans (a3 c i (by omega) (by omega)))
      have hy : (fun i => y 152 (40 * (k - 1 - 1 - j) + i)) = (fun i => (px_up z 150 0 0) 152 (40 * (k - 1 - (j + 1)) + i)) := funext (fun i => by rw [show k - 1 - 1 - j = k - 1 - (j + 1) by omega]; exact y1 152 _ (by decide))
      rw [hc _ (by omega) (by omega), hc _ (by omega) (by omega), hc _ (by omega) (by omega), hc _ (by omega) (by omega), hc _ (by omega) (by omega), hy, hx]
      exact hF (j + 1) (by omega)
    · intro c i hk'
      have := of_decide_eq_true hk'
      rw [pz_up_c (by omega), pz_up_c (by omega)]
      exact a3 c i (by omega) (by omega)
    · intro c i hk'
      have := of_decide_eq_true hk'
      rw [y1 c i (by simp only [List.mem_singleton]; omega), pz_up_get, if_neg (by omega), pz_up_get, if_neg (by omega)]
