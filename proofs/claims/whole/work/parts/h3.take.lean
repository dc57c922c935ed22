/-! TEXT: what was read is taken -/
theorem pt_U0 {n m : Nat} {s t : px_Z} (h : pz_U n s) (h1 : t 88 2 = 0) (h2 : t 150 3 = 0) (h3 : t 88 1 = s 88 1) : pz_U m t := pz_U_zero h h1 h2 h3
theorem pt_take2 (v : px_Z) : ∃ y, f_R_takeText v 2 = some (v 132 0, y) ∧ y 28 0 = v 132 0 ∧ (∀ i, i < 24 → y 29 i = v 133 i ∧ y 30 i = v 134 i ∧ y 31 i = v 135 i ∧ y 32 i = v 136 i ∧ y 33 i = v 137 i) ∧ (∀ c j, ¬ (28 ≤ c ∧ c ≤ 33) → ¬ (c = 88 ∧ j = 2) → ¬ (c = 145 ∧ (j = 10 ∨ j = 13)) → y c j = v c j) ∧ y 88 2 = 0 ∧ pz_fg y := by
  refine ⟨px_cp (px_cp (px_cp (px_cp (px_cp (px_up (px_up (px_up (px_up (px_up (px_up v 88 2 0) 145 10 (-2)) 145 13 0) 145 10 (-2)) 145 13 0) 28 0 (v 132 0)) 133 29 0 0 24) 134 30 0 0 24) 135 31 0 0 24) 136 32 0 0 24) 137 33 0 0 24, rfl, ?_, fun i hi => ⟨?_, ?_, ?_, ?_, ?_⟩, fun c j h1 h2 h3 => ?_, ?_, ?_⟩
  · rw [pz_cp_c (by decide), pz_cp_c (by decide), pz_cp_c (by decide), pz_cp_c (by decide), pz_cp_c (by decide), pt_upi]
  · rw [pz_cp_c (by decide), pz_cp_c (by decide), pz_cp_c (by decide), pz_cp_c (by decide), pz_cp_s hi, pt_upn (by omega), pt_upn (by omega), pt_upn (by omega), pt_upn (by omega), pt_upn (by omega), pt_upn (by omega)]
  · rw [pz_cp_c (by decide), pz_cp_c (by decide), pz_cp_c (by decide), pz_cp_s hi, pz_cp_c (by decide), pt_upn (by omega), pt_upn (by omega), pt_upn (by omega), pt_upn (by omega), pt_upn (by omega), pt_upn (by omega)]
  · rw [pz_cp_c (by decide), pz_cp_c (by decide), pz_cp_s hi, pz_cp_c (by decide), pz_cp_c (by decide), pt_upn (by omega), pt_upn (by omega), pt_upn (by omega), pt_upn (by omega), pt_upn (by omega), pt_upn (by omega)]
  · rw [pz_cp_c (by decide), pz_cp_s hi, pz_cp_c (by decide), pz_cp_c (by decide), pz_cp_c (by decide), pt_upn (by omega), pt_upn (by omega), pt_upn (by omega), pt_upn (by omega), pt_upn (by omega), pt_upn (by omega)]
  · rw [pz_cp_s hi, pz_cp_c (by decide), pz_cp_c (by decide), pz_cp_c (by decide), pz_cp_c (by decide), pt_upn (by omega), pt_upn (by omega), pt_upn (by omega), pt_upn (by omega), pt_upn (by omega), pt_upn (by omega)]
  · rw [pz_cp_c (by omega), pz_cp_c (by omega), pz_cp_c (by omega), pz_cp_c (by omega), pz_cp_c (by omega), pt_upn (by omega), pt_upn (by omega), pt_upn (by omega), pt_upn (by omega), pt_upn (by omega), pt_upn (by omega)]
  · rw [pz_cp_c (by omega), pz_cp_c (by omega), pz_cp_c (by omega), pz_cp_c (by omega), pz_cp_c (by omega), pt_upn (by omega), pt_upn (by omega), pt_upn (by omega), pt_upn (by omega), pt_upn (by omega), pt_upi]
  · exact ⟨rfl, rfl⟩
theorem pt_take3 (v : px_Z) : ∃ y, f_R_takeText v 3 = some (v 121 13, y) ∧ y 6 7 = v 121 13 ∧ (∀ i, i < 8 → y 13 i = v 142 i) ∧ (∀ c j, c ≠ 13 → ¬ (c = 6 ∧ j = 7) → ¬ (c = 88 ∧ j = 2) → ¬ (c = 145 ∧ (j = 10 ∨ j = 13)) → y c j = v c j) ∧ y 88 2 = 0 ∧ pz_fg y := by
  refine ⟨px_up (px_cp (px_up (px_up (px_up (px_up (px_up v 88 2 0) 145 10 (-2)) 145 13 0) 145 10 (-2)) 145 13 0) 142 13 0 0 8) 6 7 (v 121 13), rfl, pt_upi, fun i hi => ?_, fun c j h1 h2 h3 h4 => ?_, ?_, ?_⟩
  · rw [pt_upn (by omega), pz_cp_s hi, pt_upn (by omega), pt_upn (by omega), pt_upn (by omega), pt_upn (by omega), pt_upn (by omega)]
  · rw [pt_upn (by omega), pz_cp_c (by omega), pt_upn (by omega), pt_upn (by omega), pt_upn (by omega), pt_upn (by omega), pt_upn (by omega)]
  · rw [pt_upn (by omega), pz_cp_c (by omega), pt_upn (by omega), pt_upn (by omega), pt_upn (by omega), pt_upn (by omega), pt_upi]
  · exact ⟨rfl, rfl⟩
theorem pt_take4 (v : px_Z) : ∃ y, f_R_takeText v 4 = some (v 138 0, y) ∧ y 34 0 = v 138 0 ∧ (∀ i, i < 60 → y 35 i = v 139 i ∧ y 36 i = v 140 i ∧ y 37 i = v 141 i) ∧ (∀ c j, ¬ (34 ≤ c ∧ c ≤ 37) → ¬ (c = 88 ∧ j = 2) → ¬ (c = 145 ∧ (j = 10 ∨ j = 13)) → y c j = v c j) ∧ y 88 2 = 0 ∧ pz_fg y := by
  refine ⟨px_cp (px_cp (px_cp (px_up (px_up (px_up (px_up (px_up (px_up v 88 2 0) 145 10 (-2)) 145 13 0) 145 10 (-2)) 145 13 0) 34 0 (v 138 0)) 139 35 0 0 60) 140 36 0 0 60) 141 37 0 0 60, rfl, ?_, fun i hi => ⟨?_, ?_, ?_⟩, fun c j h1 h2 h3 => ?_, ?_, ?_⟩
  · rw [pz_cp_c (by decide), pz_cp_c (by decide), pz_cp_c (by decide), pt_upi]
  · rw [pz_cp_c (by decide), pz_cp_c (by decide), pz_cp_s hi, pt_upn (by omega), pt_upn (by omega), pt_upn (by omega), pt_upn (by omega), pt_upn (by omega), pt_upn (by omega)]
  · rw [pz_cp_c (by decide), pz_cp_s hi, pz_cp_c (by decide), pt_upn (by omega), pt_upn (by omega), pt_upn (by omega), pt_upn (by omega), pt_upn (by omega), pt_upn (by omega)]
  · rw [pz_cp_s hi, pz_cp_c (by decide), pz_cp_c (by decide), pt_upn (by omega), pt_upn (by omega), pt_upn (by omega), pt_upn (by omega), pt_upn (by omega), pt_upn (by omega)]
  · rw [pz_cp_c (by omega), pz_cp_c (by omega), pz_cp_c (by omega), pt_upn (by omega), pt_upn (by omega), pt_upn (by omega), pt_upn (by omega), pt_upn (by omega), pt_upn (by omega)]
  · rw [pz_cp_c (by omega), pz_cp_c (by omega), pz_cp_c (by omega), pt_upn (by omega), pt_upn (by omega), pt_upn (by omega), pt_upn (by omega), pt_upn (by omega), pt_upi]
  · exact ⟨rfl, rfl⟩
theorem pt_take0 (v : px_Z) : ∃ y, f_R_takeText v 0 = some (v 125 0, y) ∧ y 14 0 = v 125 0 ∧ y 14 1 = v 125 1 ∧ (∀ i, i < 16 → y 15 i = v 126 i ∧ y 16 i = v 127 i ∧ y 17 i = v 128 i ∧ y 18 i = v 129 i) ∧ (∀ i, i < 400 → y 19 i = v 130 i) ∧ (∀ c j, ¬ (14 ≤ c ∧ c ≤ 19) → ¬ (c = 145 ∧ (j = 10 ∨ j = 13)) → y c j = v c j) ∧ pz_fg y := by
  refine ⟨px_cp (px_cp (px_cp (px_cp (px_cp (px_up (px_up (px_up (px_up v 145 10 (-2)) 145 13 0) 14 0 (v 125 0)) 14 1 (v 125 1)) 126 15 0 0 16) 127 16 0 0 16) 128 17 0 0 16) 129 18 0 0 16) 130 19 0 0 400, rfl, ?_, ?_, fun i hi => ⟨?_, ?_, ?_, ?_⟩, fun i hi => ?_, fun c j h1 h2 => ?_, ?_⟩
  · rw [pz_cp_c (by decide), pz_cp_c (by decide), pz_cp_c (by decide), pz_cp_c (by decide), pz_cp_c (by decide), pt_upn (by omega), pt_upi]
  · rw [pz_cp_c (by decide), pz_cp_c (by decide), pz_cp_c (by decide), pz_cp_c (by decide), pz_cp_c (by decide), pt_upi]
  · rw [pz_cp_c (by decide), pz_cp_c (by decide), pz_cp_c (by decide), pz_cp_c (by decide), pz_cp_s hi, pt_upn (by omega), pt_upn (by omega), pt_upn (by omega), pt_upn (by omega)]
  · rw [pz_cp_c (by decide), pz_cp_c (by decide), pz_cp_c (by decide), pz_cp_s hi, pz_cp_c (by decide), pt_upn (by omega), pt_upn (by omega), pt_upn (by omega), pt_upn (by omega)]
  · rw [pz_cp_c (by decide), pz_cp_c (by decide), pz_cp_s hi, pz_cp_c (by decide), pz_cp_c (by decide), pt_upn (by omega), pt_upn (by omega), pt_upn (by omega), pt_upn (by omega)]
  · rw [pz_cp_c (by decide), pz_cp_s hi, pz_cp_c (by decide), pz_cp_c (by decide), pz_cp_c (by decide), pt_upn (by omega), pt_upn (by omega), pt_upn (by omega), pt_upn (by omega)]
  · rw [pz_cp_s hi, pz_cp_c (by decide), pz_cp_c (by decide), pz_cp_c (by decide), pz_cp_c (by decide), pt_upn (by omega), pt_upn (by omega), pt_upn (by omega), pt_upn (by omega)]
  · rw [pz_cp_c (by omega), pz_cp_c (by omega), pz_cp_c (by omega), pz_cp_c (by omega), pz_cp_c (by omega), pt_upn (by omega), pt_upn (by omega), pt_upn (by omega), pt_upn (by omega)]
  · exact ⟨rfl, rfl⟩
theorem pt_take1 (v : px_Z) : ∃ y, f_R_takeText v 1 = some (v 125 0, y) ∧ y 21 0 = v 125 0 ∧ y 21 1 = v 125 1 ∧ (∀ i, i < 16 → y 22 i = v 126 i ∧ y 23 i = v 127 i ∧ y 24 i = v 128 i ∧ y 25 i = v 129 i) ∧ (∀ i, i < 400 → y 26 i = v 130 i) ∧ (∀ c j, ¬ (21 ≤ c ∧ c ≤ 26) → ¬ (c = 145 ∧ (j = 10 ∨ j = 13)) → y c j = v c j) ∧ pz_fg y := by
  refine ⟨px_cp (px_cp (px_cp (px_cp (px_cp (px_up (px_up (px_up (px_up v 145 10 (-2)) 145 13 0) 21 0 (v 125 0)) 21 1 (v 125 1)) 126 22 0 0 16) 127 23 0 0 16) 128 24 0 0 16) 129 25 0 0 16) 130 26 0 0 400, rfl, ?_, ?_, fun i hi => ⟨?_, ?_, ?_, ?_⟩, fun i hi => ?_, fun c j h1 h2 => ?_, ?_⟩
  · rw [pz_cp_c (by decide), pz_cp_c (by decide), pz_cp_c (by decide), pz_cp_c (by decide), pz_cp_c (by decide), pt_upn (by omega), pt_upi]
  · rw [pz_cp_c (by decide), pz_cp_c (by decide), pz_cp_c (by decide), pz_cp_c (by decide), pz_cp_c (by decide), pt_upi]
  · rw [pz_cp_c (by decide), pz_cp_c (by decide), pz_cp_c (by decide), pz_cp_c (by decide), pz_cp_s hi, pt_upn (by omega), pt_upn (by omega), pt_upn (by omega), pt_upn (by omega)]
  · rw [pz_cp_c (by decide), pz_cp_c (by decide), pz_cp_c (by decide), pz_cp_s hi, pz_cp_c (by decide), pt_upn (by omega), pt_upn (by omega), pt_upn (by omega), pt_upn (by omega)]
  · rw [pz_cp_c (by decide), pz_cp_c (by decide), pz_cp_s hi, pz_cp_c (by decide), pz_cp_c (by decide), pt_upn (by omega), pt_upn (by omega), pt_upn (by omega), pt_upn (by omega)]
  · rw [pz_cp_c (by decide), pz_cp_s hi, pz_cp_c (by decide), pz_cp_c (by decide), pz_cp_c (by decide), pt_upn (by omega), pt_upn (by omega), pt_upn (by omega), pt_upn (by omega)]
  · rw [pz_cp_s hi, pz_cp_c (by decide), pz_cp_c (by decide), pz_cp_c (by decide), pz_cp_c (by decide), pt_upn (by omega), pt_upn (by omega), pt_upn (by omega), pt_upn (by omega)]
  · rw [pz_cp_c (by omega), pz_cp_c (by omega), pz_cp_c (by omega), pz_cp_c (by omega), pz_cp_c (by omega), pt_upn (by omega), pt_upn (by omega), pt_upn (by omega), pt_upn (by omega)]
  · exact ⟨rfl, rfl⟩
set_option maxHeartbeats 2000000 in
theorem pt_TK2 (s : px_Z) : pt_TK s 2 pt_Rhil := by
  intro n v w1 r1 hW hU hMM hT hX vs v55 v7 v8 hR1
  have hbig : px_big = 1000000 := rfl
  obtain ⟨m, hm, hr1, hH1⟩ := hR1
  obtain ⟨y, y1, y2, y3, y4, y5, y6⟩ := pt_take2 v
  have ys : ∀ c j, pt_uv c j → ¬ (28 ≤ c ∧ c ≤ 33) → ¬ (c = 88 ∧ j = 2) → ¬ (c = 145 ∧ (j = 10 ∨ j = 13)) → y c j = s c j := fun c j h1 h2 h3 h4 => (y4 c j h2 h3 h4).trans (vs c j h1)
  refine ⟨y, by rw [y1, hH1.1, hr1], fun c j h => ys c j (by unfold pt_uv; omega) (by omega) (by omega) (by omega), fun c j h => y4 c j (by omega) (by omega) (by omega), fun w r hR hr w33 w34 w26 hw => ?_⟩
  obtain ⟨m', hm', hr', hH⟩ := hR
  have em : m' = m := by have := hH.1; have := hH1.1; omega
  subst em
  obtain ⟨V, V1, V2, V3⟩ := pt_to5 (K := fun s x1 x2 => j_M_takesOther_j25 (px_up s 150 35 x2) x1 x2) hm 2 (5 * m') px_big 0 (px_up w 150 13 0) (by omega) (by omega)
  refine ⟨px_up (px_up V 150 35 (m' : Int)) 150 3 0, ?_, ?_⟩
  · unfold j_M_text_j41
    rw [if_neg hr, if_pos (show (1 : Int) < 2 by decide), hr']
    unfold f_M_takesOther
    rw [if_pos rfl]
    have V1' : l_M_takesOther_5 (fun s x1 x2 => j_M_takesOther_j25 (px_up s 150 35 x2) x1 x2) px_big (px_up w 150 13 0) 2 (m' : Int) 0 = j_M_takesOther_j25 (px_up V 150 35 (m' : Int)) 2 (m' : Int) := V1
    rw [V1']
    unfold j_M_takesOther_j25 j_M_takesOther_j48
    rw [if_neg (show ¬ (2 : Int) = 3 by decide), if_neg (show ¬ (2 : Int) = 4 by decide), Option.bind_some, hr1]
  · have tw : ∀ c j, ¬ (c = 150 ∧ (j = 3 ∨ j = 13 ∨ j = 35)) → ¬ (c = 166 ∧ j < 5 * m') → px_up (px_up V 150 35 (m' : Int)) 150 3 0 c j = w c j := fun c j h1 h2 => by rw [pt_upn (by omega), pt_upn (by omega), V3 c j (by omega), pt_upn (by omega)]
    have ty : ∀ c j, pt_uw c j → ¬ (c = 150 ∧ (j = 3 ∨ j = 13 ∨ j = 35)) → ¬ (c = 166 ∧ j < 5 * m') → px_up (px_up V 150 35 (m' : Int)) 150 3 0 c j = y c j := fun c j h0 h1 h2 => (tw c j h1 h2).trans (hw c j h0)
    have ts : ∀ c j, pt_uw c j → pt_uv c j → ¬ (c = 150 ∧ (j = 3 ∨ j = 13 ∨ j = 35)) → ¬ (c = 166 ∧ j < 5 * m') → ¬ (28 ≤ c ∧ c ≤ 33) → ¬ (c = 88 ∧ j = 2) → ¬ (c = 145 ∧ (j = 10 ∨ j = 13)) → px_up (px_up V 150 35 (m' : Int)) 150 3 0 c j = s c j := fun c j h0 h1 h2 h3 h4 h5 h6 => (ty c j h0 h2 h3).trans (ys c j h1 h4 h5 h6)
    have tv : ∀ c j, 121 ≤ c → c ≤ 142 → px_up (px_up V 150 35 (m' : Int)) 150 3 0 c j = v c j := fun c j h1 h2 => (ty c j (by unfold pt_uw; omega) (by omega) (by omega)).trans (y4 c j (by omega) (by omega) (by omega))
    have t165 : ∀ i k, i < m' → k < 5 → px_up (px_up V 150 35 (m' : Int)) 150 3 0 166 (5 * i + k) = w 166 (120 + 5 * i + k) := fun i k h1 h2 => by rw [pt_upn (by omega), pt_upn (by omega), V2 _ (by omega) (by omega), pt_upn (by omega), show 120 + (5 * i + k) = 120 + 5 * i + k by omega]
    obtain ⟨t, ht⟩ : ∃ t : px_Z, px_up (px_up V 150 35 (m' : Int)) 150 3 0 = t := ⟨_, rfl⟩
    have t35 : t 150 35 = (m' : Int) := by rw [← ht, pt_upn (by omega), pt_upi]
    have t3 : t 150 3 = 0 := by rw [← ht, pt_upi]
    have t13 : t 150 13 = 0 := by rw [← ht, pt_upn (by omega), pt_upn (by omega), V3 150 13 (by omega), pt_upi]
    rw [ht] at tw ty ts tv t165 ⊢
    obtain ⟨hn, w1', wF, w3, w4, w5, w6, w7, w8⟩ := hW
    refine pt_fin ⟨hn, w1', wF, w3, w4, w5, w6, w7, w8⟩ hMM hT hX (fun c j h => ts c j (by unfold pt_un at h; unfold pt_uw; omega) (by unfold pt_un at h; unfold pt_uv; omega) (by unfold pt_un at h; omega) (by unfold pt_un at h; omega) (by unfold pt_un at h; omega) (by unfold pt_un at h; omega) (by unfold pt_un at h; omega)) ?_ (pt_W3k w3 (fun i => ts 12 i (by unfold pt_uw; omega) (by unfold pt_uv; omega) (by omega) (by omega) (by omega) (by omega) (by omega)) (fun i hi => ts 13 i (by unfold pt_uw; omega) (by unfold pt_uv; omega) (by omega) (by omega) (by omega) (by omega) (by omega)) (fun i => ts 154 i (by unfold pt_uw; omega) (by unfold pt_uv; omega) (by omega) (by omega) (by omega) (by omega) (by omega)) (fun i hi => ts 167 i (by unfold pt_uw; omega) (by unfold pt_uv; omega) (by omega) (by omega) (by omega) (by omega) (by omega))) (pt_W4k w4 (fun c i q1 q2 => ts c i (by unfold pt_uw; omega) (by unfold pt_uv; omega) (by omega) (by omega) (by omega) (by omega) (by omega)) (fun j => ts 158 j (by unfold pt_uw; omega) (by unfold pt_uv; omega) (by omega) (by omega) (by omega) (by omega) (by omega)) (fun c i q1 q2 q3 => ts c i (by unfold pt_uw; omega) (by unfold pt_uv; omega) (by omega) (by omega) (by omega) (by omega) (by omega)) (fun c i q1 q2 q3 => ts c i (by unfold pt_uw; omega) (by unfold pt_uv; omega) (by omega) (by omega) (by omega) (by omega) (by omega))) ?_ (pt_W6k w6 (fun c i q1 q2 => ts c i (by unfold pt_uw; omega) (by unfold pt_uv; omega) (by omega) (by omega) (by omega) (by omega) (by omega)) (ts 150 43 (by unfold pt_uw; omega) (by unfold pt_uv; omega) (by omega) (by omega) (by omega) (by omega) (by omega)) (fun i hi => ts 171 i (by unfold pt_uw; omega) (by unfold pt_uv; omega) (by omega) (by omega) (by omega) (by omega) (by omega))) (pt_U0 hU ((ty 88 2 (by unfold pt_uw; omega) (by omega) (by omega)).trans y5) t3 (ts 88 1 (by unfold pt_uw; omega) (by unfold pt_uv; omega) (by omega) (by omega) (by omega) (by omega) (by omega))) ?_ t13 ?_ ?_ (Or.inl (pz_fg_of (ty 145 10 (by unfold pt_uw; omega) (by omega) (by omega)) (ty 145 13 (by unfold pt_uw; omega) (by omega) (by omega)) y6))
    · rw [ts 6 7 (by unfold pt_uw; omega) (by unfold pt_uv; omega) (by omega) (by omega) (by omega) (by omega) (by omega), ts 150 37 (by unfold pt_uw; omega) (by unfold pt_uv; omega) (by omega) (by omega) (by omega) (by omega) (by omega)]
      exact w1'.2.2.2.2.2.2.2.2
    · have yc : ∀ c i, 28 ≤ c → c ≤ 33 → t c i = y c i := fun c i h1 h2 => ty c i (by unfold pt_uw; omega) (by omega) (by omega)
      refine ⟨m', hm, ?_, t35, fun i hi => ?_, fun i hi => ?_⟩
      · show t 28 0 = _
        rw [yc 28 0 (by omega) (by omega), y2]; exact hH.1
      · obtain ⟨z1, z2, z3, z4, z5⟩ := y3 i (by omega)
        show t 29 i = t 166 (5 * i + 0) ∧ t 30 i = t 166 (5 * i + 1) ∧ (t 29 i = -1 → t 31 i = t 166 (5 * i + 2) ∧ t 32 i = t 166 (5 * i + 3) ∧ t 33 i = t 166 (5 * i + 4))
        rw [yc 29 i (by omega) (by omega), yc 30 i (by omega) (by omega), yc 31 i (by omega) (by omega), yc 32 i (by omega) (by omega), yc 33 i (by omega) (by omega), z1, z2, z3, z4, z5, t165 i 0 hi (by omega), t165 i 1 hi (by omega), t165 i 2 hi (by omega), t165 i 3 hi (by omega), t165 i 4 hi (by omega), show 120 + 5 * i + 0 = 120 + 5 * i by omega, show 120 + 5 * i + 1 = 121 + 5 * i by omega, show 120 + 5 * i + 2 = 122 + 5 * i by omega, show 120 + 5 * i + 3 = 123 + 5 * i by omega, show 120 + 5 * i + 4 = 124 + 5 * i by omega]
        exact (hH.2 i hi).1
      · obtain ⟨z1, z2, z3, z4, z5⟩ := y3 i (by omega)
        show -1 ≤ t 29 i ∧ t 29 i ≤ 7 ∧ 0 ≤ t 30 i ∧ t 30 i ≤ 5 ∧ (t 29 i = -1 → 0 ≤ t 31 i ∧ t 32 i ≤ 60 ∧ 0 ≤ t 33 i ∧ t 33 i ≤ 5)
        rw [yc 29 i (by omega) (by omega), yc 30 i (by omega) (by omega), yc 31 i (by omega) (by omega), yc 32 i (by omega) (by omega), yc 33 i (by omega) (by omega), z1, z2, z3, z4, z5]
        exact (hH.2 i hi).2
    · rw [ty 5 5 (by unfold pt_uw; omega) (by omega) (by omega), y4 5 5 (by omega) (by omega) (by omega)]; exact v55
    · rw [tv 121 7 (by omega) (by omega), v7, tw 150 33 (by omega) (by omega), w33]
    · rw [tv 121 8 (by omega) (by omega), v8, tw 150 34 (by omega) (by omega), w34]
set_option maxHeartbeats 2000000 in
theorem pt_TK3 (s : px_Z) : pt_TK s 3 pt_Raft := by
  intro n v w1 r1 hW hU hMM hT hX vs v55 v7 v8 hR1
  have hbig : px_big = 1000000 := rfl
  obtain ⟨m, hm, hr1, h13, hF1⟩ := hR1
  obtain ⟨y, y1, y2, y3, y4, y5, y6⟩ := pt_take3 v
  have ys : ∀ c j, pt_uv c j → c ≠ 13 → ¬ (c = 6 ∧ j = 7) → ¬ (c = 88 ∧ j = 2) → ¬ (c = 145 ∧ (j = 10 ∨ j = 13)) → y c j = s c j := fun c j h1 h2 h3 h4 h5 => (y4 c j h2 h3 h4 h5).trans (vs c j h1)
  refine ⟨y, by rw [y1, h13, hr1], fun c j h => ys c j (by unfold pt_uv; omega) (by omega) (by omega) (by omega) (by omega), fun c j h => y4 c j (by omega) (by omega) (by omega) (by omega), fun w r hR hr w33 w34 w26 hw => ?_⟩
  obtain ⟨m', hm', hr', h13', hF⟩ := hR
  have em : m' = m := by omega
  subst em
  obtain ⟨V, V1, V2, V3⟩ := pt_to30 (K := fun s x1 x2 => j_M_takesOther_j48 (px_up s 150 37 x2) x1 x2) 3 (m' : Int) 8 px_big 0 (px_up w 150 13 0) (by omega) (by omega)
  refine ⟨px_up (px_up V 150 37 (m' : Int)) 150 3 0, ?_, ?_⟩
  · unfold j_M_text_j41
    rw [if_neg hr, if_pos (show (1 : Int) < 3 by decide), hr']
    unfold f_M_takesOther
    rw [if_neg (show ¬ (3 : Int) = 2 by decide)]
    unfold j_M_takesOther_j25
    rw [if_pos rfl]
    have V1' : l_M_takesOther_30 (fun s x1 x2 => j_M_takesOther_j48 (px_up s 150 37 x2) x1 x2) px_big (px_up w 150 13 0) 3 (m' : Int) 0 = j_M_takesOther_j48 (px_up V 150 37 (m' : Int)) 3 (m' : Int) := V1
    rw [V1']
    unfold j_M_takesOther_j48
    rw [if_neg (show ¬ (3 : Int) = 4 by decide), Option.bind_some, hr1]
  · have tw : ∀ c j, ¬ (c = 150 ∧ (j = 3 ∨ j = 13 ∨ j = 37)) → ¬ (c = 167 ∧ j < 8) → px_up (px_up V 150 37 (m' : Int)) 150 3 0 c j = w c j := fun c j h1 h2 => by rw [pt_upn (by omega), pt_upn (by omega), V3 c j (by omega), pt_upn (by omega)]
    have ty : ∀ c j, pt_uw c j → ¬ (c = 150 ∧ (j = 3 ∨ j = 13 ∨ j = 37)) → ¬ (c = 167 ∧ j < 8) → px_up (px_up V 150 37 (m' : Int)) 150 3 0 c j = y c j := fun c j h0 h1 h2 => (tw c j h1 h2).trans (hw c j h0)
    have ts : ∀ c j, pt_uw c j → pt_uv c j → ¬ (c = 150 ∧ (j = 3 ∨ j = 13 ∨ j = 37)) → ¬ (c = 167 ∧ j < 8) → c ≠ 13 → ¬ (c = 6 ∧ j = 7) → ¬ (c = 88 ∧ j = 2) → ¬ (c = 145 ∧ (j = 10 ∨ j = 13)) → px_up (px_up V 150 37 (m' : Int)) 150 3 0 c j = s c j := fun c j h0 h1 h2 h3 h4 h5 h6 h7 => (ty c j h0 h2 h3).trans (ys c j h1 h4 h5 h6 h7)
    have tv : ∀ c j, 121 ≤ c → c ≤ 142 → px_up (px_up V 150 37 (m' : Int)) 150 3 0 c j = v c j := fun c j h1 h2 => (ty c j (by unfold pt_uw; omega) (by omega) (by omega)).trans (y4 c j (by omega) (by omega) (by omega) (by omega))
    have t166 : ∀ i, i < 8 → px_up (px_up V 150 37 (m' : Int)) 150 3 0 167 i = w 167 (8 + i) := fun i h1 => by rw [pt_upn (by omega), pt_upn (by omega), V2 _ (by omega) (by omega), pt_upn (by omega)]
    obtain ⟨t, ht⟩ : ∃ t : px_Z, px_up (px_up V 150 37 (m' : Int)) 150 3 0 = t := ⟨_, rfl⟩
    have t37 : t 150 37 = (m' : Int) := by rw [← ht, pt_upn (by omega), pt_upi]
    have t3 : t 150 3 = 0 := by rw [← ht, pt_upi]
    have t13 : t 150 13 = 0 := by rw [← ht, pt_upn (by omega), pt_upn (by omega), V3 150 13 (by omega), pt_upi]
    rw [ht] at tw ty ts tv t166 ⊢
    obtain ⟨hn, w1', wF, w3, w4, w5, w6, w7, w8⟩ := hW
    refine pt_fin ⟨hn, w1', wF, w3, w4, w5, w6, w7, w8⟩ hMM hT hX (fun c j h => ts c j (by unfold pt_un at h; unfold pt_uw; omega) (by unfold pt_un at h; unfold pt_uv; omega) (by unfold pt_un at h; omega) (by unfold pt_un at h; omega) (by unfold pt_un at h; omega) (by unfold pt_un at h; omega) (by unfold pt_un at h; omega) (by unfold pt_un at h; omega)) ?_ ?_ (pt_W4k w4 (fun c i q1 q2 => ts c i (by unfold pt_uw; omega) (by unfold pt_uv; omega) (by omega) (by omega) (by omega) (by omega) (by omega) (by omega)) (fun j => ts 158 j (by unfold pt_uw; omega) (by unfold pt_uv; omega) (by omega) (by omega) (by omega) (by omega) (by omega) (by omega)) (fun c i q1 q2 q3 => ts c i (by unfold pt_uw; omega) (by unfold pt_uv; omega) (by omega) (by omega) (by omega) (by omega) (by omega) (by omega)) (fun c i q1 q2 q3 => ts c i (by unfold pt_uw; omega) (by unfold pt_uv; omega) (by omega) (by omega) (by omega) (by omega) (by omega) (by omega))) (pt_W5k w5 (fun c i q1 q2 => ts c i (by unfold pt_uw; omega) (by unfold pt_uv; omega) (by omega) (by omega) (by omega) (by omega) (by omega) (by omega)) (ts 150 35 (by unfold pt_uw; omega) (by unfold pt_uv; omega) (by omega) (by omega) (by omega) (by omega) (by omega) (by omega)) (fun i hi => ts 166 i (by unfold pt_uw; omega) (by unfold pt_uv; omega) (by omega) (by omega) (by omega) (by omega) (by omega) (by omega))) (pt_W6k w6 (fun c i q1 q2 => ts c i (by unfold pt_uw; omega) (by unfold pt_uv; omega) (by omega) (by omega) (by omega) (by omega) (by omega) (by omega)) (ts 150 43 (by unfold pt_uw; omega) (by unfold pt_uv; omega) (by omega) (by omega) (by omega) (by omega) (by omega) (by omega)) (fun i hi => ts 171 i (by unfold pt_uw; omega) (by unfold pt_uv; omega) (by omega) (by omega) (by omega) (by omega) (by omega) (by omega))) (pt_U0 hU ((ty 88 2 (by unfold pt_uw; omega) (by omega) (by omega)).trans y5) t3 (ts 88 1 (by unfold pt_uw; omega) (by unfold pt_uv; omega) (by omega) (by omega) (by omega) (by omega) (by omega) (by omega))) ?_ t13 ?_ ?_ (Or.inl (pz_fg_of (ty 145 10 (by unfold pt_uw; omega) (by omega) (by omega)) (ty 145 13 (by unfold pt_uw; omega) (by omega) (by omega)) y6))
    · rw [ty 6 7 (by unfold pt_uw; omega) (by omega) (by omega), y2, h13, t37]
    · intro i hi
      show t 12 i = t 154 i ∧ t 13 i = t 167 i ∧ 0 ≤ t 167 i ∧ t 167 i < 256
      rw [ts 12 i (by unfold pt_uw; omega) (by unfold pt_uv; omega) (by omega) (by omega) (by omega) (by omega) (by omega) (by omega), ts 154 i (by unfold pt_uw; omega) (by unfold pt_uv; omega) (by omega) (by omega) (by omega) (by omega) (by omega) (by omega), ty 13 i (by unfold pt_uw; omega) (by omega) (by omega), y3 i hi, t166 i hi]
      exact ⟨(w3 i hi).1, hF.2.2.2 i hi⟩
    · rw [ty 5 5 (by unfold pt_uw; omega) (by omega) (by omega), y4 5 5 (by omega) (by omega) (by omega) (by omega)]; exact v55
    · rw [tv 121 7 (by omega) (by omega), v7, tw 150 33 (by omega) (by omega), w33]
    · rw [tv 121 8 (by omega) (by omega), v8, tw 150 34 (by omega) (by omega), w34]
set_option maxHeartbeats 2000000 in
theorem pt_TK4 (s : px_Z) : pt_TK s 4 pt_Rpla := by
  intro n v w1 r1 hW hU hMM hT hX vs v55 v7 v8 hR1
  have hbig : px_big = 1000000 := rfl
  obtain ⟨m, hm, hr1, h138, hF1⟩ := hR1
  obtain ⟨y, y1, y2, y3, y4, y5, y6⟩ := pt_take4 v
  have ys : ∀ c j, pt_uv c j → ¬ (34 ≤ c ∧ c ≤ 37) → ¬ (c = 88 ∧ j = 2) → ¬ (c = 145 ∧ (j = 10 ∨ j = 13)) → y c j = s c j := fun c j h1 h2 h3 h4 => (y4 c j h2 h3 h4).trans (vs c j h1)
  refine ⟨y, by rw [y1, h138, hr1], fun c j h => ys c j (by unfold pt_uv; omega) (by omega) (by omega) (by omega), fun c j h => y4 c j (by omega) (by omega) (by omega), fun w r hR hr w33 w34 w26 hw => ?_⟩
  obtain ⟨m', hm', hr', h138', hF⟩ := hR
  have em : m' = m := by omega
  subst em
  obtain ⟨V, V1, V2, V3⟩ := pt_to53 (K := fun s x2 => some (px_up (px_up s 150 43 x2) 150 3 0)) hm (3 * m') px_big 0 (px_up w 150 13 0) (by omega) (by omega)
  refine ⟨px_up (px_up V 150 43 (m' : Int)) 150 3 0, ?_, ?_⟩
  · unfold j_M_text_j41
    rw [if_neg hr, if_pos (show (1 : Int) < 4 by decide), hr']
    unfold f_M_takesOther
    rw [if_neg (show ¬ (4 : Int) = 2 by decide)]
    unfold j_M_takesOther_j25
    rw [if_neg (show ¬ (4 : Int) = 3 by decide)]
    unfold j_M_takesOther_j48
    rw [if_pos rfl]
    have V1' : l_M_takesOther_53 (fun s x2 => some (px_up (px_up s 150 43 x2) 150 3 0)) px_big (px_up w 150 13 0) (m' : Int) 0 = some (px_up (px_up V 150 43 (m' : Int)) 150 3 0) := V1
    rw [V1', Option.bind_some, hr1]
  · have tw : ∀ c j, ¬ (c = 150 ∧ (j = 3 ∨ j = 13 ∨ j = 43)) → ¬ (c = 171 ∧ j < 3 * m') → px_up (px_up V 150 43 (m' : Int)) 150 3 0 c j = w c j := fun c j h1 h2 => by rw [pt_upn (by omega), pt_upn (by omega), V3 c j (by omega), pt_upn (by omega)]
    have ty : ∀ c j, pt_uw c j → ¬ (c = 150 ∧ (j = 3 ∨ j = 13 ∨ j = 43)) → ¬ (c = 171 ∧ j < 3 * m') → px_up (px_up V 150 43 (m' : Int)) 150 3 0 c j = y c j := fun c j h0 h1 h2 => (tw c j h1 h2).trans (hw c j h0)
    have ts : ∀ c j, pt_uw c j → pt_uv c j → ¬ (c = 150 ∧ (j = 3 ∨ j = 13 ∨ j = 43)) → ¬ (c = 171 ∧ j < 3 * m') → ¬ (34 ≤ c ∧ c ≤ 37) → ¬ (c = 88 ∧ j = 2) → ¬ (c = 145 ∧ (j = 10 ∨ j = 13)) → px_up (px_up V 150 43 (m' : Int)) 150 3 0 c j = s c j := fun c j h0 h1 h2 h3 h4 h5 h6 => (ty c j h0 h2 h3).trans (ys c j h1 h4 h5 h6)
    have tv : ∀ c j, 121 ≤ c → c ≤ 142 → px_up (px_up V 150 43 (m' : Int)) 150 3 0 c j = v c j := fun c j h1 h2 => (ty c j (by unfold pt_uw; omega) (by omega) (by omega)).trans (y4 c j (by omega) (by omega) (by omega))
    have t170 : ∀ i, i < 3 * m' → px_up (px_up V 150 43 (m' : Int)) 150 3 0 171 i = w 171 (180 + i) := fun i h1 => by rw [pt_upn (by omega), pt_upn (by omega), V2 _ (by omega) h1, pt_upn (by omega)]
    obtain ⟨t, ht⟩ : ∃ t : px_Z, px_up (px_up V 150 43 (m' : Int)) 150 3 0 = t := ⟨_, rfl⟩
    have t43 : t 150 43 = (m' : Int) := by rw [← ht, pt_upn (by omega), pt_upi]
    have t3 : t 150 3 = 0 := by rw [← ht, pt_upi]
    have t13 : t 150 13 = 0 := by rw [← ht, pt_upn (by omega), pt_upn (by omega), V3 150 13 (by omega), pt_upi]
    rw [ht] at tw ty ts tv t170 ⊢
    obtain ⟨hn, w1', wF, w3, w4, w5, w6, w7, w8⟩ := hW
    refine pt_fin ⟨hn, w1', wF, w3, w4, w5, w6, w7, w8⟩ hMM hT hX (fun c j h => ts c j (by unfold pt_un at h; unfold pt_uw; omega) (by unfold pt_un at h; unfold pt_uv; omega) (by unfold pt_un at h; omega) (by unfold pt_un at h; omega) (by unfold pt_un at h; omega) (by unfold pt_un at h; omega) (by unfold pt_un at h; omega)) ?_ (pt_W3k w3 (fun i => ts 12 i (by unfold pt_uw; omega) (by unfold pt_uv; omega) (by omega) (by omega) (by omega) (by omega) (by omega)) (fun i hi => ts 13 i (by unfold pt_uw; omega) (by unfold pt_uv; omega) (by omega) (by omega) (by omega) (by omega) (by omega)) (fun i => ts 154 i (by unfold pt_uw; omega) (by unfold pt_uv; omega) (by omega) (by omega) (by omega) (by omega) (by omega)) (fun i hi => ts 167 i (by unfold pt_uw; omega) (by unfold pt_uv; omega) (by omega) (by omega) (by omega) (by omega) (by omega))) (pt_W4k w4 (fun c i q1 q2 => ts c i (by unfold pt_uw; omega) (by unfold pt_uv; omega) (by omega) (by omega) (by omega) (by omega) (by omega)) (fun j => ts 158 j (by unfold pt_uw; omega) (by unfold pt_uv; omega) (by omega) (by omega) (by omega) (by omega) (by omega)) (fun c i q1 q2 q3 => ts c i (by unfold pt_uw; omega) (by unfold pt_uv; omega) (by omega) (by omega) (by omega) (by omega) (by omega)) (fun c i q1 q2 q3 => ts c i (by unfold pt_uw; omega) (by unfold pt_uv; omega) (by omega) (by omega) (by omega) (by omega) (by omega))) (pt_W5k w5 (fun c i q1 q2 => ts c i (by unfold pt_uw; omega) (by unfold pt_uv; omega) (by omega) (by omega) (by omega) (by omega) (by omega)) (ts 150 35 (by unfold pt_uw; omega) (by unfold pt_uv; omega) (by omega) (by omega) (by omega) (by omega) (by omega)) (fun i hi => ts 166 i (by unfold pt_uw; omega) (by unfold pt_uv; omega) (by omega) (by omega) (by omega) (by omega) (by omega))) ?_ (pt_U0 hU ((ty 88 2 (by unfold pt_uw; omega) (by omega) (by omega)).trans y5) t3 (ts 88 1 (by unfold pt_uw; omega) (by unfold pt_uv; omega) (by omega) (by omega) (by omega) (by omega) (by omega))) ?_ t13 ?_ ?_ (Or.inl (pz_fg_of (ty 145 10 (by unfold pt_uw; omega) (by omega) (by omega)) (ty 145 13 (by unfold pt_uw; omega) (by omega) (by omega)) y6))
    · rw [ts 6 7 (by unfold pt_uw; omega) (by unfold pt_uv; omega) (by omega) (by omega) (by omega) (by omega) (by omega), ts 150 37 (by unfold pt_uw; omega) (by unfold pt_uv; omega) (by omega) (by omega) (by omega) (by omega) (by omega)]
      exact w1'.2.2.2.2.2.2.2.2
    · have yc : ∀ c i, 34 ≤ c → c ≤ 37 → t c i = y c i := fun c i h1 h2 => ty c i (by unfold pt_uw; omega) (by omega) (by omega)
      refine ⟨m', hm, ?_, t43, fun k hk => ?_⟩
      · show t 34 0 = _
        rw [yc 34 0 (by omega) (by omega), y2, h138]
      · obtain ⟨z1, z2, z3⟩ := y3 k (by omega)
        show t 35 k = 280 + t 171 (3 * k) ∧ t 36 k = t 171 (3 * k + 1) ∧ ((t 171 (3 * k) = 0 ∧ t 37 k = t 171 (3 * k + 2) ∧ 0 ≤ t 36 k ∧ t 36 k < (n : Int) ∧ 0 ≤ t 37 k ∧ t 37 k ≤ 5) ∨ ((t 171 (3 * k) = 1 ∨ t 171 (3 * k) = 2) ∧ 1 ≤ t 36 k ∧ t 36 k ≤ 20))
        rw [yc 35 k (by omega) (by omega), yc 36 k (by omega) (by omega), yc 37 k (by omega) (by omega), z1, z2, z3, t170 (3 * k) (by omega), t170 (3 * k + 1) (by omega), t170 (3 * k + 2) (by omega), show 180 + (3 * k + 1) = 181 + 3 * k by omega, show 180 + (3 * k + 2) = 182 + 3 * k by omega]
        exact hF k hk
    · rw [ty 5 5 (by unfold pt_uw; omega) (by omega) (by omega), y4 5 5 (by omega) (by omega) (by omega)]; exact v55
    · rw [tv 121 7 (by omega) (by omega), v7, tw 150 33 (by omega) (by omega), w33]
    · rw [tv 121 8 (by omega) (by omega), v8, tw 150 34 (by omega) (by omega), w34]
set_option maxHeartbeats 2000000 in
theorem pt_TK0 (s : px_Z) : pt_TK s 0 pt_Rlaw := by
  intro n v w1 r1 hW hU hMM hT hX vs v55 v7 v8 hR1
  obtain ⟨n1, m, hn1, hm, hr1, hLN1, h1251, _, _⟩ := hR1
  obtain ⟨y, y1, y2, y3, y4, y5, y6, y7⟩ := pt_take0 v
  have ys : ∀ c j, pt_uv c j → ¬ (14 ≤ c ∧ c ≤ 19) → ¬ (c = 145 ∧ (j = 10 ∨ j = 13)) → y c j = s c j := fun c j h1 h2 h4 => (y6 c j h2 h4).trans (vs c j h1)
  refine ⟨y, by rw [y1, hLN1.1, hr1], fun c j h => ys c j (by unfold pt_uv; omega) (by omega) (by omega), fun c j h => y6 c j (by omega) (by omega), fun w r hR hr w33 w34 w26 hw => ?_⟩
  obtain ⟨n2, m2, hn2, hm2, hr2, hLN, h1251', h27, hcr⟩ := hR
  have en : n2 = n1 := by have := hLN.1; have := hLN1.1; omega
  have em : m2 = m := by omega
  subst en; subst em
  obtain ⟨t, T1, T2, T3, T4, T5⟩ := pt_tlaw (s := px_up w 150 13 0) (k := 0) (n := n2) (m := m2) (by decide) hn1 hm ((pt_upn (by omega)).trans w26) ((pt_upn (by omega)).trans h27)
  refine ⟨t, ?_, ?_⟩
  · unfold j_M_text_j41
    rw [if_neg hr, if_neg (show ¬ (1 : Int) < 0 by decide), hr2, T1, Option.bind_some, hr1]
  · have tw : ∀ c j, ¬ (c = 150 ∧ j = 13) → ¬ (c = 158 ∧ j = 0) → ¬ (159 ≤ c ∧ c ≤ 162 ∧ 16 * 0 ≤ j ∧ j < 16 * 0 + n2) → ¬ (163 ≤ c ∧ c ≤ 164 ∧ 400 * 0 ≤ j ∧ j < 400 * 0 + m2) → t c j = w c j := fun c j h0 h1 h2 h3 => (T5 c j h1 h2 h3).trans (pt_upn (by omega))
    have ty : ∀ c j, pt_uw c j → ¬ (c = 150 ∧ j = 13) → ¬ (c = 158 ∧ j = 0) → ¬ (159 ≤ c ∧ c ≤ 162 ∧ 16 * 0 ≤ j ∧ j < 16 * 0 + n2) → ¬ (163 ≤ c ∧ c ≤ 164 ∧ 400 * 0 ≤ j ∧ j < 400 * 0 + m2) → t c j = y c j := fun c j h0 h1 h2 h3 h4 => (tw c j h1 h2 h3 h4).trans (hw c j h0)
    have ts : ∀ c j, pt_uw c j → pt_uv c j → ¬ (c = 150 ∧ j = 13) → ¬ (c = 158 ∧ j = 0) → ¬ (159 ≤ c ∧ c ≤ 162 ∧ 16 * 0 ≤ j ∧ j < 16 * 0 + n2) → ¬ (163 ≤ c ∧ c ≤ 164 ∧ 400 * 0 ≤ j ∧ j < 400 * 0 + m2) → ¬ (14 ≤ c ∧ c ≤ 19) → ¬ (c = 145 ∧ (j = 10 ∨ j = 13)) → t c j = s c j := fun c j h0 h1 h2 h3 h4 h5 h6 h7 => (ty c j h0 h2 h3 h4 h5).trans (ys c j h1 h6 h7)
    have tv : ∀ c j, 121 ≤ c → c ≤ 142 → t c j = v c j := fun c j h1 h2 => (ty c j (by unfold pt_uw; omega) (by omega) (by omega) (by omega) (by omega)).trans (y6 c j (by omega) (by omega))
    have yc : ∀ c i, 14 ≤ c → c ≤ 19 → t c i = y c i := fun c i h1 h2 => ty c i (by unfold pt_uw; omega) (by omega) (by omega) (by omega) (by omega)
    have t13 : t 150 13 = 0 := (T5 150 13 (by omega) (by omega) (by omega)).trans pt_upi
    obtain ⟨hn, w1', wF, w3, w4, w5, w6, w7, w8⟩ := hW
    have w4c := w4
    obtain ⟨_, ⟨mo, w4o1, w4o2⟩⟩ := w4c
    have e130 : ∀ i, i < 400 → t 19 i = v 130 i := fun i hi => (yc 19 i (by omega) (by omega)).trans (y5 i hi)
    have new : pz_WL 0 n2 (t 14 1) (t 15) (t 16) (t 17) (t 18) (t 19) t := by
      have e1 : t 14 1 = (m2 : Int) := by rw [yc 14 1 (by omega) (by omega), y3, h1251]
      have el : ∀ l, l < n2 → t 15 l = v 126 l ∧ t 16 l = v 127 l ∧ t 17 l = v 128 l ∧ t 18 l = v 129 l := fun l hl => by
        rw [yc 15 l (by omega) (by omega), yc 16 l (by omega) (by omega), yc 17 l (by omega) (by omega), yc 18 l (by omega) (by omega)]
        exact y4 l (by omega)
      rw [e1]
      refine ⟨⟨hn1, T2, fun l hl => ?_⟩, Int.natCast_nonneg _, by omega, fun l hl => ?_, fun hj i hi => ?_⟩
      · obtain ⟨⟨r1, r2, r3, r4⟩, r5, r6⟩ := hLN.2 l hl
        obtain ⟨e2, e3, e4, e5⟩ := el l hl
        have r5' : 0 ≤ v 127 l ∧ v 127 l ≤ v 128 l ∧ v 128 l ≤ v 129 l ∧ v 129 l ≤ 400 ∧ (∃ t, pz_ty (v 130) ((v 128 l).toNat - (v 127 l).toNat) (v 127 l).toNat [] = some [t] ∧ t ≠ 1) ∧ (v 128 l ≠ v 129 l → pz_ty (v 130) ((v 129 l).toNat - (v 128 l).toNat) (v 128 l).toNat [] = some [1]) := r5
        obtain ⟨q1, q2, q3, q4, ⟨tt, q5, q6⟩, q7⟩ := r5'
        show (0 ≤ t 16 l ∧ t 16 l ≤ t 17 l ∧ t 17 l ≤ t 18 l ∧ t 18 l ≤ 400 ∧ (∃ x, pz_ty (t 19) ((t 17 l).toNat - (t 16 l).toNat) (t 16 l).toNat [] = some [x] ∧ x ≠ 1) ∧ (t 17 l ≠ t 18 l → pz_ty (t 19) ((t 18 l).toNat - (t 17 l).toNat) (t 17 l).toNat [] = some [1])) ∧ t 15 l = 265 + t 159 (16 * 0 + l) ∧ t 16 l = t 160 (16 * 0 + l) ∧ t 17 l = t 161 (16 * 0 + l) ∧ t 18 l = t 162 (16 * 0 + l) ∧ (∀ i : Nat, (i : Int) < t 18 l → pz_cr (t 19 i) (t 163 (400 * 0 + i)) (t 164 (400 * 0 + i)))
        rw [e2, e3, e4, e5, T3 159 l (by omega) (by omega) hl, T3 160 l (by omega) (by omega) hl, T3 161 l (by omega) (by omega) hl, T3 162 l (by omega) (by omega) hl, pt_upn (by omega), pt_upn (by omega), pt_upn (by omega), pt_upn (by omega)]
        refine ⟨⟨q1, q2, q3, q4, ⟨tt, ?_, q6⟩, fun hh => ?_⟩, r1, r2, r3, r4, fun i hi => ?_⟩
        · rw [pz_ty_congr (c := t 19) (d := v 130) _ _ _ (fun i i1 i2 => e130 i (by omega))]; exact q5
        · rw [pz_ty_congr (c := t 19) (d := v 130) _ _ _ (fun i i1 i2 => e130 i (by omega))]; exact q7 hh
        · rw [e130 i (by omega), T4 163 i (by omega) (by omega) (by omega), T4 164 i (by omega) (by omega) (by omega), pt_upn (by omega), pt_upn (by omega)]
          exact (hcr i (by omega)).1
      · rw [(el l hl).2.2.2]; exact (hLN.2 l hl).2.2
      · rw [e130 i (by omega)]
        exact (hcr i (by omega)).2 (by rw [w26]; omega)
    refine pt_fin ⟨hn, w1', wF, w3, w4, w5, w6, w7, w8⟩ hMM hT hX (fun c j h => ts c j (by unfold pt_un at h; unfold pt_uw; omega) (by unfold pt_un at h; unfold pt_uv; omega) (by unfold pt_un at h; omega) (by unfold pt_un at h; omega) (by unfold pt_un at h; omega) (by unfold pt_un at h; omega) (by unfold pt_un at h; omega) (by unfold pt_un at h; omega)) ?_ (pt_W3k w3 (fun i => ts 12 i (by unfold pt_uw; omega) (by unfold pt_uv; omega) (by omega) (by omega) (by omega) (by omega) (by omega) (by omega)) (fun i hi => ts 13 i (by unfold pt_uw; omega) (by unfold pt_uv; omega) (by omega) (by omega) (by omega) (by omega) (by omega) (by omega)) (fun i => ts 154 i (by unfold pt_uw; omega) (by unfold pt_uv; omega) (by omega) (by omega) (by omega) (by omega) (by omega) (by omega)) (fun i hi => ts 167 i (by unfold pt_uw; omega) (by unfold pt_uv; omega) (by omega) (by omega) (by omega) (by omega) (by omega) (by omega))) ⟨⟨n2, (yc 14 0 (by omega) (by omega)).trans (y2.trans hLN.1), new⟩, ⟨mo, (ts 21 0 (by unfold pt_uw; omega) (by unfold pt_uv; omega) (by omega) (by omega) (by omega) (by omega) (by omega) (by omega)).trans w4o1, pt_WLk (c0 := 21) w4o2 (fun c i q1 q2 => ts c i (by unfold pt_uw; omega) (by unfold pt_uv; omega) (by omega) (by omega) (by omega) (by omega) (by omega) (by omega)) (ts 158 1 (by unfold pt_uw; omega) (by unfold pt_uv; omega) (by omega) (by omega) (by omega) (by omega) (by omega) (by omega)) (fun q l q1 q2 q3 => ts q _ (by unfold pt_uw; omega) (by unfold pt_uv; omega) (by omega) (by omega) (by omega) (by omega) (by omega) (by omega)) (fun q i q1 q2 q3 => ts q _ (by unfold pt_uw; omega) (by unfold pt_uv; omega) (by omega) (by omega) (by omega) (by omega) (by omega) (by omega))⟩⟩ (pt_W5k w5 (fun c i q1 q2 => ts c i (by unfold pt_uw; omega) (by unfold pt_uv; omega) (by omega) (by omega) (by omega) (by omega) (by omega) (by omega)) (ts 150 35 (by unfold pt_uw; omega) (by unfold pt_uv; omega) (by omega) (by omega) (by omega) (by omega) (by omega) (by omega)) (fun i hi => ts 166 i (by unfold pt_uw; omega) (by unfold pt_uv; omega) (by omega) (by omega) (by omega) (by omega) (by omega) (by omega))) (pt_W6k w6 (fun c i q1 q2 => ts c i (by unfold pt_uw; omega) (by unfold pt_uv; omega) (by omega) (by omega) (by omega) (by omega) (by omega) (by omega)) (ts 150 43 (by unfold pt_uw; omega) (by unfold pt_uv; omega) (by omega) (by omega) (by omega) (by omega) (by omega) (by omega)) (fun i hi => ts 171 i (by unfold pt_uw; omega) (by unfold pt_uv; omega) (by omega) (by omega) (by omega) (by omega) (by omega) (by omega))) (pz_U_ek hU (fun c i hk => ts c i (by unfold pz_kU at hk; simp only [Bool.or_eq_true, Bool.and_eq_true, beq_iff_eq, decide_eq_true_eq] at hk; unfold pt_uw; omega) (by unfold pz_kU at hk; simp only [Bool.or_eq_true, Bool.and_eq_true, beq_iff_eq, decide_eq_true_eq] at hk; unfold pt_uv; omega) (by unfold pz_kU at hk; simp only [Bool.or_eq_true, Bool.and_eq_true, beq_iff_eq, decide_eq_true_eq] at hk; omega) (by unfold pz_kU at hk; simp only [Bool.or_eq_true, Bool.and_eq_true, beq_iff_eq, decide_eq_true_eq] at hk; omega) (by unfold pz_kU at hk; simp only [Bool.or_eq_true, Bool.and_eq_true, beq_iff_eq, decide_eq_true_eq] at hk; omega) (by unfold pz_kU at hk; simp only [Bool.or_eq_true, Bool.and_eq_true, beq_iff_eq, decide_eq_true_eq] at hk; omega) (by unfold pz_kU at hk; simp only [Bool.or_eq_true, Bool.and_eq_true, beq_iff_eq, decide_eq_true_eq] at hk; omega) (by unfold pz_kU at hk; simp only [Bool.or_eq_true, Bool.and_eq_true, beq_iff_eq, decide_eq_true_eq] at hk; omega))) ?_ t13 ?_ ?_ (Or.inl (pz_fg_of (ty 145 10 (by unfold pt_uw; omega) (by omega) (by omega) (by omega) (by omega)) (ty 145 13 (by unfold pt_uw; omega) (by omega) (by omega) (by omega) (by omega)) y7))
    · rw [ts 6 7 (by unfold pt_uw; omega) (by unfold pt_uv; omega) (by omega) (by omega) (by omega) (by omega) (by omega) (by omega), ts 150 37 (by unfold pt_uw; omega) (by unfold pt_uv; omega) (by omega) (by omega) (by omega) (by omega) (by omega) (by omega)]
      exact w1'.2.2.2.2.2.2.2.2
    · rw [ty 5 5 (by unfold pt_uw; omega) (by omega) (by omega) (by omega) (by omega), y6 5 5 (by omega) (by omega)]; exact v55
    · rw [tv 121 7 (by omega) (by omega), v7, tw 150 33 (by omega) (by omega) (by omega) (by omega), w33]
    · rw [tv 121 8 (by omega) (by omega), v8, tw 150 34 (by omega) (by omega) (by omega) (by omega), w34]
set_option maxHeartbeats 2000000 in
theorem pt_TK1 (s : px_Z) : pt_TK s 1 pt_Rlaw := by
  intro n v w1 r1 hW hU hMM hT hX vs v55 v7 v8 hR1
  obtain ⟨n1, m, hn1, hm, hr1, hLN1, h1251, _, _⟩ := hR1
  obtain ⟨y, y1, y2, y3, y4, y5, y6, y7⟩ := pt_take1 v
  have ys : ∀ c j, pt_uv c j → ¬ (21 ≤ c ∧ c ≤ 26) → ¬ (c = 145 ∧ (j = 10 ∨ j = 13)) → y c j = s c j := fun c j h1 h2 h4 => (y6 c j h2 h4).trans (vs c j h1)
  refine ⟨y, by rw [y1, hLN1.1, hr1], fun c j h => ys c j (by unfold pt_uv; omega) (by omega) (by omega), fun c j h => y6 c j (by omega) (by omega), fun w r hR hr w33 w34 w26 hw => ?_⟩
  obtain ⟨n2, m2, hn2, hm2, hr2, hLN, h1251', h27, hcr⟩ := hR
  have en : n2 = n1 := by have := hLN.1; have := hLN1.1; omega
  have em : m2 = m := by omega
  subst en; subst em
  obtain ⟨t, T1, T2, T3, T4, T5⟩ := pt_tlaw (s := px_up w 150 13 0) (k := 1) (n := n2) (m := m2) (by decide) hn1 hm ((pt_upn (by omega)).trans w26) ((pt_upn (by omega)).trans h27)
  refine ⟨t, ?_, ?_⟩
  · unfold j_M_text_j41
    rw [if_neg hr, if_neg (show ¬ (1 : Int) < 1 by decide), hr2, T1, Option.bind_some, hr1]
  · have tw : ∀ c j, ¬ (c = 150 ∧ j = 13) → ¬ (c = 158 ∧ j = 1) → ¬ (159 ≤ c ∧ c ≤ 162 ∧ 16 * 1 ≤ j ∧ j < 16 * 1 + n2) → ¬ (163 ≤ c ∧ c ≤ 164 ∧ 400 * 1 ≤ j ∧ j < 400 * 1 + m2) → t c j = w c j := fun c j h0 h1 h2 h3 => (T5 c j h1 h2 h3).trans (pt_upn (by omega))
    have ty : ∀ c j, pt_uw c j → ¬ (c = 150 ∧ j = 13) → ¬ (c = 158 ∧ j = 1) → ¬ (159 ≤ c ∧ c ≤ 162 ∧ 16 * 1 ≤ j ∧ j < 16 * 1 + n2) → ¬ (163 ≤ c ∧ c ≤ 164 ∧ 400 * 1 ≤ j ∧ j < 400 * 1 + m2) → t c j = y c j := fun c j h0 h1 h2 h3 h4 => (tw c j h1 h2 h3 h4).trans (hw c j h0)
    have ts : ∀ c j, pt_uw c j → pt_uv c j → ¬ (c = 150 ∧ j = 13) → ¬ (c = 158 ∧ j = 1) → ¬ (159 ≤ c ∧ c ≤ 162 ∧ 16 * 1 ≤ j ∧ j < 16 * 1 + n2) → ¬ (163 ≤ c ∧ c ≤ 164 ∧ 400 * 1 ≤ j ∧ j < 400 * 1 + m2) → ¬ (21 ≤ c ∧ c ≤ 26) → ¬ (c = 145 ∧ (j = 10 ∨ j = 13)) → t c j = s c j := fun c j h0 h1 h2 h3 h4 h5 h6 h7 => (ty c j h0 h2 h3 h4 h5).trans (ys c j h1 h6 h7)
    have tv : ∀ c j, 121 ≤ c → c ≤ 142 → t c j = v c j := fun c j h1 h2 => (ty c j (by unfold pt_uw; omega) (by omega) (by omega) (by omega) (by omega)).trans (y6 c j (by omega) (by omega))
    have yc : ∀ c i, 21 ≤ c → c ≤ 26 → t c i = y c i := fun c i h1 h2 => ty c i (by unfold pt_uw; omega) (by omega) (by omega) (by omega) (by omega)
    have t13 : t 150 13 = 0 := (T5 150 13 (by omega) (by omega) (by omega)).trans pt_upi
    obtain ⟨hn, w1', wF, w3, w4, w5, w6, w7, w8⟩ := hW
    have w4c := w4
    obtain ⟨⟨mo, w4o1, w4o2⟩, _⟩ := w4c
    have e130 : ∀ i, i < 400 → t 26 i = v 130 i := fun i hi => (yc 26 i (by omega) (by omega)).trans (y5 i hi)
    have new : pz_WL 1 n2 (t 21 1) (t 22) (t 23) (t 24) (t 25) (t 26) t := by
      have e1 : t 21 1 = (m2 : Int) := by rw [yc 21 1 (by omega) (by omega), y3, h1251]
      have el : ∀ l, l < n2 → t 22 l = v 126 l ∧ t 23 l = v 127 l ∧ t 24 l = v 128 l ∧ t 25 l = v 129 l := fun l hl => by
        rw [yc 22 l (by omega) (by omega), yc 23 l (by omega) (by omega), yc 24 l (by omega) (by omega), yc 25 l (by omega) (by omega)]
        exact y4 l (by omega)
      rw [e1]
      refine ⟨⟨hn1, T2, fun l hl => ?_⟩, Int.natCast_nonneg _, by omega, fun l hl => ?_, fun hj i hi => ?_⟩
      · obtain ⟨⟨r1, r2, r3, r4⟩, r5, r6⟩ := hLN.2 l hl
        obtain ⟨e2, e3, e4, e5⟩ := el l hl
        have r5' : 0 ≤ v 127 l ∧ v 127 l ≤ v 128 l ∧ v 128 l ≤ v 129 l ∧ v 129 l ≤ 400 ∧ (∃ t, pz_ty (v 130) ((v 128 l).toNat - (v 127 l).toNat) (v 127 l).toNat [] = some [t] ∧ t ≠ 1) ∧ (v 128 l ≠ v 129 l → pz_ty (v 130) ((v 129 l).toNat - (v 128 l).toNat) (v 128 l).toNat [] = some [1]) := r5
        obtain ⟨q1, q2, q3, q4, ⟨tt, q5, q6⟩, q7⟩ := r5'
        show (0 ≤ t 23 l ∧ t 23 l ≤ t 24 l ∧ t 24 l ≤ t 25 l ∧ t 25 l ≤ 400 ∧ (∃ x, pz_ty (t 26) ((t 24 l).toNat - (t 23 l).toNat) (t 23 l).toNat [] = some [x] ∧ x ≠ 1) ∧ (t 24 l ≠ t 25 l → pz_ty (t 26) ((t 25 l).toNat - (t 24 l).toNat) (t 24 l).toNat [] = some [1])) ∧ t 22 l = 265 + t 159 (16 * 1 + l) ∧ t 23 l = t 160 (16 * 1 + l) ∧ t 24 l = t 161 (16 * 1 + l) ∧ t 25 l = t 162 (16 * 1 + l) ∧ (∀ i : Nat, (i : Int) < t 25 l → pz_cr (t 26 i) (t 163 (400 * 1 + i)) (t 164 (400 * 1 + i)))
        rw [e2, e3, e4, e5, T3 159 l (by omega) (by omega) hl, T3 160 l (by omega) (by omega) hl, T3 161 l (by omega) (by omega) hl, T3 162 l (by omega) (by omega) hl, pt_upn (by omega), pt_upn (by omega), pt_upn (by omega), pt_upn (by omega)]
        refine ⟨⟨q1, q2, q3, q4, ⟨tt, ?_, q6⟩, fun hh => ?_⟩, r1, r2, r3, r4, fun i hi => ?_⟩
        · rw [pz_ty_congr (c := t 26) (d := v 130) _ _ _ (fun i i1 i2 => e130 i (by omega))]; exact q5
        · rw [pz_ty_congr (c := t 26) (d := v 130) _ _ _ (fun i i1 i2 => e130 i (by omega))]; exact q7 hh
        · rw [e130 i (by omega), T4 163 i (by omega) (by omega) (by omega), T4 164 i (by omega) (by omega) (by omega), pt_upn (by omega), pt_upn (by omega)]
          exact (hcr i (by omega)).1
      · rw [(el l hl).2.2.2]; exact (hLN.2 l hl).2.2
      · rw [e130 i (by omega)]
        exact (hcr i (by omega)).2 (by rw [w26]; omega)
    refine pt_fin ⟨hn, w1', wF, w3, w4, w5, w6, w7, w8⟩ hMM hT hX (fun c j h => ts c j (by unfold pt_un at h; unfold pt_uw; omega) (by unfold pt_un at h; unfold pt_uv; omega) (by unfold pt_un at h; omega) (by unfold pt_un at h; omega) (by unfold pt_un at h; omega) (by unfold pt_un at h; omega) (by unfold pt_un at h; omega) (by unfold pt_un at h; omega)) ?_ (pt_W3k w3 (fun i => ts 12 i (by unfold pt_uw; omega) (by unfold pt_uv; omega) (by omega) (by omega) (by omega) (by omega) (by omega) (by omega)) (fun i hi => ts 13 i (by unfold pt_uw; omega) (by unfold pt_uv; omega) (by omega) (by omega) (by omega) (by omega) (by omega) (by omega)) (fun i => ts 154 i (by unfold pt_uw; omega) (by unfold pt_uv; omega) (by omega) (by omega) (by omega) (by omega) (by omega) (by omega)) (fun i hi => ts 167 i (by unfold pt_uw; omega) (by unfold pt_uv; omega) (by omega) (by omega) (by omega) (by omega) (by omega) (by omega))) ⟨⟨mo, (ts 14 0 (by unfold pt_uw; omega) (by unfold pt_uv; omega) (by omega) (by omega) (by omega) (by omega) (by omega) (by omega)).trans w4o1, pt_WLk (c0 := 14) w4o2 (fun c i q1 q2 => ts c i (by unfold pt_uw; omega) (by unfold pt_uv; omega) (by omega) (by omega) (by omega) (by omega) (by omega) (by omega)) (ts 158 0 (by unfold pt_uw; omega) (by unfold pt_uv; omega) (by omega) (by omega) (by omega) (by omega) (by omega) (by omega)) (fun q l q1 q2 q3 => ts q _ (by unfold pt_uw; omega) (by unfold pt_uv; omega) (by omega) (by omega) (by omega) (by omega) (by omega) (by omega)) (fun q i q1 q2 q3 => ts q _ (by unfold pt_uw; omega) (by unfold pt_uv; omega) (by omega) (by omega) (by omega) (by omega) (by omega) (by omega))⟩, ⟨n2, (yc 21 0 (by omega) (by omega)).trans (y2.trans hLN.1), new⟩⟩ (pt_W5k w5 (fun c i q1 q2 => ts c i (by unfold pt_uw; omega) (by unfold pt_uv; omega) (by omega) (by omega) (by omega) (by omega) (by omega) (by omega)) (ts 150 35 (by unfold pt_uw; omega) (by unfold pt_uv; omega) (by omega) (by omega) (by omega) (by omega) (by omega) (by omega)) (fun i hi => ts 166 i (by unfold pt_uw; omega) (by unfold pt_uv; omega) (by omega) (by omega) (by omega) (by omega) (by omega) (by omega))) (pt_W6k w6 (fun c i q1 q2 => ts c i (by unfold pt_uw; omega) (by unfold pt_uv; omega) (by omega) (by omega) (by omega) (by omega) (by omega) (by omega)) (ts 150 43 (by unfold pt_uw; omega) (by unfold pt_uv; omega) (by omega) (by omega) (by omega) (by omega) (by omega) (by omega)) (fun i hi => ts 171 i (by unfold pt_uw; omega) (by unfold pt_uv; omega) (by omega) (by omega) (by omega) (by omega) (by omega) (by omega))) (pz_U_ek hU (fun c i hk => ts c i (by unfold pz_kU at hk; simp only [Bool.or_eq_true, Bool.and_eq_true, beq_iff_eq, decide_eq_true_eq] at hk; unfold pt_uw; omega) (by unfold pz_kU at hk; simp only [Bool.or_eq_true, Bool.and_eq_true, beq_iff_eq, decide_eq_true_eq] at hk; unfold pt_uv; omega) (by unfold pz_kU at hk; simp only [Bool.or_eq_true, Bool.and_eq_true, beq_iff_eq, decide_eq_true_eq] at hk; omega) (by unfold pz_kU at hk; simp only [Bool.or_eq_true, Bool.and_eq_true, beq_iff_eq, decide_eq_true_eq] at hk; omega) (by unfold pz_kU at hk; simp only [Bool.or_eq_true, Bool.and_eq_true, beq_iff_eq, decide_eq_true_eq] at hk; omega) (by unfold pz_kU at hk; simp only [Bool.or_eq_true, Bool.and_eq_true, beq_iff_eq, decide_eq_true_eq] at hk; omega) (by unfold pz_kU at hk; simp only [Bool.or_eq_true, Bool.and_eq_true, beq_iff_eq, decide_eq_true_eq] at hk; omega) (by unfold pz_kU at hk; simp only [Bool.or_eq_true, Bool.and_eq_true, beq_iff_eq, decide_eq_true_eq] at hk; omega))) ?_ t13 ?_ ?_ (Or.inl (pz_fg_of (ty 145 10 (by unfold pt_uw; omega) (by omega) (by omega) (by omega) (by omega)) (ty 145 13 (by unfold pt_uw; omega) (by omega) (by omega) (by omega) (by omega)) y7))
    · rw [ts 6 7 (by unfold pt_uw; omega) (by unfold pt_uv; omega) (by omega) (by omega) (by omega) (by omega) (by omega) (by omega), ts 150 37 (by unfold pt_uw; omega) (by unfold pt_uv; omega) (by omega) (by omega) (by omega) (by omega) (by omega) (by omega)]
      exact w1'.2.2.2.2.2.2.2.2
    · rw [ty 5 5 (by unfold pt_uw; omega) (by omega) (by omega) (by omega) (by omega), y6 5 5 (by omega) (by omega)]; exact v55
    · rw [tv 121 7 (by omega) (by omega), v7, tw 150 33 (by omega) (by omega) (by omega) (by omega), w33]
    · rw [tv 121 8 (by omega) (by omega), v8, tw 150 34 (by omega) (by omega) (by omega) (by omega), w34]
