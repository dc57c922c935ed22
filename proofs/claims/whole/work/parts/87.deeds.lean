/-! DEEDS: what they leave, what can be undone -/
theorem pz_W_F8 {n : Nat} {s z s' z' : px_Z} (h : pz_W n (pz_wo s) z) (hs : pz_ag [7, 8, 9, 10, 11, 45, 20, 27, 46] s s') (hz : pz_ag [151, 155, 174, 175] z z') (hF : pz_F n (s' 7) (s' 8) (s' 9) (s' 10) (s' 11) (z' 151)) (h8 : ∀ k, k < 600 → s' 45 k = z' 155 k) : pz_W n (pz_wo s') z' := by
  obtain ⟨hn, w1, wF, w3, w4, w5, w6, w7, w8⟩ := h
  refine ⟨hn, ?_, hF, ?_, pz_W4_ek w4 (pz_ek_ag (L := [7, 8, 9, 10, 11, 45, 20, 27, 46]) ⟨fun _ => rfl, fun _ => rfl, fun _ => rfl, fun _ => rfl, fun _ => rfl, fun _ => rfl, fun _ => rfl, fun _ => rfl, fun _ => rfl, trivial⟩ hs pz_ek_rf) (pz_ek_ag (L := [151, 155, 174, 175]) ⟨fun _ => rfl, fun _ => rfl, fun _ => rfl, fun _ => rfl, trivial⟩ hz pz_ek_rf), pz_W5_ek w5 (pz_ek_ag (L := [7, 8, 9, 10, 11, 45, 20, 27, 46]) ⟨fun _ => rfl, fun _ => rfl, fun _ => rfl, fun _ => rfl, fun _ => rfl, fun _ => rfl, fun _ => rfl, fun _ => rfl, fun _ => rfl, trivial⟩ hs pz_ek_rf) (hz 150 35 (by decide)) (fun i _ => hz 166 i (by decide)), pz_W6_ek w6 (pz_ek_ag (L := [7, 8, 9, 10, 11, 45, 20, 27, 46]) ⟨fun _ => rfl, fun _ => rfl, fun _ => rfl, fun _ => rfl, fun _ => rfl, fun _ => rfl, fun _ => rfl, fun _ => rfl, fun _ => rfl, trivial⟩ hs pz_ek_rf) (hz 150 43 (by decide)) (fun i _ => hz 171 i (by decide)), pz_W7_ek w7 (pz_ek_ag (L := [7, 8, 9, 10, 11, 45, 20, 27, 46]) ⟨fun _ => rfl, fun _ => rfl, fun _ => rfl, fun _ => rfl, fun _ => rfl, fun _ => rfl, fun _ => rfl, fun _ => rfl, fun _ => rfl, trivial⟩ hs pz_ek_rf) (hz 150 51 (by decide)) (hz 150 53 (by decide)) (hz 150 57 (by decide)) (pz_ek_ag (L := [151, 155, 174, 175]) ⟨fun _ => rfl, fun _ => rfl, fun _ => rfl, fun _ => rfl, trivial⟩ hz pz_ek_rf), h8⟩
  · have a1 : s' 6 1 = s 6 1 := hs 6 1 (by decide)
    have a2 : s' 6 2 = s 6 2 := hs 6 2 (by decide)
    have a3 : s' 6 3 = s 6 3 := hs 6 3 (by decide)
    have a4 : s' 6 4 = s 6 4 := hs 6 4 (by decide)
    have a7 : s' 6 7 = s 6 7 := hs 6 7 (by decide)
    show s' 6 1 = _ ∧ _ ∧ s' 6 2 = _ ∧ s' 6 3 = _ ∧ _ ∧ s' 6 4 = _ ∧ 0 ≤ s' 6 4 ∧ s' 6 4 ≤ 60 ∧ s' 6 7 = _
    rw [a1, a2, a3, a4, a7, hz 150 6 (by decide), hz 150 8 (by decide), hz 150 9 (by decide), hz 150 10 (by decide), hz 150 37 (by decide)]
    exact w1
  · intro i hi
    have a1 : s' 12 i = s 12 i := hs 12 i (by decide)
    have a2 : s' 13 i = s 13 i := hs 13 i (by decide)
    show s' 12 i = z' 154 i ∧ s' 13 i = z' 167 i ∧ 0 ≤ z' 167 i ∧ z' 167 i < 256
    rw [a1, a2, hz 154 i (by decide), hz 167 i (by decide)]
    exact w3 i hi
def pz_LR1 : List Nat := [7, 8, 9, 10, 11, 45, 20, 27, 46]
def pz_LM1 : List Nat := [151, 155, 174, 175]
/-- a line of THE BOOK -/
theorem pz_line {n : Nat} {s z : px_Z} (h : pz_W n (pz_wo s) z) (h5 : z 150 5 = 0) (a b c d : Int) : ∃ s' z', f_World_writeLine s a b c d = some s' ∧ f_M_notes z a b c d = some z' ∧ pz_W n (pz_wo s') z' ∧ pz_ag [7, 45] s s' ∧ pz_ag [151, 155] z z' ∧ (∀ i, i ≠ 7 → s' 7 i = s 7 i) ∧ (∀ i, i ≠ 2 → z' 151 i = z 151 i) := by
  have h' := h
  obtain ⟨hn, w1, wF, w3, w4, w5, w6, w7, w8⟩ := h
  have e7 : s 7 7 = z 151 2 := wF.1.2.2.2.2.2.2
  have e4 : s 7 4 = z 151 0 := wF.1.2.2.2.2.1
  have g := wF.2.1
  obtain ⟨B, hB⟩ : ∃ B : Nat, z 151 2 = (B : Int) := ⟨(z 151 2).toNat, by omega⟩
  by_cases hb : B = 120
  · refine ⟨s, z, ?_, ?_, h', pz_ag_rf, pz_ag_rf, fun _ _ => rfl, fun _ _ => rfl⟩
    · unfold f_World_writeLine
      rw [e7, hB, if_pos (by omega)]
    · unfold f_M_notes
      rw [if_pos h5, hB, if_pos (by omega)]
  · have x0 : px_wr ((B : Int) * 5) = ((5 * B : Nat) : Int) := by rw [pz_wr_id (by omega) (by omega)]; omega
    have y0 : px_wr (5 * (B : Int)) = ((5 * B : Nat) : Int) := by rw [pz_wr_id (by omega) (by omega)]; omega
    have x1 : px_wr (((5 * B : Nat) : Int) + 1) = ((5 * B + 1 : Nat) : Int) := by rw [pz_wr_id (by omega) (by omega)]; omega
    have x2 : px_wr (((5 * B : Nat) : Int) + 2) = ((5 * B + 2 : Nat) : Int) := by rw [pz_wr_id (by omega) (by omega)]; omega
    have x3 : px_wr (((5 * B : Nat) : Int) + 3) = ((5 * B + 3 : Nat) : Int) := by rw [pz_wr_id (by omega) (by omega)]; omega
    have x4 : px_wr (((5 * B : Nat) : Int) + 4) = ((5 * B + 4 : Nat) : Int) := by rw [pz_wr_id (by omega) (by omega)]; omega
    have hR : f_World_writeLine s a b c d = some (px_up (px_up (px_up (px_up (px_up (px_up s 45 (5 * B) (s 7 4)) 45 (5 * B + 1) a) 45 (5 * B + 2) b) 45 (5 * B + 3) c) 45 (5 * B + 4) d) 7 7 ((B + 1 : Nat) : Int)) := by
      unfold f_World_writeLine
      rw [e7, hB]
      simp only [x0, x1, x2, x3, x4, Int.toNat_natCast]
      rw [if_neg (by omega), if_pos (by omega), if_pos (by omega), if_pos (by omega), if_pos (by omega), if_pos (by omega)]
      simp (disch := decide) only [pz_up_c]
      rw [e7, hB, pz_wr_suc (by omega)]
    have hM : f_M_notes z a b c d = some (px_up (px_up (px_up (px_up (px_up (px_up z 155 (5 * B) (z 151 0)) 155 (5 * B + 1) a) 155 (5 * B + 2) b) 155 (5 * B + 3) c) 155 (5 * B + 4) d) 151 2 ((B + 1 : Nat) : Int)) := by
      unfold f_M_notes
      rw [if_pos h5, hB]
      simp only [y0, x1, x2, x3, x4, Int.toNat_natCast]
      rw [if_neg (by omega), if_pos (by omega), if_pos (by omega), if_pos (by omega), if_pos (by omega), if_pos (by omega)]
      simp (disch := decide) only [pz_up_c]
      rw [hB, pz_wr_suc (by omega)]
    have k1 : pz_ag [7, 45] s (px_up (px_up (px_up (px_up (px_up (px_up s 45 (5 * B) (s 7 4)) 45 (5 * B + 1) a) 45 (5 * B + 2) b) 45 (5 * B + 3) c) 45 (5 * B + 4) d) 7 7 ((B + 1 : Nat) : Int)) := pz_ag_up (pz_ag_up (pz_ag_up (pz_ag_up (pz_ag_up (pz_ag_up pz_ag_rf (by decide)) (by decide)) (by decide)) (by decide)) (by decide)) (by decide)
    have k2 : pz_ag [151, 155] z (px_up (px_up (px_up (px_up (px_up (px_up z 155 (5 * B) (z 151 0)) 155 (5 * B + 1) a) 155 (5 * B + 2) b) 155 (5 * B + 3) c) 155 (5 * B + 4) d) 151 2 ((B + 1 : Nat) : Int)) := pz_ag_up (pz_ag_up (pz_ag_up (pz_ag_up (pz_ag_up (pz_ag_up pz_ag_rf (by decide)) (by decide)) (by decide)) (by decide)) (by decide)) (by decide)
    refine ⟨_, _, hR, hM, pz_W_F8 h' (pz_ag_mono k1 (by decide)) (pz_ag_mono k2 (by decide)) ?_ ?_, k1, k2, fun i hi => pz_up_i hi, fun i hi => pz_up_i hi⟩
    · obtain ⟨⟨a1, a2, a3, a4, a5, a6, a7⟩, ⟨r1, r2, r3, r4, r5, r6, r7, r8, r9, r10, r11, r12, r13⟩, c', d', e'⟩ := wF
      refine pz_F_lo ⟨⟨a1, a2, a3, a4, a5, a6, a7⟩, ⟨r1, r2, r3, r4, r5, r6, r7, r8, r9, r10, r11, r12, r13⟩, c', d', e'⟩ (fun i hi => pz_up_i (show i ≠ 2 by omega)) ⟨a1, a2, a3, a4, a5, a6, rfl⟩ ⟨r1, r2, r3, r4, r5, r6, r7, r8, ?_, ?_, r11, r12, r13⟩
      · show 0 ≤ ((B + 1 : Nat) : Int); omega
      · show ((B + 1 : Nat) : Int) ≤ 120; omega
    · intro k hk
      show px_up (px_up (px_up (px_up (px_up s 45 (5 * B) (s 7 4)) 45 (5 * B + 1) a) 45 (5 * B + 2) b) 45 (5 * B + 3) c) 45 (5 * B + 4) d 45 k = px_up (px_up (px_up (px_up (px_up z 155 (5 * B) (z 151 0)) 155 (5 * B + 1) a) 155 (5 * B + 2) b) 155 (5 * B + 3) c) 155 (5 * B + 4) d 155 k
      simp only [pz_up_same]
      rw [show s 45 k = z 155 k from w8 k hk, e4]
theorem pz_cryP {n : Nat} {s z : px_Z} (h : pz_W n (pz_wo s) z) (h5 : z 150 5 = 0) {b : Int} (hb : 1 ≤ b ∧ b ≤ 20) : ∃ s' z', f_World_cryBy s b = some s' ∧ f_M_cries z b = some z' ∧ pz_W n (pz_wo s') z' ∧ pz_ag [7, 45] s s' ∧ pz_ag [151, 155] z z' := by
  have h' := h
  obtain ⟨hn, w1, wF, w3, w4, w5, w6, w7, w8⟩ := h
  have e3 : s 7 3 = z 151 5 := wF.1.2.2.2.1
  have g := wF.2.1
  have v1 : f_Math_min s 99 (px_wr (s 7 3 + b)) = pz_cl (z 151 5 + b) 0 99 := by
    unfold f_Math_min pz_cl
    rw [e3, pz_wr_id (by omega) (by omega)]
    repeat' split
    all_goals omega
  have v2 : f_M_held z (px_wr (z 151 5 + b)) 0 99 = pz_cl (z 151 5 + b) 0 99 := by
    rw [pz_heldM, pz_wr_id (by omega) (by omega)]
  have hc : 0 ≤ pz_cl (z 151 5 + b) 0 99 ∧ pz_cl (z 151 5 + b) 0 99 ≤ 99 := by
    unfold pz_cl
    repeat' split
    all_goals omega
  have hW1 : pz_W n (pz_wo (px_up s 7 3 (pz_cl (z 151 5 + b) 0 99))) (px_up z 151 5 (pz_cl (z 151 5 + b) 0 99)) := by
    refine pz_W_F8 h' (pz_ag_up pz_ag_rf (by decide)) (pz_ag_up pz_ag_rf (by decide)) ?_ w8
    obtain ⟨⟨a1, a2, a3, a4, a5, a6, a7⟩, ⟨r1, r2, r3, r4, r5, r6, r7, r8, r9, r10, r11, r12, r13⟩, c', d', e'⟩ := wF
    exact pz_F_lo ⟨⟨a1, a2, a3, a4, a5, a6, a7⟩, ⟨r1, r2, r3, r4, r5, r6, r7, r8, r9, r10, r11, r12, r13⟩, c', d', e'⟩ (fun i hi => pz_up_i (show i ≠ 5 by omega)) ⟨a1, a2, a3, rfl, a5, a6, a7⟩ ⟨r1, r2, hc.1, hc.2, r5, r6, r7, r8, r9, r10, r11, r12, r13⟩
  obtain ⟨s', z', e1, e2, hW2, k1, k2, -, -⟩ := pz_line hW1 h5 1 b 0 (-1)
  refine ⟨s', z', ?_, ?_, hW2, ?_, ?_⟩
  · unfold f_World_cryBy
    rw [v1, e1]; rfl
  · unfold f_M_cries
    rw [v2, e2]; rfl
  · exact pz_ag_tr (pz_ag_up pz_ag_rf (by decide)) k1
  · exact pz_ag_tr (pz_ag_up pz_ag_rf (by decide)) k2
/-- what can be undone, both sides apart -/
def pz_U2 (n : Nat) (s z : px_Z) : Prop := ∃ k r : Nat, k ≤ 6 ∧ r < 6 ∧ s 88 2 = (k : Int) ∧ z 150 3 = (k : Int) ∧ s 88 1 = (r : Int) ∧ (∀ j, j < k → pz_F n (s (90 + 5 * ((r + 6 - j) % 6))) (s (91 + 5 * ((r + 6 - j) % 6))) (s (92 + 5 * ((r + 6 - j) % 6))) (s (93 + 5 * ((r + 6 - j) % 6))) (s (94 + 5 * ((r + 6 - j) % 6))) (fun i => z 152 (40 * (k - 1 - j) + i)))
theorem pz_U2_of {n : Nat} {s t z y : px_Z} (h : pz_U2 n s z) (h1 : ∀ i, t 88 i = s 88 i) (h2 : ∀ c i, 90 ≤ c → c < 120 → t c i = s c i) (h3 : y 150 3 = z 150 3) (h4 : ∀ i, y 152 i = z 152 i) : pz_U2 n t y := by
  obtain ⟨k, r, hk, hr, e1, e2, e3, hF⟩ := h
  refine ⟨k, r, hk, hr, (h1 2).trans e1, h3.trans e2, (h1 1).trans e3, fun j hj => ?_⟩
  have hm : (r + 6 - j) % 6 < 6 := Nat.mod_lt _ (by decide)
  have hc : ∀ c, 90 ≤ c → c < 120 → t c = s c := fun c h5 h6 => funext (fun i => h2 c i h5 h6)
  have hy : y 152 = z 152 := funext h4
  rw [hc _ (by omega) (by omega), hc _ (by omega) (by omega), hc _ (by omega) (by omega), hc _ (by omega) (by omega), hc _ (by omega) (by omega), hy]
  exact hF j hj
theorem pz_rem {s : px_Z} {r k : Nat} (hr : r < 6) (hk : k ≤ 6) (h1 : s 88 1 = (r : Int)) (h2 : s 88 2 = (k : Int)) (h6 : s 7 6 = 0 ∨ s 7 6 = 1) : ∃ u, f_Trail_remember s = some u ∧ u 88 1 = (((r + 1) % 6 : Nat) : Int) ∧ u 88 2 = ((min 6 (k + 1) : Nat) : Int) ∧ (∀ c i, c ≠ 88 → ¬ (90 + 5 * ((r + 1) % 6) ≤ c ∧ c < 95 + 5 * ((r + 1) % 6)) → u c i = s c i) ∧ (∀ i, i < 8 → u (90 + 5 * ((r + 1) % 6)) i = s 7 i) ∧ (∀ i, i < 8 → u (91 + 5 * ((r + 1) % 6)) i = s 8 i) ∧ (∀ i, i < 8 → u (92 + 5 * ((r + 1) % 6)) i = s 9 i) ∧ (∀ i, i < 8 → u (93 + 5 * ((r + 1) % 6)) i = s 10 i) ∧ (∀ i, i < 8 → u (94 + 5 * ((r + 1) % 6)) i = s 11 i) := by
  have hq : (px_wr ((r : Int) + 1)).tmod 6 = (((r + 1) % 6 : Nat) : Int) := by
    rw [pz_wr_suc (by omega)]; rfl
  have hmin : ∀ q2 : px_Z, q2 88 2 = (k : Int) → f_Math_min q2 6 (px_wr (q2 88 2 + 1)) = ((min 6 (k + 1) : Nat) : Int) := by
    intro q2 h
    unfold f_Math_min
    rw [h, pz_wr_suc (by omega)]
    split <;> omega
  have hlt : (r + 1) % 6 < 6 := Nat.mod_lt _ (by decide)
  unfold f_Trail_remember
  rw [h1, hq]
  simp only [pz_up_s]
  generalize hR : (r + 1) % 6 = R at hlt ⊢
  have h6' : (px_up s 88 1 ((R : Nat) : Int)) 7 6 = 0 ∨ (px_up s 88 1 ((R : Nat) : Int)) 7 6 = 1 := h6
  rcases (show R = 0 ∨ R = 1 ∨ R = 2 ∨ R = 3 ∨ R = 4 ∨ R = 5 by omega) with rfl | rfl | rfl | rfl | rfl | rfl
  · obtain ⟨u, e, ha, c0, c1, c2, c3, c4⟩ := pz_be h6'
    have hu2 : u 88 2 = (k : Int) := (ha 88 2 (by decide)).trans h2
    refine ⟨px_up u 88 2 ((min 6 (k + 1) : Nat) : Int), ?_, ?_, rfl, fun c i h3 h4 => ?_, fun i hi => ?_, fun i hi => ?_, fun i hi => ?_, fun i hi => ?_, fun i hi => ?_⟩
    · rw [if_pos (by decide), e, Option.bind_some, hmin u hu2]
    · exact (ha 88 1 (by decide))
    · rw [pz_up_c h3, ha c i (by simp only [List.mem_cons, List.not_mem_nil, or_false]; omega), pz_up_c h3]
    · exact c0 i hi
    · exact c1 i hi
    · exact c2 i hi
    · exact c3 i hi
    · exact c4 i hi
  · obtain ⟨u, e, ha, c0, c1, c2, c3, c4⟩ := pz_be_6 h6'
    have hu2 : u 88 2 = (k : Int) := (ha 88 2 (by decide)).trans h2
    refine ⟨px_up u 88 2 ((min 6 (k + 1) : Nat) : Int), ?_, ?_, rfl, fun c i h3 h4 => ?_, fun i hi => ?_, fun i hi => ?_, fun i hi => ?_, fun i hi => ?_, fun i hi => ?_⟩
    · rw [if_neg (by decide), if_pos (by decide), e, Option.bind_some, hmin u hu2]
    · exact (ha 88 1 (by decide))
    · rw [pz_up_c h3, ha c i (by simp only [List.mem_cons, List.not_mem_nil, or_false]; omega), pz_up_c h3]
    · exact c0 i hi
    · exact c1 i hi
    · exact c2 i hi
    · exact c3 i hi
    · exact c4 i hi
  · obtain ⟨u, e, ha, c0, c1, c2, c3, c4⟩ := pz_be_5 h6'
    have hu2 : u 88 2 = (k : Int) := (ha 88 2 (by decide)).trans h2
    refine ⟨px_up u 88 2 ((min 6 (k + 1) : Nat) : Int), ?_, ?_, rfl, fun c i h3 h4 => ?_, fun i hi => ?_, fun i hi => ?_, fun i hi => ?_, fun i hi => ?_, fun i hi => ?_⟩
    · rw [if_neg (by decide), if_neg (by decide), if_pos (by decide), e, Option.bind_some, hmin u hu2]
    · exact (ha 88 1 (by decide))
    · rw [pz_up_c h3, ha c i (by simp only [List.mem_cons, List.not_mem_nil, or_false]; omega), pz_up_c h3]
    · exact c0 i hi
    · exact c1 i hi
    · exact c2 i hi
    · exact c3 i hi
    · exact c4 i hi
  · obtain ⟨u, e, ha, c0, c1, c2, c3, c4⟩ := pz_be_2 h6'
    have hu2 : u 88 2 = (k : Int) := (ha 88 2 (by decide)).trans h2
    refine ⟨px_up u 88 2 ((min 6 (k + 1) : Nat) : Int), ?_, ?_, rfl, fun c i h3 h4 => ?_, fun i hi => ?_, fun i hi => ?_, fun i hi => ?_, fun i hi => ?_, fun i hi => ?_⟩
    · rw [if_neg (by decide), if_neg (by decide), if_neg (by decide), if_pos (by decide), e, Option.bind_some, hmin u hu2]
    · exact (ha 88 1 (by decide))
    · rw [pz_up_c h3, ha c i (by simp only [List.mem_cons, List.not_mem_nil, or_false]; omega), pz_up_c h3]
    · exact c0 i hi
    · exact c1 i hi
    · exact c2 i hi
    · exact c3 i hi
    · exact c4 i hi
  · obtain ⟨u, e, ha, c0, c1, c2, c3, c4⟩ := pz_be_3 h6'
    have hu2 : u 88 2 = (k : Int) := (ha 88 2 (by decide)).trans h2
    refine ⟨px_up u 88 2 ((min 6 (k + 1) : Nat) : Int), ?_, ?_, rfl, fun c i h3 h4 => ?_, fun i hi => ?_, fun i hi => ?_, fun i hi => ?_, fun i hi => ?_, fun i hi => ?_⟩
    · rw [if_neg (by decide), if_neg (by decide), if_neg (by decide), if_neg (by decide), if_pos (by decide), e, Option.bind_some, hmin u hu2]
    · exact (ha 88 1 (by decide))
    · rw [pz_up_c h3, ha c i (by simp only [List.mem_cons, List.not_mem_nil, or_false]; omega), pz_up_c h3]
    · exact c0 i hi
    · exact c1 i hi
    · exact c2 i hi
    · exact c3 i hi
    · exact c4 i hi
  · obtain ⟨u, e, ha, c0, c1, c2, c3, c4⟩ := pz_be_4 h6'
    have hu2 : u 88 2 = (k : Int) := (ha 88 2 (by decide)).trans h2
    refine ⟨px_up u 88 2 ((min 6 (k + 1) : Nat) : Int), ?_, ?_, rfl, fun c i h3 h4 => ?_, fun i hi => ?_, fun i hi => ?_, fun i hi => ?_, fun i hi => ?_, fun i hi => ?_⟩
    · rw [if_neg (by decide), if_neg (by decide), if_neg (by decide), if_neg (by decide), if_neg (by decide), if_pos (by decide), e, Option.bind_some, hmin u hu2]
    · exact (ha 88 1 (by decide))
    · rw [pz_up_c h3, ha c i (by simp only [List.mem_cons, List.not_mem_nil, or_false]; omega), pz_up_c h3]
    · exact c0 i hi
    · exact c1 i hi
    · exact c2 i hi
    · exact c3 i hi
    · exact c4 i hi

theorem pz_keeps {z : px_Z} {k : Nat} (hk : k ≤ 6) (h3 : z 150 3 = (k : Int)) : ∃ y, f_M_keepsAhead z = some y ∧ y 150 3 = ((min 6 (k + 1) : Nat) : Int) ∧ (∀ c i, c ≠ 152 → ¬ (c = 150 ∧ i = 3) → y c i = z c i) ∧ (∀ i, i < 40 → y 152 (40 * (min 6 (k + 1) - 1) + i) = z 151 i) ∧ (∀ j, 1 ≤ j → j < min 6 (k + 1) → ∀ i, i < 40 → y 152 (40 * (min 6 (k + 1) - 1 - j) + i) = z 152 (40 * (k - 1 - (j - 1)) + i)) := by
  -- the copy behind the rows
  have hcopy : ∀ (z0 : px_Z) (p : Nat), p ≤ 5 → z0 150 3 = (p : Int) → ∃ y, j_M_keepsAhead_j30 z0 = some y ∧ y 150 3 = ((p + 1 : Nat) : Int) ∧ (∀ c i, c ≠ 152 → ¬ (c = 150 ∧ i = 3) → y c i = z0 c i) ∧ (∀ i, i < 40 → y 152 (40 * p + i) = z0 151 i) ∧ (∀ i, i < 40 * p → y 152 i = z0 152 i) := by
    intro z0 p hp hz0
    have hl : ∀ (m fu i : Nat) (z1 : px_Z), i + m = 40 → m < fu → pz_ag [152] z0 z1 → (∀ j, j < i → z1 152 (40 * p + j) = z0 151 j) → (∀ j, j < 40 * p → z1 152 j = z0 152 j) → ∃ y, l_M_keepsAhead_32 (fun s => some (px_up s 150 3 (px_wr ((s 150 3) + 1)))) fu z1 (i : Int) = some y ∧ y 150 3 = ((p + 1 : Nat) : Int) ∧ (∀ c i, c ≠ 152 → ¬ (c = 150 ∧ i = 3) → y c i = z0 c i) ∧ (∀ i, i < 40 → y 152 (40 * p + i) = z0 151 i) ∧ (∀ i, i < 40 * p → y 152 i = z0 152 i) := by
      intro m
      induction m with
      | zero =>
        intro fu i z1 hi hf hz1 ha hb
        obtain ⟨f, rfl⟩ : ∃ f, fu = f + 1 := ⟨fu - 1, by omega⟩
        rw [l_M_keepsAhead_32, if_pos (by omega), hz1 150 3 (by decide), hz0, pz_wr_suc (by omega)]
        refine ⟨_, rfl, rfl, fun c j h1 h2 => ?_, fun j hj => ha j (by omega), fun j hj => hb j hj⟩
        rw [pz_up_get, if_neg h2]
        exact hz1 c j (by simp only [List.mem_singleton]; exact h1)
      | succ m ih =>
        intro fu i z1 hi hf hz1 ha hb
        obtain ⟨f, rfl⟩ : ∃ f, fu = f + 1 := ⟨fu - 1, by omega⟩
        have x0 : px_wr (px_wr (40 * (p : Int)) + (i : Int)) = ((40 * p + i : Nat) : Int) := by
          rw [pz_wr_id (x := 40 * (p : Int)) (by omega) (by omega), pz_wr_id (by omega) (by omega)]; omega
        rw [l_M_keepsAhead_32, if_neg (by omega), hz1 150 3 (by decide), hz0, x0, if_pos (by omega), if_pos (by omega), Int.toNat_natCast, Int.toNat_natCast, pz_wr_suc (by omega), hz1 151 i (by decide)]
        refine ih f (i + 1) _ (by omega) (by omega) (pz_ag_up hz1 (by decide)) (fun j hj => ?_) (fun j hj => ?_)
        · rw [pz_up_same]
          by_cases hji : j = i
          · subst hji; rw [if_pos rfl]
          · rw [if_neg (by omega)]; exact ha j (by omega)
        · rw [pz_up_same, if_neg (by omega)]; exact hb j hj
    exact hl 40 px_big 0 z0 (by omega) (pz_big_lt (by omega)) pz_ag_rf (fun j hj => by omega) (fun _ _ => rfl)
  unfold f_M_keepsAhead
  rw [h3]
  by_cases hk6 : k = 6
  · subst hk6
    rw [if_pos (by decide), show px_wr (((6 : Nat) : Int) - 1) = 5 from by decide]
    have hl : ∀ (m fu i : Nat) (z1 : px_Z), i + m = 200 → m < fu → pz_ag [152] (px_up z 150 3 5) z1 → (∀ j, j < i → z1 152 j = z 152 (j + 40)) → (∀ j, i ≤ j → z1 152 j = z 152 j) → ∃ y, l_M_keepsAhead_12 (fun s => j_M_keepsAhead_j30 s) fu z1 (i : Int) = some y ∧ y 150 3 = 6 ∧ (∀ c i, c ≠ 152 → ¬ (c = 150 ∧ i = 3) → y c i = z c i) ∧ (∀ i, i < 40 → y 152 (200 + i) = z 151 i) ∧ (∀ i, i < 200 → y 152 i = z 152 (i + 40)) := by
      intro m
      induction m with
      | zero =>
        intro fu i z1 hi hf hz1 ha hb
        obtain ⟨f, rfl⟩ : ∃ f, fu = f + 1 := ⟨fu - 1, by omega⟩
        have e5 : z1 150 3 = ((5 : Nat) : Int) := hz1 150 3 (by decide)
        rw [l_M_keepsAhead_12, e5, show px_wr (40 * ((5 : Nat) : Int)) = 200 from by decide, if_pos (by omega)]
        obtain ⟨y, y1, y2, y3, y4, y5⟩ := hcopy z1 5 (by omega) e5
        refine ⟨y, y1, y2, fun c j h1 h2 => ?_, fun j hj => ?_, fun j hj => ?_⟩
        · rw [y3 c j h1 h2, hz1 c j (by simp only [List.mem_singleton]; exact h1), pz_up_get, if_neg h2]
        · rw [show 200 + j = 40 * 5 + j by omega, y4 j hj]
          exact hz1 151 j (by decide)
        · rw [y5 j (by omega)]
          exact ha j (by omega)
      | succ m ih =>
        intro fu i z1 hi hf hz1 ha hb
        obtain ⟨f, rfl⟩ : ∃ f, fu = f + 1 := ⟨fu - 1, by omega⟩
        have e5 : z1 150 3 = ((5 : Nat) : Int) := hz1 150 3 (by decide)
        rw [l_M_keepsAhead_12, e5, show px_wr (40 * ((5 : Nat) : Int)) = 200 from by decide, if_neg (by omega), pz_wr_id (x := (i : Int) + 40) (by omega) (by omega), if_pos (by omega), if_pos (by omega), Int.toNat_natCast, show ((i : Int) + 40).toNat = i + 40 by omega, pz_wr_suc (by omega), hb (i + 40) (by omega)]
        refine ih f (i + 1) _ (by omega) (by omega) (pz_ag_up hz1 (by decide)) (fun j hj => ?_) (fun j hj => ?_)
        · rw [pz_up_same]
          by_cases hji : j = i
          · subst hji; rw [if_pos rfl]
          · rw [if_neg hji]; exact ha j (by omega)
        · rw [pz_up_same, if_neg (by omega)]; exact hb j (by omega)
    obtain ⟨y, y1, y2, y3, y4, y5⟩ := hl 200 px_big 0 (px_up z 150 3 5) (by omega) (pz_big_lt (by omega)) pz_ag_rf (fun j hj => by omega) (fun _ _ => rfl)
    refine ⟨y, y1, y2, y3, fun i hi => y4 i hi, fun j h1 h2 i hi => ?_⟩
    have h2' : j < 6 := h2
    show y 152 (40 * (6 - 1 - j) + i) = z 152 (40 * (6 - 1 - (j - 1)) + i)
    rw [y5 _ (by omega), show 40 * (6 - 1 - j) + i + 40 = 40 * (6 - 1 - (j - 1)) + i by omega]
  · rw [if_neg (by omega)]
    obtain ⟨y, y1, y2, y3, y4, y5⟩ := hcopy z k (by omega) h3
    have hm : min 6 (k + 1) = k + 1 := by omega
    rw [hm]
    refine ⟨y, y1, y2, y3, fun i hi => ?_, fun j h1 h2 i hi => ?_⟩
    · rw [show k + 1 - 1 = k by omega]; exact y4 i hi
    · rw [y5 _ (by omega)]
      congr 1
      omega
/-- a deed is kept in mind -/
theorem pz_remP {n : Nat} {s z : px_Z} (h : pz_W n (pz_wo s) z) (hU : pz_U2 n s z) : ∃ s' z', f_R_rememberDeed s = some s' ∧ f_M_keepsAhead z = some z' ∧ pz_W n (pz_wo s') z' ∧ pz_U2 n s' z' ∧ pz_fg s' ∧ (∀ c i, c ≠ 88 → ¬ (90 ≤ c ∧ c < 120) → c ≠ 145 → s' c i = s c i) ∧ (∀ c i, c ≠ 152 → ¬ (c = 150 ∧ i = 3) → z' c i = z c i) := by
  have h' := h
  obtain ⟨hn, w1, wF, w3, w4, w5, w6, w7, w8⟩ := h
  obtain ⟨k, r, hk, hr, u1, u2, u3, hF⟩ := hU
  have g13 : (s 7 6 = 0 ∧ z 151 7 ≠ z 151 0 + 1) ∨ (s 7 6 = 1 ∧ z 151 7 = z 151 0 + 1) := wF.2.1.2.2.2.2.2.2.2.2.2.2.2.2
  obtain ⟨u, e1, a1, a2, a3, b0, b1, b2, b3, b4⟩ := pz_rem (s := s) hr hk u3 u1 (g13.elim (fun q => Or.inl q.1) (fun q => Or.inr q.1))
  obtain ⟨y, e2, d1, d2, d3, d4⟩ := pz_keeps (z := z) hk u2
  have hlt : (r + 1) % 6 < 6 := Nat.mod_lt _ (by decide)
  have fs : ∀ c i, c ≠ 88 → ¬ (90 ≤ c ∧ c < 120) → c ≠ 145 → (px_up (px_up u 145 10 (-2)) 145 13 0) c i = s c i := fun c i q1 q2 q3 => by
    rw [pz_up_c q3, pz_up_c q3]; exact a3 c i q1 (by omega)
  refine ⟨px_up (px_up u 145 10 (-2)) 145 13 0, y, ?_, e2, ?_, ?_, ⟨rfl, rfl⟩, fs, d2⟩
  · unfold f_R_rememberDeed f_Least_forget
    rw [e1]; rfl
  · refine pz_W_ek h' (fun c i hc => ?_) (fun c i hc => ?_)
    · unfold pz_kR at hc
      simp only [Bool.and_eq_true, decide_eq_true_eq] at hc
      have := pz_ku_lt hc.2
      exact fs c i (by omega) (by omega) (by omega)
    · refine d2 c i (fun q => ?_) (fun q => ?_)
      · rw [q] at hc; cases hc
      · rw [q.1, q.2] at hc; cases hc
  · refine ⟨min 6 (k + 1), (r + 1) % 6, by omega, hlt, a2, d1, a1, fun j hj => ?_⟩
    have hc : ∀ c, 90 ≤ c → c < 120 → (px_up (px_up u 145 10 (-2)) 145 13 0) c = u c := fun c q1 q2 => funext (fun i => (pz_up_c (by omega)).trans (pz_up_c (by omega)))
    have hm := Nat.mod_lt ((r + 1) % 6 + 6 - j) (show 0 < 6 by decide)
    rw [hc _ (by omega) (by omega), hc _ (by omega) (by omega), hc _ (by omega) (by omega), hc _ (by omega) (by omega), hc _ (by omega) (by omega)]
    by_cases hj0 : j = 0
    · subst hj0
      have hx : ((r + 1) % 6 + 6 - 0) % 6 = (r + 1) % 6 := by omega
      rw [hx]
      exact pz_F_congr wF b0 b1 b2 b3 b4 (fun i hi => by rw [show min 6 (k + 1) - 1 - 0 = min 6 (k + 1) - 1 by omega]; exact d3 i hi) hn
    · have hx : ((r + 1) % 6 + 6 - j) % 6 = (r + 6 - (j - 1)) % 6 := by omega
      have hy : (r + 6 - (j - 1)) % 6 ≠ (r + 1) % 6 := by omega
      have hz := Nat.mod_lt (r + 6 - (j - 1)) (show 0 < 6 by decide)
      rw [hx]
      have old := hF (j - 1) (by omega)
      exact pz_F_congr old (fun i hi => a3 _ i (by omega) (by omega)) (fun i hi => a3 _ i (by omega) (by omega)) (fun i hi => a3 _ i (by omega) (by omega)) (fun i hi => a3 _ i (by omega) (by omega)) (fun i hi => a3 _ i (by omega) (by omega)) (fun i hi => d4 j (by omega) hj i hi) hn
