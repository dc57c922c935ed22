/-! the RIVAL; a WEEK as a whole; WEEKS, A PLAN -/
theorem pz_F_riv {n t : Nat} {f0 f1 f2 f3 f4 q g2 r : Nat → Int} (h : pz_F n f0 f1 f2 f3 f4 q) (ht : t + 1 < n) (hn : n ≤ 8) (h0 : q (16 + t) = 0) (e2 : ∀ i, g2 i = if i = t then 2 else f2 i) (eq : ∀ i, r i = if i = 16 + t then 2 else q i) : pz_F n f0 f1 g2 f3 f4 r := by
  have lo : ∀ i, i ≠ 16 + t → r i = q i := fun i hi => by rw [eq, if_neg hi]
  obtain ⟨a, b, c, d, e⟩ := h
  refine ⟨?_, ?_, fun i h8 => ?_, fun i h8 hni => ?_, fun k hk hk1 i h2 => ?_⟩
  · rw [lo 0 (by omega), lo 1 (by omega), lo 2 (by omega), lo 3 (by omega), lo 4 (by omega), lo 5 (by omega), lo 6 (by omega)]
    exact a
  · rw [lo 0 (by omega), lo 2 (by omega), lo 4 (by omega), lo 5 (by omega), lo 6 (by omega), lo 7 (by omega)]
    exact b
  · obtain ⟨c1, c2, c3, c4, c5, c6, c7, c8, c9⟩ := c i h8
    rw [lo (8 + i) (by omega), lo (24 + i) (by omega), lo (32 + i) (by omega), e2, eq (16 + i)]
    by_cases hit : i = t
    · rw [if_pos hit, if_pos (by omega)]
      exact ⟨c1, rfl, c3, c4, c5, c6, c7, c8, fun q => absurd q (by decide)⟩
    · rw [if_neg hit, if_neg (by omega)]
      exact ⟨c1, c2, c3, c4, c5, c6, c7, c8, c9⟩
  · rw [lo (8 + i) (by omega), lo (16 + i) (by omega), lo (24 + i) (by omega), lo (32 + i) (by omega)]
    exact d i h8 hni
  · rw [lo (16 + k) (by omega)] at hk1
    have := e k hk hk1 t (by omega)
    omega
theorem pz_rivP {n : Nat} {s z : px_Z} (h : pz_W n (pz_wo s) z) (h5 : z 150 5 = 0) : ∃ (b : Bool) (s' z' : px_Z), f_World_rivalComes s = some (if b then 1 else 0, s') ∧ f_M_isRobbed z = some (if b then 1 else 0, z') ∧ pz_W n (pz_wo s') z' ∧ pz_ag [7, 9, 45] s s' ∧ pz_ag [151, 155] z z' ∧ z' 151 0 = z 151 0 ∧ z' 151 7 = z 151 7 := by
  have hn := h.1
  have rv : s 6 2 = z 150 8 := h.2.1.2.2.1
  unfold f_World_rivalComes f_M_isRobbed
  rw [rv, if_pos h5]
  by_cases c0 : z 150 8 = 0
  · rw [if_pos c0, if_pos c0]
    exact ⟨false, s, z, rfl, rfl, h, pz_ag_rf, pz_ag_rf, rfl, rfl⟩
  · rw [if_neg c0, if_neg c0]
    obtain ⟨d, st, d1, d2⟩ := pz_drawP s z h.2.2.1.1.1 (m := 1000) (by decide)
    have hW1 := pz_W_state h st
    rw [d1, d2, Option.bind_some, Option.bind_some]
    dsimp only
    have f1 : pz_ag [7, 9, 45] s (px_up s 7 0 st) := pz_ag_up pz_ag_rf (by decide)
    have f2 : pz_ag [151, 155] z (px_up z 151 1 st) := pz_ag_up pz_ag_rf (by decide)
    have t1 : (px_up s 7 0 st) 6 2 = z 150 8 := rv
    have t2 : (px_up z 151 1 st) 150 8 = z 150 8 := rfl
    have t5 : (px_up z 151 1 st) 150 5 = 0 := h5
    have q0 : (px_up z 151 1 st) 151 0 = z 151 0 := rfl
    have q7 : (px_up z 151 1 st) 151 7 = z 151 7 := rfl
    generalize px_up s 7 0 st = S at hW1 f1 t1 ⊢
    generalize px_up z 151 1 st = Z at hW1 f2 t2 t5 q0 q7 ⊢
    by_cases c1 : d < z 150 8
    · rw [if_pos (show d < S 6 2 by rw [t1]; exact c1), if_pos (show d < Z 150 8 by rw [t2]; exact c1)]
      have b1 : S 6 1 = (n : Int) := hW1.2.1.1
      have b2 : Z 150 6 = (n : Int) := hW1.2.1.2.1
      have hl : ∀ (r fu gu i : Nat), i + r + 1 = max n 1 → r < fu → r < gu → ∃ (b : Bool) (s' z' : px_Z), l_World_rivalComes_14 (fun s x1 => if 0 ≤ (x1) ∧ (x1) < 8 then (f_World_writeLine (px_up s 9 x1.toNat 2) 2 x1 0 (-1)).bind (fun q8 => some (1, q8)) else none) fu S (i : Int) = some (if b then 1 else 0, s') ∧ l_M_isRobbed_16 (fun s x1 => if 0 ≤ (px_wr (16 + x1)) ∧ (px_wr (16 + x1)) < 40 then (f_M_notes (px_up s 151 (px_wr (16 + x1)).toNat 2) 2 x1 0 (-1)).bind (fun q9 => some (1, q9)) else none) gu Z (i : Int) = some (if b then 1 else 0, z') ∧ pz_W n (pz_wo s') z' ∧ pz_ag [7, 9, 45] S s' ∧ pz_ag [151, 155] Z z' ∧ z' 151 0 = Z 151 0 ∧ z' 151 7 = Z 151 7 := by
        intro r
        induction r with
        | zero =>
          intro fu gu i hi hf hg
          obtain ⟨f, rfl⟩ : ∃ f, fu = f + 1 := ⟨fu - 1, by omega⟩
          obtain ⟨g, rfl⟩ : ∃ g, gu = g + 1 := ⟨gu - 1, by omega⟩
          rw [l_World_rivalComes_14, l_M_isRobbed_16, b1, b2, pz_wr_pred (by omega), if_pos (by omega), if_pos (by omega)]
          exact ⟨false, S, Z, rfl, rfl, hW1, pz_ag_rf, pz_ag_rf, rfl, rfl⟩
        | succ r ih =>
          intro fu gu i hi hf hg
          obtain ⟨f, rfl⟩ : ∃ f, fu = f + 1 := ⟨fu - 1, by omega⟩
          obtain ⟨g, rfl⟩ : ∃ g, gu = g + 1 := ⟨gu - 1, by omega⟩
          have k9 : S 9 i = Z 151 (16 + i) := (hW1.2.2.1.2.2.1 i (by omega)).2.1
          rw [l_World_rivalComes_14, l_M_isRobbed_16, b1, b2, pz_wr_pred (by omega), pz_wr_id (x := 16 + (i : Int)) (by omega) (by omega), show (16 + (i : Int)).toNat = 16 + i by omega, Int.toNat_natCast, pz_wr_suc (by omega), k9]
          simp only [if_neg (show ¬ ((n : Int) - 1 ≤ (i : Int)) by omega), if_pos (show 0 ≤ (i : Int) ∧ (i : Int) < 8 by omega), if_pos (show 0 ≤ 16 + (i : Int) ∧ 16 + (i : Int) < 40 by omega)]
          by_cases c2 : Z 151 (16 + i) = 0
          · rw [if_pos c2, if_pos c2]
            have hW2 : pz_W n (pz_wo (px_up S 9 i 2)) (px_up Z 151 (16 + i) 2) := pz_W_F8 hW1 (pz_ag_up pz_ag_rf (by decide)) (pz_ag_up pz_ag_rf (by decide)) (pz_F_riv hW1.2.2.1 (by omega) hn c2 (fun j => pz_up_same S 9 i j 2) (fun j => pz_up_same Z 151 (16 + i) j 2)) hW1.2.2.2.2.2.2.2.2
            obtain ⟨s', z', e1, e2, hW3, k1, k2, k3, k4⟩ := pz_line hW2 t5 2 (i : Int) 0 (-1)
            rw [e1, e2]
            refine ⟨true, s', z', rfl, rfl, hW3, pz_ag_tr (pz_ag_up pz_ag_rf (by decide)) (pz_ag_mono k1 (by decide)), pz_ag_tr (pz_ag_up pz_ag_rf (by decide)) k2, ?_, ?_⟩
            · rw [k4 0 (by decide), pz_up_i (by omega)]
            · rw [k4 7 (by decide), pz_up_i (by omega)]
          · rw [if_neg c2, if_neg c2]
            exact ih f g (i + 1) (by omega) (by omega) (by omega)
      obtain ⟨b, s', z', e1, e2, hW2, k1, k2, k3, k4⟩ := hl (max n 1 - 1) px_big px_big 0 (by omega) (pz_big_lt (by omega)) (pz_big_lt (by omega))
      exact ⟨b, s', z', e1, e2, hW2, pz_ag_tr f1 k1, pz_ag_tr f2 k2, k3.trans q0, k4.trans q7⟩
    · rw [if_neg (show ¬ (d < S 6 2) by rw [t1]; exact c1), if_neg (show ¬ (d < Z 150 8) by rw [t2]; exact c1)]
      exact ⟨false, S, Z, rfl, rfl, hW1, f1, f2, q0, q7⟩
theorem pz_passP {n : Nat} {s z : px_Z} (h : pz_W n (pz_wo s) z) (h5 : z 150 5 = 0) (hw : z 151 0 < 60) : ∃ (b : Bool) (s' z' : px_Z), f_World_passWeek s = some (if b then 1 else 0, s') ∧ f_M_goesBy z = some (if b then 1 else 0, z') ∧ pz_W n (pz_wo s') z' ∧ pz_ag [7, 8, 9, 10, 11, 45, 20, 27, 46] s s' ∧ pz_ag [151, 155, 174, 175] z z' ∧ z' 151 0 = z 151 0 + 1 := by
  obtain ⟨s1, z1, a1, a2, hW1, a3, a4, a5⟩ := pz_wearAllP h
  have h51 : z1 150 5 = 0 := (a4 150 5 (by decide)).trans h5
  obtain ⟨s2, z2, b1, b2, hW2, b3, b4, b5, b6⟩ := pz_eatsP hW1 h51
  have h52 : z2 150 5 = 0 := (b4 150 5 (by decide)).trans h51
  obtain ⟨b, s3, z3, c1, c2, hW3, c3, c4, c5, c6⟩ := pz_rivP hW2 h52
  have w3 : z3 151 0 = z 151 0 := c5.trans (b5.trans (a5 0 (Or.inl (by decide))))
  have hg := hW3.2.2.1.2.1
  have e3 : s3 7 3 = z3 151 5 := hW3.2.2.1.1.2.2.2.1
  have e4 : s3 7 4 = z3 151 0 := hW3.2.2.1.1.2.2.2.2.1
  have hcr : 0 ≤ z3 151 5 ∧ z3 151 5 ≤ 99 := ⟨hg.2.2.1, hg.2.2.2.1⟩
  have hwk : 0 ≤ z3 151 0 := hg.2.2.2.2.1
  have v1 : f_Math_max s3 0 (px_wr (s3 7 3 - 1)) = pz_cl (z3 151 5 - 1) 0 99 := by
    unfold f_Math_max pz_cl
    rw [e3, pz_wr_id (by omega) (by omega)]
    repeat' split
    all_goals omega
  have v2 : f_M_held z3 (px_wr (z3 151 5 - 1)) 0 99 = pz_cl (z3 151 5 - 1) 0 99 := by
    rw [pz_heldM, pz_wr_id (by omega) (by omega)]
  have hcl : 0 ≤ pz_cl (z3 151 5 - 1) 0 99 ∧ pz_cl (z3 151 5 - 1) 0 99 ≤ 99 := by
    unfold pz_cl
    repeat' split
    all_goals omega
  refine ⟨b, px_up (px_up (px_up s3 7 3 (pz_cl (z3 151 5 - 1) 0 99)) 7 4 (z3 151 0 + 1)) 7 6 0, px_up (px_up z3 151 5 (pz_cl (z3 151 5 - 1) 0 99)) 151 0 (z3 151 0 + 1), ?_, ?_, ?_, ?_, ?_, ?_⟩
  · unfold f_World_passWeek
    rw [a1, Option.bind_some, b1, Option.bind_some, c1, Option.bind_some]
    dsimp only
    rw [v1, show (px_up s3 7 3 (pz_cl (z3 151 5 - 1) 0 99)) 7 4 = s3 7 4 from rfl, e4, pz_wr_id (by omega) (by omega), if_pos (by cases b <;> decide)]
  · unfold f_M_goesBy
    rw [a2, Option.bind_some, b2, Option.bind_some, c2, Option.bind_some]
    dsimp only
    rw [v2, show (px_up z3 151 5 (pz_cl (z3 151 5 - 1) 0 99)) 151 0 = z3 151 0 from rfl, pz_wr_id (by omega) (by omega), if_pos (by cases b <;> decide)]
  · refine pz_W_F8 hW3 (pz_ag_up (pz_ag_up (pz_ag_up pz_ag_rf (by decide)) (by decide)) (by decide)) (pz_ag_up (pz_ag_up pz_ag_rf (by decide)) (by decide)) ?_ hW3.2.2.2.2.2.2.2.2
    have wF := hW3.2.2.1
    obtain ⟨⟨q1, q2, q3, q4, q5, q6, q7⟩, ⟨r1, r2, r3, r4, r5, r6, r7, r8, r9, r10, r11, r12, r13⟩, c', d', e'⟩ := wF
    refine pz_F_lo ⟨⟨q1, q2, q3, q4, q5, q6, q7⟩, ⟨r1, r2, r3, r4, r5, r6, r7, r8, r9, r10, r11, r12, r13⟩, c', d', e'⟩ (fun i hi => ?_) ⟨q1, q2, q3, rfl, rfl, q6, q7⟩ ⟨r1, r2, hcl.1, hcl.2, ?_, ?_, r7, r8, r9, r10, r11, ?_, Or.inl ⟨rfl, ?_⟩⟩
    · rw [pz_up_i (show i ≠ 0 by omega), pz_up_i (show i ≠ 5 by omega)]
    · show 0 ≤ z3 151 0 + 1; omega
    · show z3 151 0 + 1 ≤ 60; omega
    · show z3 151 7 ≤ z3 151 0 + 1 + 1; omega
    · show z3 151 7 ≠ z3 151 0 + 1 + 1; omega
  · exact pz_ag_up (pz_ag_up (pz_ag_up (pz_ag_tr (pz_ag_mono a3 (by decide)) (pz_ag_tr (pz_ag_mono b3 (by decide)) (pz_ag_mono c3 (by decide)))) (by decide)) (by decide)) (by decide)
  · exact pz_ag_up (pz_ag_up (pz_ag_tr (pz_ag_mono a4 (by decide)) (pz_ag_tr (pz_ag_mono b4 (by decide)) (pz_ag_mono c4 (by decide)))) (by decide)) (by decide)
  · show z3 151 0 + 1 = _
    rw [w3]
theorem pz_weeksP {n N : Nat} (hN : N ≤ 20) : ∀ (r fu gu i c : Nat) (s z : px_Z), i + r = N → c ≤ i → r < fu → r < gu → pz_D n s z → z 151 0 + (r : Int) ≤ 60 → ∃ a s' z', l_R_weeks_19 fu s (N : Int) (c : Int) (i : Int) = some (a, s') ∧ l_M_weeks_23 gu z (N : Int) (c : Int) (i : Int) = some (a, z') ∧ pz_W n (pz_wo s') z' ∧ pz_U2 n s' z' ∧ ((pz_fg s ∨ 0 < r) → pz_fg s') ∧ pz_ek pz_kDR s s' ∧ pz_ek pz_kDM z z' := by
  intro r
  induction r with
  | zero =>
    intro fu gu i c s z hi hc hf hg hD hw
    obtain ⟨f, rfl⟩ : ∃ f, fu = f + 1 := ⟨fu - 1, by omega⟩
    obtain ⟨g, rfl⟩ : ∃ g, gu = g + 1 := ⟨gu - 1, by omega⟩
    rw [l_R_weeks_19, l_M_weeks_23, if_pos (by omega), if_pos (by omega)]
    refine ⟨_, s, z, rfl, rfl, hD.1, hD.2.1, fun q => ?_, pz_ek_rf, pz_ek_rf⟩
    rcases q with q | q
    · exact q
    · omega
  | succ r ih =>
    intro fu gu i c s z hi hc hf hg hD hw
    obtain ⟨f, rfl⟩ : ∃ f, fu = f + 1 := ⟨fu - 1, by omega⟩
    obtain ⟨g, rfl⟩ : ∃ g, gu = g + 1 := ⟨gu - 1, by omega⟩
    obtain ⟨s1, z1, e1, e2, hW1, hU1, h7, f1, f2⟩ := pz_remP hD.1 hD.2.1
    have h5 : z1 150 5 = 0 := (f2 150 5 (by decide) (by decide)).trans hD.2.2
    have w0 : z1 151 0 = z 151 0 := f2 151 0 (by decide) (by decide)
    obtain ⟨b, s2, z2, p1, p2, hW2, p3, p4, p5⟩ := pz_passP hW1 h5 (by omega)
    have hD2 : pz_D n s2 z2 := ⟨hW2, pz_ag_U2 hU1 p3 p4, (p4 150 5 (by decide)).trans h5⟩
    have h72 : pz_fg s2 := pz_fg_of (p3 145 10 (by decide)) (p3 145 13 (by decide)) h7
    rw [l_R_weeks_19, l_M_weeks_23, if_neg (by omega), if_neg (by omega), e1, e2, Option.bind_some, Option.bind_some, p1, p2, Option.bind_some, Option.bind_some]
    dsimp only
    rw [pz_wr_suc (i := c) (by omega), pz_wr_suc (i := i) (by omega)]
    have hgo : ∀ c' : Nat, c' ≤ i + 1 → ∃ a s' z', l_R_weeks_19 f s2 (N : Int) (c' : Int) ((i + 1 : Nat) : Int) = some (a, s') ∧ l_M_weeks_23 g z2 (N : Int) (c' : Int) ((i + 1 : Nat) : Int) = some (a, z') ∧ pz_W n (pz_wo s') z' ∧ pz_U2 n s' z' ∧ ((pz_fg s ∨ 0 < r + 1) → pz_fg s') ∧ pz_ek pz_kDR s s' ∧ pz_ek pz_kDM z z' := by
      intro c' hc'
      obtain ⟨a, s', z', q1, q2, q3, q4, q5, q6, q7⟩ := ih f g (i + 1) c' s2 z2 (by omega) hc' (by omega) (by omega) hD2 (by omega)
      exact ⟨a, s', z', q1, q2, q3, q4, fun _ => q5 (Or.inl h72), pz_ek_tr (pz_rem_DR f1) (pz_ek_tr (pz_ag_DR p3) q6), pz_ek_tr (pz_rem_DM f2) (pz_ek_tr (pz_ag_DM p4) q7)⟩
    cases b with
    | false => exact hgo c (by omega)
    | true => exact hgo (c + 1) (by omega)
theorem po_weeks {s : px_Z} (h : pz_I s) (v : Int) : pz_op (f_R_weeks s v) (fun u => f_M_weeks u v) := by
  refine pz_deed (R := fun s => f_R_weeks s v) h (fun n z hD => ?_)
  have hD0 := pz_D_told hD
  show ∃ a s' z', f_R_weeks s v = _ ∧ f_M_weeks z v = _ ∧ _
  have e4 : s 7 4 = z 151 0 := hD0.1.2.2.1.1.2.2.2.2.1
  have hg := hD0.1.2.2.1.2.1
  have hw0 : 0 ≤ z 151 0 ∧ z 151 0 ≤ 60 := ⟨hg.2.2.2.2.1, hg.2.2.2.2.2.1⟩
  unfold f_R_weeks f_M_weeks
  rw [pz_within, pz_isIn, pz_i1, pz_i1, e4, show (px_up z 150 0 0) 151 0 = z 151 0 from rfl]
  by_cases hv : 1 ≤ v ∧ v ≤ 20
  · rw [if_pos hv, if_pos hv, pz_wr_id (by omega) (by omega)]
    by_cases hs : z 151 0 + v ≤ 60
    · rw [if_pos hs, if_pos hs]
      obtain ⟨N, rfl⟩ : ∃ N : Nat, v = (N : Int) := ⟨v.toNat, by omega⟩
      obtain ⟨a, s', z', q1, q2, q3, q4, q5, q6, q7⟩ := pz_weeksP (n := n) (N := N) (by omega) N px_big px_big 0 0 s (px_up z 150 0 0) (by omega) (by omega) (pz_big_lt (by omega)) (pz_big_lt (by omega)) hD0 hs
      exact ⟨a, s', z', q1, q2, q3, q4, Or.inl (q5 (Or.inr (by omega))), q6, pz_ek_tr pz_kDM_told q7⟩
    · rw [if_neg hs, if_neg hs]
      exact ⟨-1, s, px_up z 150 0 0, rfl, rfl, hD0.1, hD0.2.1, Or.inr pz_ek_rf, pz_ek_rf, pz_kDM_told⟩
  · rw [if_neg hv, if_neg hv]
    exact ⟨-1, s, px_up z 150 0 0, rfl, rfl, hD0.1, hD0.2.1, Or.inr pz_ek_rf, pz_ek_rf, pz_kDM_told⟩
