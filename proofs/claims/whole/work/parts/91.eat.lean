/-! CREDIT, the RIVAL, a WEEK as a whole -/
theorem pz_nothing {z : px_Z} {n : Nat} (hn : n ≤ 8) (h1 : z 150 6 = (n : Int)) (hla : 0 ≤ z 151 6 ∧ z 151 6 ≤ 8) : ∃ y, f_M_asksNothing z = some y ∧ pz_ag [174] z y ∧ (∀ a, a ≤ 8 → y 174 a = pz_gv 0 0 0 (z 151 0) (z 151 5) 0 (z 151 4) ((pz_cnt (pz_hs (fun i => z 151 (16 + i)) n) : Nat) : Int) (pz_lw (z 154) (z 151 6 - 1)) (pz_pm a)) := by
  obtain ⟨y, e, ha, q3, q4, q5, q6, q8, q0, q1, q2, q7⟩ := pz_asksWeek (s := px_up (px_up (px_up (px_up z 174 0 0) 174 1 0) 174 2 0) 174 7 0) hn h1 hla
  refine ⟨y, ?_, ?_, fun a h => ?_⟩
  · unfold f_M_asksNothing
    rw [e]; rfl
  · exact pz_ag_tr (pz_ag_up (pz_ag_up (pz_ag_up (pz_ag_up pz_ag_rf (by decide)) (by decide)) (by decide)) (by decide)) ha
  · rcases (show a = 0 ∨ a = 1 ∨ a = 2 ∨ a = 3 ∨ a = 4 ∨ a = 5 ∨ a = 6 ∨ a = 7 ∨ a = 8 by omega) with rfl | rfl | rfl | rfl | rfl | rfl | rfl | rfl | rfl
    · exact q0
    · exact q1
    · exact q2
    · exact q3
    · exact q4
    · exact q5
    · exact q6
    · exact q7
    · exact q8
def pz_ea (m : Nat) (ln : Nat → Nat → Int) (code : Nat → Int) (wd wo w c cr : Int) : Int := pz_cl (pz_lv (pz_gv 0 0 0 w c 0 cr 0 0) ln code wd wo m 0) 0 99
theorem pz_ea_rg {m : Nat} {ln : Nat → Nat → Int} {code : Nat → Int} {wd wo w c cr : Int} : 0 ≤ pz_ea m ln code wd wo w c cr ∧ pz_ea m ln code wd wo w c cr ≤ 99 := by
  unfold pz_ea pz_cl
  repeat' split
  all_goals omega
/-- the second LAW of a state: its lines, what the class makes of it, what the reference makes of it -/
theorem pz_second {n : Nat} {s z : px_Z} (h : pz_W n (pz_wo s) z) : ∃ (m : Nat) (ln : Nat → Nat → Int) (code : Nat → Int), pz_LR 1 m ln code z ∧ (∀ (s' : px_Z) (w c cr wd wo : Int), pz_ag [7, 8, 9, 10, 11, 45, 20, 27, 46] s s' → ∃ u, (((f_World_giveNoThing s').bind (fun q1 => f_World_giveCommon q1 w c cr)).bind (fun q2 => f_Law_value_2 q2 wd wo)) = some (pz_lv (pz_gv 0 0 0 w c 0 cr 0 0) ln code wd wo m 0, u) ∧ pz_ag [27, 46] s' u) ∧ (∀ (z' : px_Z) (wd wo : Int), pz_ag [151, 155, 174, 175] z z' → (∀ a, a ≤ 8 → a ≠ 4 → a ≠ 6 → z' 174 a = pz_gv 0 0 0 (z' 174 3) (z' 174 5) 0 (z' 174 8) 0 0 (pz_pm a)) → ∃ y, f_M_lawTells z' 1 wd wo 0 99 = some (pz_ea m ln code (265 + wd) wo (z' 174 3) (z' 174 5) (z' 174 8), y) ∧ pz_ag [175] z' y) := by
  have h' := h
  obtain ⟨m, ln, code, hLR, hval⟩ := pz_weekR h
  obtain ⟨hn, w1, wF, w3, ⟨_, ⟨m2, w4c, w4d⟩⟩, -⟩ := h
  have w4d' : pz_WL 1 m2 (s 21 1) (s 22) (s 23) (s 24) (s 25) (s 26) z := w4d
  refine ⟨m2, pz_lnv (s 22) (s 23) (s 24) (s 25), s 26, w4d'.1, fun s' w c cr wd wo hs => ?_, fun z' wd wo hz hg => ?_⟩
  · have c22 : s' 22 = s 22 := funext (fun i => hs 22 i (by decide))
    have c23 : s' 23 = s 23 := funext (fun i => hs 23 i (by decide))
    have c24 : s' 24 = s 24 := funext (fun i => hs 24 i (by decide))
    have c25 : s' 25 = s 25 := funext (fun i => hs 25 i (by decide))
    have c26 : s' 26 = s 26 := funext (fun i => hs 26 i (by decide))
    obtain ⟨u, e, hu⟩ := pz_value_2_ok (s := px_up (px_up (px_up (px_up (px_up (px_up (px_up s' 46 0 0) 46 1 0) 46 2 0) 46 5 0) 46 3 w) 46 4 c) 46 6 cr) (m := m2) w4d'.1.1 ((hs 21 0 (by decide)).trans w4c) (by
      show ∀ l, l < m2 → pz_lo (pz_lnv (s' 22) (s' 23) (s' 24) (s' 25)) (s' 26) l
      rw [c22, c23, c24, c25, c26]; exact fun l hl => (w4d'.1.2.2 l hl).1) wd wo
    refine ⟨u, ?_, ?_⟩
    · show f_Law_value_2 (px_up (px_up (px_up (px_up (px_up (px_up (px_up s' 46 0 0) 46 1 0) 46 2 0) 46 5 0) 46 3 w) 46 4 c) 46 6 cr) wd wo = _
      rw [e]
      show some (pz_lv _ (pz_lnv (s' 22) (s' 23) (s' 24) (s' 25)) (s' 26) wd wo m2 0, u) = _
      rw [c22, c23, c24, c25, c26]
      congr 2
      refine pz_lv_x (size := s 21 1) (fun i k h1 h2 h3 => ?_) m2 0 (pz_WL_ln w4d')
      have h4 := w4d'.2.2.2.2 rfl i h1
      rcases (show k = 0 ∨ k = 1 ∨ k = 2 ∨ k = 3 ∨ k = 4 ∨ k = 5 ∨ k = 6 by omega) with rfl | rfl | rfl | rfl | rfl | rfl | rfl <;> rfl
    · exact pz_ag_tr (pz_ag_up (pz_ag_up (pz_ag_up (pz_ag_up (pz_ag_up (pz_ag_up (pz_ag_up pz_ag_rf (by decide)) (by decide)) (by decide)) (by decide)) (by decide)) (by decide)) (by decide)) (pz_ag_mono hu (by decide))
  · have hLR' : pz_LR 1 m2 (pz_lnv (s 22) (s 23) (s 24) (s 25)) (s 26) z' := pz_LR_ag w4d'.1 hz (fun c hc' => by simp only [List.mem_cons, List.not_mem_nil, or_false] at hc'; omega)
    obtain ⟨y, y2, y3⟩ := pz_tells (s := z') (g := fun k => if k = 7 then z' 174 4 else if k = 8 then z' 174 6 else pz_gv 0 0 0 (z' 174 3) (z' 174 5) 0 (z' 174 8) 0 0 k) (j := 1) (by decide) hLR' (fun a ha => by
      by_cases a4 : a = 4
      · subst a4; rfl
      · by_cases a6 : a = 6
        · subst a6; rfl
        · rw [hg a ha a4 a6]
          rcases (show a = 0 ∨ a = 1 ∨ a = 2 ∨ a = 3 ∨ a = 5 ∨ a = 7 ∨ a = 8 by omega) with rfl | rfl | rfl | rfl | rfl | rfl | rfl <;> rfl) wd wo 0 99
    refine ⟨y, ?_, y3⟩
    rw [show f_M_lawTells z' 1 wd wo 0 99 = f_M_lawTells z' ((1 : Nat) : Int) wd wo 0 99 from rfl, y2]
    unfold pz_ea
    rw [pz_lv_x (g := fun k => if k = 7 then z' 174 4 else if k = 8 then z' 174 6 else pz_gv 0 0 0 (z' 174 3) (z' 174 5) 0 (z' 174 8) 0 0 k) (h := pz_gv 0 0 0 (z' 174 3) (z' 174 5) 0 (z' 174 8) 0 0) (size := s 21 1) (fun i k h1 h2 h3 => ?_) m2 0 (pz_WL_ln w4d')]
    have h4 := w4d'.2.2.2.2 rfl i h1
    exact (if_neg (by omega)).trans (if_neg (by omega))
theorem pz_gv_tail {a b c d e f g h i h2 i2 : Int} : ∀ k, k < 7 → pz_gv a b c d e f g h i k = pz_gv a b c d e f g h2 i2 k := by
  intro k hk
  rcases (show k = 0 ∨ k = 1 ∨ k = 2 ∨ k = 3 ∨ k = 4 ∨ k = 5 ∨ k = 6 by omega) with rfl | rfl | rfl | rfl | rfl | rfl | rfl <;> rfl
theorem pz_eatR {s' : px_Z} {m : Nat} {ln : Nat → Nat → Int} {code : Nat → Int} {w c cr : Int} {u : px_Z} (h : (((f_World_giveNoThing s').bind (fun q1 => f_World_giveCommon q1 w c cr)).bind (fun q2 => f_Law_value_2 q2 267 1)) = some (pz_lv (pz_gv 0 0 0 w c 0 cr 0 0) ln code 267 1 m 0, u)) : f_World_eaten s' w c cr = some (pz_ea m ln code 267 1 w c cr, u) := by
  unfold f_World_eaten
  have e : f_World_giveNoThing s' = some (px_up (px_up (px_up (px_up s' 46 0 0) 46 1 0) 46 2 0) 46 5 0) := rfl
  rw [e, Option.bind_some] at h ⊢
  have e2 : f_World_giveCommon (px_up (px_up (px_up (px_up s' 46 0 0) 46 1 0) 46 2 0) 46 5 0) w c cr = some (px_up (px_up (px_up (px_up (px_up (px_up (px_up s' 46 0 0) 46 1 0) 46 2 0) 46 5 0) 46 3 w) 46 4 c) 46 6 cr) := rfl
  rw [e2, Option.bind_some] at h ⊢
  rw [h, Option.bind_some]
  dsimp only
  rw [pz_heldR _ _ _ _ (by decide)]
  rfl
theorem pz_drawP (s z : px_Z) (h : s 7 0 = z 151 1) {m : Int} (hm : 0 < m) : ∃ d st, f_Fate_draw s m = some (d, px_up s 7 0 st) ∧ f_M_draw z m = some (d, px_up z 151 1 st) := by
  refine ⟨(px_ush (px_wr (px_wr (1664525 * z 151 1) + 1013904223)) 8).tmod m, px_wr (px_wr (1664525 * z 151 1) + 1013904223), ?_, ?_⟩
  · unfold f_Fate_draw
    rw [if_neg (by omega), if_neg (by omega), h, Int.mul_comm (z 151 1) 1664525, pz_up_s]
  · unfold f_M_draw
    rw [if_neg (by omega), pz_up_s]
theorem pz_W_state {n : Nat} {s z : px_Z} (h : pz_W n (pz_wo s) z) (v : Int) : pz_W n (pz_wo (px_up s 7 0 v)) (px_up z 151 1 v) := by
  refine pz_W_F8 h (pz_ag_up pz_ag_rf (by decide)) (pz_ag_up pz_ag_rf (by decide)) ?_ h.2.2.2.2.2.2.2.2
  have wF := h.2.2.1
  obtain ⟨⟨a1, a2, a3, a4, a5, a6, a7⟩, b, c', d', e'⟩ := wF
  exact pz_F_lo ⟨⟨a1, a2, a3, a4, a5, a6, a7⟩, b, c', d', e'⟩ (fun i hi => pz_up_i (show i ≠ 1 by omega)) ⟨rfl, a2, a3, a4, a5, a6, a7⟩ b
theorem pz_W_credit {n : Nat} {s z : px_Z} (h : pz_W n (pz_wo s) z) {v : Int} (hv : 0 ≤ v ∧ v ≤ 9999) : pz_W n (pz_wo (px_up s 7 2 v)) (px_up z 151 4 v) := by
  refine pz_W_F8 h (pz_ag_up pz_ag_rf (by decide)) (pz_ag_up pz_ag_rf (by decide)) ?_ h.2.2.2.2.2.2.2.2
  have wF := h.2.2.1
  obtain ⟨⟨a1, a2, a3, a4, a5, a6, a7⟩, ⟨r1, r2, r3, r4, r5, r6, r7, r8, r9, r10, r11, r12, r13⟩, c', d', e'⟩ := wF
  exact pz_F_lo ⟨⟨a1, a2, a3, a4, a5, a6, a7⟩, ⟨r1, r2, r3, r4, r5, r6, r7, r8, r9, r10, r11, r12, r13⟩, c', d', e'⟩ (fun i hi => pz_up_i (show i ≠ 4 by omega)) ⟨a1, a2, rfl, a4, a5, a6, a7⟩ ⟨hv.1, hv.2, r3, r4, r5, r6, r7, r8, r9, r10, r11, r12, r13⟩
/-- what the reference does of EAT, in a thought or not -/
theorem pz_eatM {z : px_Z} {n m : Nat} {ln : Nat → Nat → Int} {code : Nat → Int} (hn : n ≤ 8) (h1 : z 150 6 = (n : Int)) (hla : 0 ≤ z 151 6 ∧ z 151 6 ≤ 8) (ht : ∀ (z' : px_Z) (wd wo : Int), pz_ag [151, 155, 174, 175] z z' → (∀ a, a ≤ 8 → a ≠ 4 → a ≠ 6 → z' 174 a = pz_gv 0 0 0 (z' 174 3) (z' 174 5) 0 (z' 174 8) 0 0 (pz_pm a)) → ∃ y, f_M_lawTells z' 1 wd wo 0 99 = some (pz_ea m ln code (265 + wd) wo (z' 174 3) (z' 174 5) (z' 174 8), y) ∧ pz_ag [175] z' y) (wd wo : Int) : ∃ y1 y2, f_M_asksNothing z = some y1 ∧ pz_ag [174] z y1 ∧ f_M_lawTells y1 1 wd wo 0 99 = some (pz_ea m ln code (265 + wd) wo (z 151 0) (z 151 5) (z 151 4), y2) ∧ pz_ag [174, 175] z y2 := by
  obtain ⟨y1, e1, a1, a2⟩ := pz_nothing hn h1 hla
  have k3 : y1 174 3 = z 151 0 := a2 3 (by decide)
  have k5 : y1 174 5 = z 151 5 := a2 5 (by decide)
  have k8 : y1 174 8 = z 151 4 := a2 8 (by decide)
  obtain ⟨y2, e2, a3⟩ := ht y1 wd wo (pz_ag_mono a1 (by decide)) (fun a ha a4 a6 => by
    rw [a2 a ha, k3, k5, k8]
    rcases (show a = 0 ∨ a = 1 ∨ a = 2 ∨ a = 3 ∨ a = 5 ∨ a = 7 ∨ a = 8 by omega) with rfl | rfl | rfl | rfl | rfl | rfl | rfl <;> rfl)
  rw [k3, k5, k8] at e2
  exact ⟨y1, y2, e1, a1, e2, pz_ag_tr (pz_ag_mono a1 (by decide)) (pz_ag_mono a3 (by decide))⟩
theorem pz_eatsP {n : Nat} {s z : px_Z} (h : pz_W n (pz_wo s) z) (h5 : z 150 5 = 0) : ∃ s' z', f_World_liveOnCredit s = some s' ∧ f_M_eats z = some z' ∧ pz_W n (pz_wo s') z' ∧ pz_ag [7, 27, 46] s s' ∧ pz_ag [151, 174, 175] z z' ∧ z' 151 0 = z 151 0 ∧ z' 151 7 = z 151 7 := by
  have hn := h.1
  have hF := h.2.2.1
  have hg := hF.2.1
  have e4 : s 7 4 = z 151 0 := hF.1.2.2.2.2.1
  have e3 : s 7 3 = z 151 5 := hF.1.2.2.2.1
  have e2 : s 7 2 = z 151 4 := hF.1.2.2.1
  have b2 : z 150 6 = (n : Int) := h.2.1.2.1
  have cards : s 6 3 = z 150 9 := h.2.1.2.2.2.1
  have cards0 : 0 ≤ z 150 9 := h.2.1.2.2.2.2.1
  obtain ⟨m, ln, code, hLR, hR, hM⟩ := pz_second h
  obtain ⟨u, u1, u2⟩ := hR s (s 7 4) (s 7 3) (s 7 2) 267 1 pz_ag_rf
  have eR := pz_eatR u1
  obtain ⟨y1, y2, m1, m2, m3, m4⟩ := pz_eatM hn b2 (by omega) hM 2 1
  have hea := pz_ea_rg (m := m) (ln := ln) (code := code) (wd := 267) (wo := 1) (w := z 151 0) (c := z 151 5) (cr := z 151 4)
  rw [e4, e3, e2] at eR
  have m3' : f_M_lawTells y1 1 2 1 0 99 = some (pz_ea m ln code 267 1 (z 151 0) (z 151 5) (z 151 4), y2) := m3
  generalize pz_ea m ln code 267 1 (z 151 0) (z 151 5) (z 151 4) = ea at eR m3' hea
  have hcr : 0 ≤ z 151 4 ∧ z 151 4 ≤ 9999 := by omega
  have v1 : f_Math_max u 0 (px_wr (z 151 4 - ea)) = pz_cl (z 151 4 - ea) 0 9999 := by
    unfold f_Math_max pz_cl
    rw [pz_wr_id (by omega) (by omega)]
    repeat' split
    all_goals omega
  have v2 : f_M_held y2 (px_wr (y1 151 4 - ea)) 0 9999 = pz_cl (z 151 4 - ea) 0 9999 := by
    rw [pz_heldM, m2 151 4 (by decide), pz_wr_id (by omega) (by omega)]
  have hcl : 0 ≤ pz_cl (z 151 4 - ea) 0 9999 ∧ pz_cl (z 151 4 - ea) 0 9999 ≤ 9999 := by
    unfold pz_cl
    repeat' split
    all_goals omega
  have hWu : pz_W n (pz_wo u) y2 := pz_W_ek h (pz_ek_ag (L := [27, 46]) ⟨fun _ => rfl, fun _ => rfl, trivial⟩ u2 pz_ek_rf) (pz_ek_ag (L := [174, 175]) ⟨fun _ => rfl, fun _ => rfl, trivial⟩ m4 pz_ek_rf)
  have hW1 := pz_W_credit hWu hcl
  have y5 : y2 150 5 = 0 := (m4 150 5 (by decide)).trans h5
  have y9 : y2 150 9 = z 150 9 := m4 150 9 (by decide)
  have u63 : u 6 3 = z 150 9 := (u2 6 3 (by decide)).trans cards
  have fs : pz_ag [7, 27, 46] s (px_up u 7 2 (pz_cl (z 151 4 - ea) 0 9999)) := pz_ag_up (pz_ag_mono u2 (by decide)) (by decide)
  have fz : pz_ag [151, 174, 175] z (px_up y2 151 4 (pz_cl (z 151 4 - ea) 0 9999)) := pz_ag_up (pz_ag_mono m4 (by decide)) (by decide)
  have z0 : (px_up y2 151 4 (pz_cl (z 151 4 - ea) 0 9999)) 151 0 = z 151 0 := m4 151 0 (by decide)
  have z7 : (px_up y2 151 4 (pz_cl (z 151 4 - ea) 0 9999)) 151 7 = z 151 7 := m4 151 7 (by decide)
  unfold f_World_liveOnCredit f_M_eats
  rw [e4, e3, e2, eR, m1, Option.bind_some, Option.bind_some, m3', Option.bind_some]
  dsimp only
  rw [v1, v2]
  generalize hT : px_up u 7 2 (pz_cl (z 151 4 - ea) 0 9999) = T at hW1 fs ⊢
  generalize hY : px_up y2 151 4 (pz_cl (z 151 4 - ea) 0 9999) = Y at hW1 fz z0 z7 ⊢
  have T72 : T 7 2 = pz_cl (z 151 4 - ea) 0 9999 := by rw [← hT, pz_up_s]
  have T63 : T 6 3 = z 150 9 := by rw [← hT]; exact u63
  have Y1504 : Y 151 4 = pz_cl (z 151 4 - ea) 0 9999 := by rw [← hY, pz_up_s]
  have Y1495 : Y 150 5 = 0 := by rw [← hY]; exact y5
  have Y1499 : Y 150 9 = z 150 9 := by rw [← hY]; exact y9
  clear v1 v2
  rw [T72, T63, Y1504, Y1495, Y1499, if_pos rfl]
  by_cases c1 : pz_cl (z 151 4 - ea) 0 9999 = 0
  · rw [if_pos (by omega), if_pos c1]
    exact ⟨T, Y, rfl, rfl, hW1, fs, fz, z0, z7⟩
  · rw [if_neg (by omega), if_neg c1]
    by_cases c2 : z 150 9 = 0
    · rw [if_pos (by omega), if_pos c2]
      exact ⟨T, Y, rfl, rfl, hW1, fs, fz, z0, z7⟩
    · rw [if_neg (by omega), if_neg c2]
      obtain ⟨d, st, d1, d2⟩ := pz_drawP T Y hW1.2.2.1.1.1 (m := 100) (by decide)
      rw [d1, d2, Option.bind_some, Option.bind_some]
      dsimp only
      have hW2 := pz_W_state hW1 st
      have fs2 : pz_ag [7, 27, 46] s (px_up T 7 0 st) := pz_ag_up fs (by decide)
      have fz2 : pz_ag [151, 174, 175] z (px_up Y 151 1 st) := pz_ag_up fz (by decide)
      have Y9' : (px_up Y 151 1 st) 150 9 = z 150 9 := Y1499
      by_cases c3 : d < z 150 9
      · rw [if_neg (by omega), if_pos (show d < (px_up Y 151 1 st) 150 9 by rw [Y9']; exact c3)]
        have hF2 := hW2.2.2.1
        have hg2 := hF2.2.1
        have q4 : (px_up T 7 0 st) 7 4 = (px_up Y 151 1 st) 151 0 := hF2.1.2.2.2.2.1
        have q3 : (px_up T 7 0 st) 7 3 = (px_up Y 151 1 st) 151 5 := hF2.1.2.2.2.1
        have q2 : (px_up T 7 0 st) 7 2 = (px_up Y 151 1 st) 151 4 := hF2.1.2.2.1
        generalize hT2 : px_up T 7 0 st = T2 at hW2 fs2 q4 q3 q2 ⊢
        generalize hY2 : px_up Y 151 1 st = Y2 at hW2 fz2 hg2 q4 q3 q2 ⊢
        have Y20 : Y2 151 0 = z 151 0 := by rw [← hY2]; exact z0
        have Y27 : Y2 151 7 = z 151 7 := by rw [← hY2]; exact z7
        obtain ⟨m', ln', code', hLR', hR', hM'⟩ := pz_second hW2
        obtain ⟨w, w1, w2⟩ := hR' T2 (T2 7 4) (T2 7 3) (T2 7 2) 268 0 pz_ag_rf
        obtain ⟨x1, x2, n1, n2, n3, n4⟩ := pz_eatM hn (hW2.2.1.2.1) (by omega) hM' 3 0
        have n3' : f_M_lawTells x1 1 3 0 0 99 = some (pz_ea m' ln' code' 268 0 (Y2 151 0) (Y2 151 5) (Y2 151 4), x2) := n3
        have hea2 := pz_ea_rg (m := m') (ln := ln') (code := code') (wd := 268) (wo := 0) (w := Y2 151 0) (c := Y2 151 5) (cr := Y2 151 4)
        have eG : f_World_giveNoThing T2 = some (px_up (px_up (px_up (px_up T2 46 0 0) 46 1 0) 46 2 0) 46 5 0) := rfl
        rw [eG, Option.bind_some] at w1 ⊢
        rw [show (px_up (px_up (px_up (px_up T2 46 0 0) 46 1 0) 46 2 0) 46 5 0) 7 4 = T2 7 4 from rfl, show (px_up (px_up (px_up (px_up T2 46 0 0) 46 1 0) 46 2 0) 46 5 0) 7 3 = T2 7 3 from rfl, show (px_up (px_up (px_up (px_up T2 46 0 0) 46 1 0) 46 2 0) 46 5 0) 7 2 = T2 7 2 from rfl]
        have eC : f_World_giveCommon (px_up (px_up (px_up (px_up T2 46 0 0) 46 1 0) 46 2 0) 46 5 0) (T2 7 4) (T2 7 3) (T2 7 2) = some (px_up (px_up (px_up (px_up (px_up (px_up (px_up T2 46 0 0) 46 1 0) 46 2 0) 46 5 0) 46 3 (T2 7 4)) 46 4 (T2 7 3)) 46 6 (T2 7 2)) := rfl
        rw [eC, Option.bind_some] at w1 ⊢
        rw [w1, Option.bind_some, n1, Option.bind_some, n3', Option.bind_some]
        dsimp only
        have hgain : pz_cl (pz_lv (pz_gv 0 0 0 (T2 7 4) (T2 7 3) 0 (T2 7 2) 0 0) ln' code' 268 0 m' 0) 0 99 = pz_ea m' ln' code' 268 0 (Y2 151 0) (Y2 151 5) (Y2 151 4) := by
          rw [q4, q3, q2]; rfl
        rw [pz_heldR _ _ _ _ (by decide), hgain]
        generalize pz_ea m' ln' code' 268 0 (Y2 151 0) (Y2 151 5) (Y2 151 4) = ga at hea2 ⊢
        have k1 : w 7 2 = Y2 151 4 := (w2 7 2 (by decide)).trans q2
        have k2 : x1 151 4 = Y2 151 4 := n2 151 4 (by decide)
        have hcr2 : 0 ≤ Y2 151 4 ∧ Y2 151 4 ≤ 9999 := ⟨hg2.1, hg2.2.1⟩
        have v3 : f_Math_min w 9999 (px_wr (w 7 2 + ga)) = pz_cl (Y2 151 4 + ga) 0 9999 := by
          unfold f_Math_min pz_cl
          rw [k1, pz_wr_id (by omega) (by omega)]
          repeat' split
          all_goals omega
        have v4 : f_M_held x2 (px_wr (x1 151 4 + ga)) 0 9999 = pz_cl (Y2 151 4 + ga) 0 9999 := by
          rw [pz_heldM, k2, pz_wr_id (by omega) (by omega)]
        have hcl2 : 0 ≤ pz_cl (Y2 151 4 + ga) 0 9999 ∧ pz_cl (Y2 151 4 + ga) 0 9999 ≤ 9999 := by
          unfold pz_cl
          repeat' split
          all_goals omega
        rw [v3, v4]
        have hWw : pz_W n (pz_wo w) x2 := pz_W_ek hW2 (pz_ek_ag (L := [27, 46]) ⟨fun _ => rfl, fun _ => rfl, trivial⟩ w2 pz_ek_rf) (pz_ek_ag (L := [174, 175]) ⟨fun _ => rfl, fun _ => rfl, trivial⟩ n4 pz_ek_rf)
        refine ⟨_, _, rfl, rfl, pz_W_credit hWw hcl2, pz_ag_up (pz_ag_tr fs2 (pz_ag_mono w2 (by decide))) (by decide), pz_ag_up (pz_ag_tr fz2 (pz_ag_mono n4 (by decide))) (by decide), ?_, ?_⟩
        · exact (n4 151 0 (by decide)).trans Y20
        · exact (n4 151 7 (by decide)).trans Y27
      · rw [if_pos (by omega), if_neg (show ¬ (d < (px_up Y 151 1 st) 150 9) by rw [Y9']; exact c3)]
        exact ⟨_, _, rfl, rfl, hW2, fs2, fz2, z0, z7⟩
