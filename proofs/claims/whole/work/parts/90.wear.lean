/-! A WEEK -/
theorem pz_e1_x {g h : Nat → Int} {c : Int} (e : ∀ k : Nat, k < 9 → c = 256 + (k : Int) → g k = h k) (st : List Int) : pz_e1 g c st = pz_e1 h c st := by
  unfold pz_e1
  split
  · rfl
  · split
    · rename_i h2
      rw [e (c - 256).toNat (by omega) (by omega)]
    · rfl
theorem pz_ev_x {g h code : Nat → Int} {size : Int} (e : ∀ i k : Nat, (i : Int) < size → k < 9 → code i = 256 + (k : Int) → g k = h k) : ∀ (m k : Nat) (st : List Int), ((k + m : Nat) : Int) ≤ size → pz_ev g code m k st = pz_ev h code m k st := by
  intro m
  induction m with
  | zero => intro k st _; rfl
  | succ m ih =>
    intro k st hk
    rw [pz_ev, pz_ev, pz_e1_x (fun j hj hc => e k j (by omega) hj hc) st]
    exact ih (k + 1) _ (by omega)
theorem pz_lv_x {g h code : Nat → Int} {size : Int} {ln : Nat → Nat → Int} {w wo : Int} (e : ∀ i k : Nat, (i : Int) < size → k < 9 → code i = 256 + (k : Int) → g k = h k) : ∀ (m l : Nat), (∀ j, l ≤ j → j < l + m → 0 ≤ ln j 1 ∧ ln j 1 ≤ ln j 2 ∧ ln j 2 ≤ ln j 3 ∧ ln j 3 ≤ size) → pz_lv g ln code w wo m l = pz_lv h ln code w wo m l := by
  intro m
  induction m with
  | zero => intro l _; rfl
  | succ m ih =>
    intro l hl
    have h0 := hl l (Nat.le_refl _) (by omega)
    have e1 : pz_sg g code (ln l 2) (ln l 3) = pz_sg h code (ln l 2) (ln l 3) := by
      unfold pz_sg
      rw [pz_ev_x e _ _ _ (by omega)]
    have e2 : pz_sg g code (ln l 1) (ln l 2) = pz_sg h code (ln l 1) (ln l 2) := by
      unfold pz_sg
      rw [pz_ev_x e _ _ _ (by omega)]
    rw [pz_lv, pz_lv, e1, e2, ih (l + 1) (fun j h1 h2 => hl j (by omega) (by omega))]
theorem pz_WL_ln {j m : Nat} {size : Int} {a b c d code : Nat → Int} {v : px_Z} (h : pz_WL j m size a b c d code v) : ∀ l, 0 ≤ l → l < 0 + m → 0 ≤ pz_lnv a b c d l 1 ∧ pz_lnv a b c d l 1 ≤ pz_lnv a b c d l 2 ∧ pz_lnv a b c d l 2 ≤ pz_lnv a b c d l 3 ∧ pz_lnv a b c d l 3 ≤ size := by
  intro l _ hl
  obtain ⟨⟨hm, h0, hl2⟩, s0, s1, hd, hw⟩ := h
  have h1 := (hl2 l (by omega)).1
  exact ⟨h1.1, h1.2.1, h1.2.2.1, hd l (by omega)⟩
theorem pz_weekR {n : Nat} {s z : px_Z} (h : pz_W n (pz_wo s) z) : ∃ (m : Nat) (ln : Nat → Nat → Int) (code : Nat → Int), pz_LR 1 m ln code z ∧ ∀ (s' : px_Z), pz_ag [7, 8, 9, 10, 11, 45, 20, 27, 46] s s' → ∀ (g : Nat → Int) (w wo : Int), (∀ k, k < 7 → s' 46 k = g k) → ∃ u, f_Law_value_2 s' w wo = some (pz_lv g ln code w wo m 0, u) ∧ pz_ag [27] s' u := by
  obtain ⟨hn, w1, wF, w3, ⟨_, ⟨m, w4c, w4d⟩⟩, -⟩ := h
  have w4d' : pz_WL 1 m (s 21 1) (s 22) (s 23) (s 24) (s 25) (s 26) z := w4d
  refine ⟨m, pz_lnv (s 22) (s 23) (s 24) (s 25), s 26, w4d'.1, fun s' hs g w wo hg => ?_⟩
  have c22 : s' 22 = s 22 := funext (fun i => hs 22 i (by decide))
  have c23 : s' 23 = s 23 := funext (fun i => hs 23 i (by decide))
  have c24 : s' 24 = s 24 := funext (fun i => hs 24 i (by decide))
  have c25 : s' 25 = s 25 := funext (fun i => hs 25 i (by decide))
  have c26 : s' 26 = s 26 := funext (fun i => hs 26 i (by decide))
  obtain ⟨u, e, hu⟩ := pz_value_2_ok (s := s') (m := m) w4d'.1.1 ((hs 21 0 (by decide)).trans w4c) (by rw [c22, c23, c24, c25, c26]; exact fun l hl => (w4d'.1.2.2 l hl).1) w wo
  refine ⟨u, ?_, hu⟩
  rw [e, c22, c23, c24, c25, c26]
  congr 2
  refine pz_lv_x (size := s 21 1) (fun i k h1 h2 h3 => ?_) m 0 (pz_WL_ln w4d')
  have h4 := w4d'.2.2.2.2 rfl i h1
  exact hg k (by omega)
theorem pz_give {s : px_Z} {t : Nat} (ht : t < 8) (tk : Int) : f_World_giveThing s (t : Int) tk = some (px_up (px_up (px_up (px_up s 46 0 (t : Int)) 46 1 (s 12 t)) 46 2 (s 8 t)) 46 5 (if tk = 0 then 0 else 1)) := by
  have p8 : 0 ≤ (t : Int) ∧ (t : Int) < 8 := by omega
  unfold f_World_giveThing
  simp only [if_pos p8, Int.toNat_natCast]
  simp (disch := decide) only [pz_up_c]
  by_cases h : tk = 0
  · simp only [if_pos h]
  · simp only [if_neg h]
theorem pz_w8 {i : Nat} (h : i < 8) : px_wr (8 + (i : Int)) = ((8 + i : Nat) : Int) := by rw [pz_wr_id (by omega) (by omega)]; omega
theorem pz_wearP {n : Nat} : ∀ (r fu gu i : Nat) (s z : px_Z), i + r = n → r < fu → r < gu → pz_W n (pz_wo s) z → s 46 3 = s 7 4 → s 46 4 = s 7 3 → s 46 6 = s 7 2 → ∃ s' z', l_World_wearAll_13 fu s (i : Int) = some s' ∧ l_M_wears_2 gu z (i : Int) = some z' ∧ pz_W n (pz_wo s') z' ∧ pz_ag [8, 27, 46] s s' ∧ pz_ag [151, 174, 175] z z' ∧ (∀ j, j < 8 ∨ 16 ≤ j → z' 151 j = z 151 j) := by
  intro r
  induction r with
  | zero =>
    intro fu gu i s z hi hf hg hW g3 g4 g6
    obtain ⟨f, rfl⟩ : ∃ f, fu = f + 1 := ⟨fu - 1, by omega⟩
    obtain ⟨g, rfl⟩ : ∃ g, gu = g + 1 := ⟨gu - 1, by omega⟩
    have b1 : s 6 1 = (n : Int) := hW.2.1.1
    have b2 : z 150 6 = (n : Int) := hW.2.1.2.1
    rw [l_World_wearAll_13, l_M_wears_2, b1, b2, if_pos (by omega), if_pos (by omega)]
    exact ⟨s, z, rfl, rfl, hW, pz_ag_rf, pz_ag_rf, fun _ _ => rfl⟩
  | succ r ih =>
    intro fu gu i s z hi hf hg hW g3 g4 g6
    obtain ⟨f, rfl⟩ : ∃ f, fu = f + 1 := ⟨fu - 1, by omega⟩
    obtain ⟨g, rfl⟩ : ∃ g, gu = g + 1 := ⟨gu - 1, by omega⟩
    have hn := hW.1
    have b1 : s 6 1 = (n : Int) := hW.2.1.1
    have b2 : z 150 6 = (n : Int) := hW.2.1.2.1
    have hF := hW.2.2.1
    have hc := hF.2.2.1 i (by omega)
    have k9 : s 9 i = z 151 (16 + i) := hc.2.1
    have k8 : s 8 i = z 151 (8 + i) := hc.1
    have r8 : 0 ≤ z 151 (8 + i) ∧ z 151 (8 + i) ≤ 99 := ⟨hc.2.2.2.2.1, hc.2.2.2.2.2.1⟩
    have k12 : s 12 i = z 154 i := (hW.2.2.2.1 i (by omega)).1
    have e4 : s 7 4 = z 151 0 := hF.1.2.2.2.2.1
    have e3 : s 7 3 = z 151 5 := hF.1.2.2.2.1
    have e2 : s 7 2 = z 151 4 := hF.1.2.2.1
    have hg6 := hF.2.1
    have p8 : 0 ≤ (i : Int) ∧ (i : Int) < 8 := by omega
    have hi8 : i < 8 := by omega
    have p40 : 0 ≤ ((8 + i : Nat) : Int) ∧ ((8 + i : Nat) : Int) < 40 := by omega
    have hhome : f_M_isHome z (i : Int) = some (if s 9 i = 1 then 1 else 0) := by
      unfold f_M_isHome
      rw [pz_wr_id (by omega) (by omega), if_pos (by omega), show (16 + (i : Int)).toNat = 16 + i by omega, k9]
      split <;> rfl
    rw [l_World_wearAll_13, l_M_wears_2, b1, b2, hhome, Option.bind_some, pz_i1]
    simp only [if_neg (show ¬ ((n : Int) ≤ (i : Int)) by omega), if_pos p8, Int.toNat_natCast]
    rw [pz_wr_suc (by omega)]
    by_cases h1 : s 9 i = 1
    · rw [if_pos h1, if_pos h1]
      exact ih f g (i + 1) s z (by omega) (by omega) (by omega) hW g3 g4 g6
    · rw [if_neg h1, if_neg h1]
      obtain ⟨m, ln, code, hLR, hval⟩ := pz_weekR hW
      obtain ⟨y1, a1, a2, a3⟩ := pz_asks (s := z) (n := n) (t := i) hn b2 (by omega) (by omega)
      -- what both give
      have hstep : ∀ tk : Int, tk = (if s 9 i = 2 then 1 else 0) → ∃ v u y, (f_World_giveThing s (i : Int) tk).bind (fun q => f_Law_value_2 q 266 1) = some (v, u) ∧ f_M_lawTells y1 1 1 1 0 20 = some (pz_cl v 0 20, y) ∧ pz_ag [27, 46] s u ∧ u 46 3 = s 46 3 ∧ u 46 4 = s 46 4 ∧ u 46 6 = s 46 6 ∧ pz_ag [175] y1 y := by
        intro tk htk
        have hgv : ∀ k, k < 7 → (px_up (px_up (px_up (px_up s 46 0 (i : Int)) 46 1 (s 12 i)) 46 2 (s 8 i)) 46 5 (if tk = 0 then 0 else 1)) 46 k = pz_gv (i : Int) (z 154 i) (z 151 (8 + i)) (z 151 0) (z 151 5) (if z 151 (16 + i) = 2 then 1 else 0) (z 151 4) ((pz_cnt (pz_hs (fun i => z 151 (16 + i)) n) : Nat) : Int) (pz_lw (z 154) (z 151 6 - 1)) k := by
          intro k hk
          rcases (show k = 0 ∨ k = 1 ∨ k = 2 ∨ k = 3 ∨ k = 4 ∨ k = 5 ∨ k = 6 by omega) with rfl | rfl | rfl | rfl | rfl | rfl | rfl
          · rfl
          · exact k12
          · exact k8
          · exact g3.trans e4
          · exact g4.trans e3
          · show (if tk = 0 then (0 : Int) else 1) = if z 151 (16 + i) = 2 then 1 else 0
            rw [htk, ← k9]
            split <;> simp
          · exact g6.trans e2
        obtain ⟨u, u1, u2⟩ := hval _ (pz_ag_up (pz_ag_up (pz_ag_up (pz_ag_up pz_ag_rf (by decide)) (by decide)) (by decide)) (by decide)) _ 266 1 hgv
        have hLR' : pz_LR 1 m ln code y1 := pz_LR_ag hLR a2 (fun c hc' => by rw [List.mem_singleton] at hc'; omega)
        obtain ⟨y, y2, y3⟩ := pz_tells (s := y1) (g := pz_gv (i : Int) (z 154 i) (z 151 (8 + i)) (z 151 0) (z 151 5) (if z 151 (16 + i) = 2 then 1 else 0) (z 151 4) ((pz_cnt (pz_hs (fun i => z 151 (16 + i)) n) : Nat) : Int) (pz_lw (z 154) (z 151 6 - 1))) (j := 1) (by decide) hLR' a3 1 1 0 20
        refine ⟨_, u, y, ?_, y2, ?_, ?_, ?_, ?_, y3⟩
        · rw [pz_give hi8, Option.bind_some, u1]
          rfl
        · exact pz_ag_tr (pz_ag_up (pz_ag_up (pz_ag_up (pz_ag_up pz_ag_rf (by decide)) (by decide)) (by decide)) (by decide)) (pz_ag_mono u2 (by decide))
        · exact u2 46 3 (by decide)
        · exact u2 46 4 (by decide)
        · exact u2 46 6 (by decide)
      have hfin : ∀ (v : Int) (u y : px_Z), pz_ag [27, 46] s u → u 46 3 = s 46 3 → u 46 4 = s 46 4 → u 46 6 = s 46 6 → pz_ag [175] y1 y → ∃ s' z', l_World_wearAll_13 f (px_up u 8 i (f_Math_min u 99 (px_wr (u 8 i + f_R_held u v 0 20)))) ((i + 1 : Nat) : Int) = some s' ∧ l_M_wears_2 g (px_up y 151 (8 + i) (f_M_held y (px_wr (y1 151 (8 + i) + pz_cl v 0 20)) 0 99)) ((i + 1 : Nat) : Int) = some z' ∧ pz_W n (pz_wo s') z' ∧ pz_ag [8, 27, 46] s s' ∧ pz_ag [151, 174, 175] z z' ∧ (∀ j, j < 8 ∨ 16 ≤ j → z' 151 j = z 151 j) := by
        intro v u y hu hu3 hu4 hu6 hy
        have hinc : 0 ≤ pz_cl v 0 20 ∧ pz_cl v 0 20 ≤ 20 := by
          unfold pz_cl
          repeat' split
          all_goals omega
        have v1 : f_Math_min u 99 (px_wr (u 8 i + f_R_held u v 0 20)) = pz_cl (z 151 (8 + i) + pz_cl v 0 20) 0 99 := by
          rw [pz_heldR _ _ _ _ (by decide), hu 8 i (by decide), k8, pz_wr_id (by omega) (by omega)]
          generalize pz_cl v 0 20 = x at hinc ⊢
          unfold f_Math_min pz_cl
          repeat' split
          all_goals omega
        have v2 : f_M_held y (px_wr (y1 151 (8 + i) + pz_cl v 0 20)) 0 99 = pz_cl (z 151 (8 + i) + pz_cl v 0 20) 0 99 := by
          rw [pz_heldM, a2 151 _ (by decide), pz_wr_id (by omega) (by omega)]
        have hrg : 0 ≤ pz_cl (z 151 (8 + i) + pz_cl v 0 20) 0 99 ∧ pz_cl (z 151 (8 + i) + pz_cl v 0 20) 0 99 ≤ 99 := by
          generalize pz_cl v 0 20 = x at hinc ⊢
          unfold pz_cl
          repeat' split
          all_goals omega
        rw [v1, v2]
        have hy' : pz_ag [174, 175] z y := pz_ag_tr (pz_ag_mono a2 (by decide)) (pz_ag_mono hy (by decide))
        have hW1 : pz_W n (pz_wo (px_up u 8 i (pz_cl (z 151 (8 + i) + pz_cl v 0 20) 0 99))) (px_up y 151 (8 + i) (pz_cl (z 151 (8 + i) + pz_cl v 0 20) 0 99)) := by
          refine pz_W_F8 hW (pz_ag_up (pz_ag_mono hu (by decide)) (by decide)) (pz_ag_up (pz_ag_mono hy' (by decide)) (by decide)) ?_ ?_
          · have hF' : pz_F n (u 7) (u 8) (u 9) (u 10) (u 11) (y 151) := pz_F_congr hF (fun i _ => hu 7 i (by decide)) (fun i _ => hu 8 i (by decide)) (fun i _ => hu 9 i (by decide)) (fun i _ => hu 10 i (by decide)) (fun i _ => hu 11 i (by decide)) (fun i _ => hy' 151 i (by decide)) hn
            exact pz_F_wear hF' hn (by omega) hrg (fun j => pz_up_same u 8 i j _) (fun j => pz_up_same y 151 (8 + i) j _)
          · intro k hk
            show u 45 k = y 155 k
            rw [hu 45 k (by decide), hy' 155 k (by decide)]
            exact hW.2.2.2.2.2.2.2.2 k hk
        obtain ⟨s', z', q1, q2, q3, q4, q5, q6⟩ := ih f g (i + 1) _ _ (by omega) (by omega) (by omega) hW1 (by
          show u 46 3 = u 7 4
          rw [hu3, hu 7 4 (by decide)]; exact g3) (by
          show u 46 4 = u 7 3
          rw [hu4, hu 7 3 (by decide)]; exact g4) (by
          show u 46 6 = u 7 2
          rw [hu6, hu 7 2 (by decide)]; exact g6)
        refine ⟨s', z', q1, q2, q3, ?_, ?_, fun j hj => ?_⟩
        · exact pz_ag_tr (pz_ag_up (pz_ag_mono hu (by decide)) (by decide)) q4
        · exact pz_ag_tr (pz_ag_up (pz_ag_mono hy' (by decide)) (by decide)) q5
        · rw [q6 j hj, pz_up_i (by omega)]
          exact hy' 151 j (by decide)
      rw [a1, Option.bind_some]
      simp only [pz_w8 hi8, if_pos p40, Int.toNat_natCast]
      by_cases h2 : s 9 i = 2
      · rw [if_pos h2]
        obtain ⟨v, u, y, t1, t2, t3, t4, t5, t6, t7⟩ := hstep 1 (by rw [if_pos h2])
        rw [pz_give hi8, Option.bind_some] at t1
        rw [pz_give hi8, Option.bind_some, t1, Option.bind_some, t2, Option.bind_some]
        exact hfin v u y t3 t4 t5 t6 t7
      · rw [if_neg h2]
        obtain ⟨v, u, y, t1, t2, t3, t4, t5, t6, t7⟩ := hstep 0 (by rw [if_neg h2])
        rw [pz_give hi8, Option.bind_some] at t1
        rw [pz_give hi8, Option.bind_some, t1, Option.bind_some, t2, Option.bind_some]
        exact hfin v u y t3 t4 t5 t6 t7
theorem pz_wearAllP {n : Nat} {s z : px_Z} (h : pz_W n (pz_wo s) z) : ∃ s' z', f_World_wearAll s = some s' ∧ f_M_wears z = some z' ∧ pz_W n (pz_wo s') z' ∧ pz_ag [8, 27, 46] s s' ∧ pz_ag [151, 174, 175] z z' ∧ (∀ j, j < 8 ∨ 16 ≤ j → z' 151 j = z 151 j) := by
  have hn := h.1
  have hW1 : pz_W n (pz_wo (px_up (px_up (px_up s 46 3 (s 7 4)) 46 4 (s 7 3)) 46 6 (s 7 2))) z := pz_W_ek h (pz_ek_up rfl (pz_ek_up rfl (pz_ek_up rfl pz_ek_rf))) pz_ek_rf
  obtain ⟨s', z', q1, q2, q3, q4, q5, q6⟩ := pz_wearP n px_big px_big 0 _ _ (by omega) (pz_big_lt (by omega)) (pz_big_lt (by omega)) hW1 rfl rfl rfl
  refine ⟨s', z', ?_, q2, q3, ?_, q5, q6⟩
  · unfold f_World_wearAll f_World_giveCommon
    rw [Option.bind_some]
    exact q1
  · exact pz_ag_tr (pz_ag_up (pz_ag_up (pz_ag_up pz_ag_rf (by decide)) (by decide)) (by decide)) q4
