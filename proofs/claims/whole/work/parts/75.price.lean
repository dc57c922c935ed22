theorem pz_up_c {f : px_Z} {k i a b : Nat} {v : Int} (h : a ≠ k) : px_up f k i v a b = f a b := if_neg (fun q => h q.1)
theorem pz_up_i {f : px_Z} {k i b : Nat} {v : Int} (h : b ≠ i) : px_up f k i v k b = f k b := if_neg (fun q => h q.2)
theorem pz_up_s {f : px_Z} {k i : Nat} {v : Int} : px_up f k i v k i = v := if_pos ⟨rfl, rfl⟩
/-! prices -/
def pz_gv (a b c d e f g h i : Int) : Nat → Int
  | 0 => a
  | 1 => b
  | 2 => c
  | 3 => d
  | 4 => e
  | 5 => f
  | 6 => g
  | 7 => h
  | _ => i
theorem pz_lt9 {k : Nat} (h : k < 9) : k = 0 ∨ k = 1 ∨ k = 2 ∨ k = 3 ∨ k = 4 ∨ k = 5 ∨ k = 6 ∨ k = 7 ∨ k = 8 := by omega
theorem pz_ev_g {g h code : Nat → Int} (e : ∀ k, k < 9 → g k = h k) : ∀ (m k : Nat) (st : List Int), pz_ev g code m k st = pz_ev h code m k st := by
  intro m
  induction m with
  | zero => intro k st; rfl
  | succ m ih =>
    intro k st
    rw [pz_ev, pz_ev, ih]
    congr 1
    unfold pz_e1
    split
    · rfl
    · split
      · rw [e _ (by omega)]
      · rfl
theorem pz_lv_g {g h code : Nat → Int} {ln : Nat → Nat → Int} {w wo : Int} (e : ∀ k, k < 9 → g k = h k) : ∀ (m l : Nat), pz_lv g ln code w wo m l = pz_lv h ln code w wo m l := by
  have h1 : ∀ a b, pz_sg g code a b = pz_sg h code a b := fun a b => by unfold pz_sg; rw [pz_ev_g e]
  intro m
  induction m with
  | zero => intro l; rfl
  | succ m ih => intro l; rw [pz_lv, pz_lv, ih, h1, h1]
/-- a price: the LAW (m lines ln over code), what it is given -/
def pz_pr (m : Nat) (ln : Nat → Nat → Int) (code g : Nat → Int) (wo : Int) : Int := pz_cl (pz_lv g ln code 265 wo m 0) 1 9999
theorem pz_pr_g {m : Nat} {ln : Nat → Nat → Int} {code g h : Nat → Int} {wo : Int} (e : ∀ k, k < 9 → g k = h k) : pz_pr m ln code g wo = pz_pr m ln code h wo := by
  unfold pz_pr; rw [pz_lv_g e]
theorem pz_pr_rg {m : Nat} {ln : Nat → Nat → Int} {code g : Nat → Int} {wo : Int} : 1 ≤ pz_pr m ln code g wo ∧ pz_pr m ln code g wo ≤ 9999 := by
  unfold pz_pr pz_cl
  repeat' split
  all_goals omega
theorem pz_priceThenR {s : px_Z} {m t : Nat} (hm : m ≤ 16) (h0 : s 14 0 = (m : Int)) (hl : ∀ l, l < m → pz_lo (pz_lnv (s 15) (s 16) (s 17) (s 18)) (s 19) l) (ht : t < 8) (wk hm' la tk : Int) : ∃ u, f_World_priceThen s (t : Int) wk hm' la tk = some (pz_pr m (pz_lnv (s 15) (s 16) (s 17) (s 18)) (s 19) (pz_gv (t : Int) (s 12 t) (s 8 t) wk (s 7 3) (if tk = 0 then 0 else 1) (s 7 2) hm' la) (s 12 t), u) ∧ pz_ag [20, 46] s u := by
  have key : ∀ z : px_Z, pz_ag [46] s z → (∀ k, k < 9 → z 46 k = pz_gv (t : Int) (s 12 t) (s 8 t) wk (s 7 3) (if tk = 0 then 0 else 1) (s 7 2) hm' la k) → ∃ u, (f_Law_value z 265 (z 12 t)).bind (fun q4 => some (f_R_held q4.2 q4.1 1 9999, q4.2)) = some (pz_pr m (pz_lnv (s 15) (s 16) (s 17) (s 18)) (s 19) (pz_gv (t : Int) (s 12 t) (s 8 t) wk (s 7 3) (if tk = 0 then 0 else 1) (s 7 2) hm' la) (s 12 t), u) ∧ pz_ag [20, 46] s u := by
    intro z hz hg
    have c14 : z 14 = s 14 := funext (fun i => hz 14 i (by decide))
    have c15 : z 15 = s 15 := funext (fun i => hz 15 i (by decide))
    have c16 : z 16 = s 16 := funext (fun i => hz 16 i (by decide))
    have c17 : z 17 = s 17 := funext (fun i => hz 17 i (by decide))
    have c18 : z 18 = s 18 := funext (fun i => hz 18 i (by decide))
    have c19 : z 19 = s 19 := funext (fun i => hz 19 i (by decide))
    obtain ⟨u, e, hu⟩ := pz_value_ok (s := z) hm (by rw [c14]; exact h0) (by rw [c15, c16, c17, c18, c19]; exact hl) 265 (z 12 t)
    rw [e, Option.bind_some, pz_heldR _ _ _ _ (by decide), c15, c16, c17, c18, c19, hz 12 t (by decide)]
    refine ⟨u, ?_, pz_ag_tr (pz_ag_mono hz (by decide)) (pz_ag_mono hu (by decide))⟩
    show some (pz_cl (pz_lv (z 46) _ _ 265 (s 12 t) m 0) 1 9999, u) = _
    rw [pz_lv_g hg]
    rfl
  unfold f_World_priceThen f_World_giveThing f_World_giveCommon
  simp (disch := omega) only [if_pos, Int.toNat_natCast]
  by_cases h5 : tk = 0
  · rw [if_pos h5]
    simp only [Option.bind_some]
    refine key _ ?_ ?_
    · repeat (refine pz_ag_up ?_ (List.mem_cons_self ..))
      exact pz_ag_rf
    · intro k hk
      rw [if_pos h5]
      rcases pz_lt9 hk with rfl | rfl | rfl | rfl | rfl | rfl | rfl | rfl | rfl <;> simp [pz_up_get, pz_gv]
  · rw [if_neg h5]
    simp only [Option.bind_some]
    refine key _ ?_ ?_
    · repeat (refine pz_ag_up ?_ (List.mem_cons_self ..))
      exact pz_ag_rf
    · intro k hk
      rw [if_neg h5]
      rcases pz_lt9 hk with rfl | rfl | rfl | rfl | rfl | rfl | rfl | rfl | rfl <;> simp [pz_up_get, pz_gv]
/-- LAST's WORTH -/
def pz_lw (w : Nat → Int) (last : Int) : Int := if last = -1 then 0 else w last.toNat
theorem pz_lastR {s : px_Z} (h : -1 ≤ s 7 5 ∧ s 7 5 < 8) : f_World_lastWorth s = some (pz_lw (s 12) (s 7 5)) := by
  unfold f_World_lastWorth pz_lw
  split
  · rfl
  · rw [if_pos (by omega)]
theorem pz_priceR {s : px_Z} {m n t : Nat} (hn : n ≤ 8) (hn1 : s 6 1 = (n : Int)) (hm : m ≤ 16) (h0 : s 14 0 = (m : Int)) (hl : ∀ l, l < m → pz_lo (pz_lnv (s 15) (s 16) (s 17) (s 18)) (s 19) l) (ht : t < 8) (hla : -1 ≤ s 7 5 ∧ s 7 5 < 8) : ∃ u, f_World_price s (t : Int) = some (pz_pr m (pz_lnv (s 15) (s 16) (s 17) (s 18)) (s 19) (pz_gv (t : Int) (s 12 t) (s 8 t) (s 7 4) (s 7 3) (if s 9 t = 2 then 1 else 0) (s 7 2) ((pz_cnt (pz_hs (s 9) n) : Nat) : Int) (pz_lw (s 12) (s 7 5))) (s 12 t), u) ∧ pz_ag [20, 46] s u := by
  have h256 := (pz_pow_le hn).1
  have h2 := pz_hs_lt (h := s 9) hn
  unfold f_World_price
  rw [pz_homeR hn hn1, Option.bind_some, pz_lastR hla, Option.bind_some, if_pos (by omega), Int.toNat_natCast, pz_bitc s (by omega)]
  by_cases h3 : s 9 t = 2
  · rw [if_pos h3, if_pos h3]
    obtain ⟨u, e, hu⟩ := pz_priceThenR hm h0 hl ht (s 7 4) ((pz_cnt (pz_hs (s 9) n) : Nat) : Int) (pz_lw (s 12) (s 7 5)) 1
    rw [e]
    exact ⟨u, rfl, hu⟩
  · rw [if_neg h3, if_neg h3]
    obtain ⟨u, e, hu⟩ := pz_priceThenR hm h0 hl ht (s 7 4) ((pz_cnt (pz_hs (s 9) n) : Nat) : Int) (pz_lw (s 12) (s 7 5)) 0
    rw [e]
    exact ⟨u, rfl, hu⟩
/-- what the reference asks of the WEEK -/
theorem pz_asksWeek {s : px_Z} {n : Nat} (hn : n ≤ 8) (h1 : s 150 6 = (n : Int)) (hla : 0 ≤ s 151 6 ∧ s 151 6 ≤ 8) : ∃ u, f_M_asksWeek s = some u ∧ pz_ag [174] s u ∧ u 174 3 = s 151 0 ∧ u 174 4 = ((pz_cnt (pz_hs (fun i => s 151 (16 + i)) n) : Nat) : Int) ∧ u 174 5 = s 151 5 ∧ u 174 6 = pz_lw (s 154) (s 151 6 - 1) ∧ u 174 8 = s 151 4 ∧ u 174 0 = s 174 0 ∧ u 174 1 = s 174 1 ∧ u 174 2 = s 174 2 ∧ u 174 7 = s 174 7 := by
  have h256 := (pz_pow_le hn).1
  have h2 := pz_hs_lt (h := fun i => s 151 (16 + i)) hn
  have e1 : f_M_homeSet (px_up s 174 3 (s 151 0)) = some ((pz_hs (fun i => s 151 (16 + i)) n : Nat) : Int) := pz_homeM hn h1
  unfold f_M_asksWeek
  rw [e1, Option.bind_some, pz_ones _ (by omega), Option.bind_some]
  by_cases h3 : s 151 6 = 0
  · simp (disch := decide) only [pz_up_c]
    rw [if_pos h3]
    refine ⟨_, rfl, ?_, ?_⟩
    · repeat (refine pz_ag_up ?_ (List.mem_cons_self ..))
      exact pz_ag_rf
    · simp [pz_up_get, pz_lw, h3]
  · simp (disch := decide) only [pz_up_c]
    rw [if_neg h3, pz_wr_id (by omega) (by omega), if_pos (by omega)]
    refine ⟨_, rfl, ?_, ?_⟩
    · repeat (refine pz_ag_up ?_ (List.mem_cons_self ..))
      exact pz_ag_rf
    · have h4 : ¬ (s 151 6 - 1 = -1) := by omega
      simp [pz_up_get, pz_lw, h4]
theorem pz_asks {s : px_Z} {n t : Nat} (hn : n ≤ 8) (h1 : s 150 6 = (n : Int)) (hla : 0 ≤ s 151 6 ∧ s 151 6 ≤ 8) (ht : t < 8) : ∃ u, f_M_asks s (t : Int) = some u ∧ pz_ag [174] s u ∧ (∀ a, a ≤ 8 → u 174 a = pz_gv (t : Int) (s 154 t) (s 151 (8 + t)) (s 151 0) (s 151 5) (if s 151 (16 + t) = 2 then 1 else 0) (s 151 4) ((pz_cnt (pz_hs (fun i => s 151 (16 + i)) n) : Nat) : Int) (pz_lw (s 154) (s 151 6 - 1)) (pz_pm a)) := by
  have e8 : px_wr (8 + (t : Int)) = ((8 + t : Nat) : Int) := by rw [pz_wr_id (by omega) (by omega)]; omega
  have e16 : px_wr (16 + (t : Int)) = ((16 + t : Nat) : Int) := by rw [pz_wr_id (by omega) (by omega)]; omega
  have key : ∀ f : Int, f = (if s 151 (16 + t) = 2 then 1 else 0) → ∃ u, (f_M_asksWeek (px_up (px_up (px_up (px_up s 174 0 (t : Int)) 174 1 (s 154 t)) 174 2 (s 151 (8 + t))) 174 7 f)).bind (fun q6 => some q6) = some u ∧ pz_ag [174] s u ∧ (∀ a, a ≤ 8 → u 174 a = pz_gv (t : Int) (s 154 t) (s 151 (8 + t)) (s 151 0) (s 151 5) (if s 151 (16 + t) = 2 then 1 else 0) (s 151 4) ((pz_cnt (pz_hs (fun i => s 151 (16 + i)) n) : Nat) : Int) (pz_lw (s 154) (s 151 6 - 1)) (pz_pm a)) := by
    intro f hf
    obtain ⟨u, e, hu, u3, u4, u5, u6, u8, u0, u1, u2, u7⟩ := pz_asksWeek (s := px_up (px_up (px_up (px_up s 174 0 (t : Int)) 174 1 (s 154 t)) 174 2 (s 151 (8 + t))) 174 7 f) hn h1 hla
    rw [e]
    refine ⟨u, rfl, pz_ag_tr ?_ hu, ?_⟩
    · repeat (refine pz_ag_up ?_ (List.mem_cons_self ..))
      exact pz_ag_rf
    · intro a ha
      rcases pz_lt9 (show a < 9 by omega) with rfl | rfl | rfl | rfl | rfl | rfl | rfl | rfl | rfl
      · exact u0
      · exact u1
      · exact u2
      · exact u3
      · exact u4
      · exact u5
      · exact u6
      · rw [u7]; exact hf
      · exact u8
  unfold f_M_asks
  rw [e8, e16]
  simp (disch := omega) only [if_pos, Int.toNat_natCast]
  by_cases h3 : s 151 (16 + t) = 2
  · simp (disch := decide) only [pz_up_c]
    rw [if_pos h3]
    exact key 1 (by rw [if_pos h3])
  · simp (disch := decide) only [pz_up_c]
    rw [if_neg h3]
    exact key 0 (by rw [if_neg h3])
/-- the LAW of PRICES stays where other cells change -/
theorem pz_LR_ag {j m : Nat} {ln : Nat → Nat → Int} {code : Nat → Int} {v w : px_Z} {L : List Nat} (h : pz_LR j m ln code v) (ha : pz_ag L v w) (hL : ∀ c ∈ L, c < 158 ∨ 164 < c) : pz_LR j m ln code w := by
  have hc : ∀ c i, 158 ≤ c → c ≤ 164 → w c i = v c i := fun c i h1 h2 => ha c i (fun hm => by have := hL c hm; omega)
  obtain ⟨h1, h2, h3⟩ := h
  refine ⟨h1, by rw [hc 158 j (by omega) (by omega)]; exact h2, fun l hl => ?_⟩
  obtain ⟨a, b, c, d, e, f⟩ := h3 l hl
  refine ⟨a, by rw [hc 159 _ (by omega) (by omega)]; exact b, by rw [hc 160 _ (by omega) (by omega)]; exact c, by rw [hc 161 _ (by omega) (by omega)]; exact d, by rw [hc 162 _ (by omega) (by omega)]; exact e, fun i hi => ?_⟩
  rw [hc 163 _ (by omega) (by omega), hc 164 _ (by omega) (by omega)]
  exact f i hi
theorem pz_priceAsked {s : px_Z} {m t : Nat} {ln : Nat → Nat → Int} {code g : Nat → Int} (hL : pz_LR 0 m ln code s) (ht : t < 8) (hg : ∀ a, a ≤ 8 → s 174 a = g (pz_pm a)) : ∃ u, f_M_priceAsked s (t : Int) = some (pz_pr m ln code g (s 154 t), u) ∧ pz_ag [175] s u := by
  unfold f_M_priceAsked
  rw [if_pos (by omega), Int.toNat_natCast]
  obtain ⟨u, e, hu⟩ := pz_tells (by decide) hL hg 0 (s 154 t) 1 9999
  have e' : f_M_lawTells s 0 0 (s 154 t) 1 9999 = _ := e
  rw [e']
  exact ⟨u, rfl, hu⟩
theorem pz_priceOf {s : px_Z} {m n t : Nat} {ln : Nat → Nat → Int} {code : Nat → Int} (hn : n ≤ 8) (h1 : s 150 6 = (n : Int)) (hla : 0 ≤ s 151 6 ∧ s 151 6 ≤ 8) (hL : pz_LR 0 m ln code s) (ht : t < 8) : ∃ u, f_M_priceOf s (t : Int) = some (pz_pr m ln code (pz_gv (t : Int) (s 154 t) (s 151 (8 + t)) (s 151 0) (s 151 5) (if s 151 (16 + t) = 2 then 1 else 0) (s 151 4) ((pz_cnt (pz_hs (fun i => s 151 (16 + i)) n) : Nat) : Int) (pz_lw (s 154) (s 151 6 - 1))) (s 154 t), u) ∧ pz_ag [174, 175] s u := by
  obtain ⟨u, e, hu, hg⟩ := pz_asks hn h1 hla ht
  obtain ⟨v, e2, hv⟩ := pz_priceAsked (pz_LR_ag hL hu (by decide)) ht hg
  unfold f_M_priceOf
  rw [e, Option.bind_some, e2, Option.bind_some, hu 154 t (by decide)]
  exact ⟨v, rfl, pz_ag_tr (pz_ag_mono hu (by decide)) (pz_ag_mono hv (by decide))⟩
theorem pz_priceThenM {s : px_Z} {m n t S : Nat} {ln : Nat → Nat → Int} {code : Nat → Int} (hn : n ≤ 8) (h1 : s 150 6 = (n : Int)) (hla : 0 ≤ s 151 6 ∧ s 151 6 ≤ 8) (hL : pz_LR 0 m ln code s) (ht : t < 8) (hS : S < 256) (wk : Int) {q : Nat} (hq : q ≤ 8) : ∃ u, f_M_priceThen s (t : Int) wk (S : Int) (q : Int) = some (pz_pr m ln code (pz_gv (t : Int) (s 154 t) (s 151 (8 + t)) wk (s 151 5) (if s 151 (16 + t) = 2 then 1 else 0) (s 151 4) ((pz_cnt S : Nat) : Int) (pz_lw (s 154) ((q : Int) - 1))) (s 154 t), u) ∧ pz_ag [174, 175] s u := by
  obtain ⟨u, e, hu, hg⟩ := pz_asks hn h1 hla ht
  have key : ∀ x : Int, x = pz_lw (s 154) ((q : Int) - 1) → ∃ v, (f_M_priceAsked (px_up (px_up (px_up u 174 3 wk) 174 4 ((pz_cnt S : Nat) : Int)) 174 6 x) (t : Int)).bind (fun q6 => some (q6.1, q6.2)) = some (pz_pr m ln code (pz_gv (t : Int) (s 154 t) (s 151 (8 + t)) wk (s 151 5) (if s 151 (16 + t) = 2 then 1 else 0) (s 151 4) ((pz_cnt S : Nat) : Int) (pz_lw (s 154) ((q : Int) - 1))) (s 154 t), v) ∧ pz_ag [174, 175] s v := by
    intro x hx
    have ha : pz_ag [174] s (px_up (px_up (px_up u 174 3 wk) 174 4 ((pz_cnt S : Nat) : Int)) 174 6 x) := by
      repeat (refine pz_ag_up ?_ (List.mem_cons_self ..))
      exact hu
    obtain ⟨v, e2, hv⟩ := pz_priceAsked (s := px_up (px_up (px_up u 174 3 wk) 174 4 ((pz_cnt S : Nat) : Int)) 174 6 x) (g := pz_gv (t : Int) (s 154 t) (s 151 (8 + t)) wk (s 151 5) (if s 151 (16 + t) = 2 then 1 else 0) (s 151 4) ((pz_cnt S : Nat) : Int) (pz_lw (s 154) ((q : Int) - 1))) (pz_LR_ag hL ha (by decide)) ht (fun a hle => by
      have := hg a hle
      rcases pz_lt9 (show a < 9 by omega) with rfl | rfl | rfl | rfl | rfl | rfl | rfl | rfl | rfl
      · exact this
      · exact this
      · exact this
      · rfl
      · rfl
      · exact this
      · exact hx
      · exact this
      · exact this)
    rw [e2, Option.bind_some, ha 154 t (by decide)]
    exact ⟨v, rfl, pz_ag_tr (pz_ag_mono ha (by decide)) (pz_ag_mono hv (by decide))⟩
  unfold f_M_priceThen
  rw [e, Option.bind_some, pz_ones _ hS, Option.bind_some]
  by_cases h3 : q = 0
  · subst h3
    rw [if_pos (show ((0 : Nat) : Int) = 0 from rfl)]
    exact key 0 rfl
  · have e2 : px_wr ((q : Int) - 1) = ((q - 1 : Nat) : Int) := by rw [pz_wr_id (by omega) (by omega)]; omega
    rw [if_neg (by omega), e2, if_pos (by omega), Int.toNat_natCast]
    refine key _ ?_
    show u 154 (q - 1) = _
    unfold pz_lw
    rw [hu 154 _ (by decide), if_neg (by omega), show ((q : Int) - 1).toNat = q - 1 by omega]
