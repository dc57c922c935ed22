/-! what both see alike: who may come, prices -/
theorem pz_W_hs {n : Nat} {s z : px_Z} (h : pz_W n (pz_wo s) z) : pz_hs (fun i => z 151 (16 + i)) n = pz_hs (s 9) n := by
  obtain ⟨hn, w1, wF, -⟩ := h
  exact pz_hs_congr (fun i hi => ((wF.2.2.1 i (by omega)).2.1).symm)
theorem pz_W_homeR {n : Nat} {s z : px_Z} (h : pz_W n (pz_wo s) z) : f_World_homeSet s = some ((pz_hs (s 9) n : Nat) : Int) := pz_homeR h.1 h.2.1.1
theorem pz_W_homeM {n : Nat} {s z : px_Z} (h : pz_W n (pz_wo s) z) : f_M_homeSet z = some ((pz_hs (s 9) n : Nat) : Int) := by
  rw [← pz_W_hs h]
  exact pz_homeM h.1 h.2.1.2.1
theorem pz_W_lw {n : Nat} {s z : px_Z} (h : pz_W n (pz_wo s) z) : pz_lw (z 154) (z 151 6 - 1) = pz_lw (s 12) (s 7 5) := by
  obtain ⟨hn, w1, wF, w3, -⟩ := h
  have e : s 7 5 = z 151 6 - 1 := wF.1.2.2.2.2.2.1
  have g := wF.2.1
  rw [e]
  unfold pz_lw
  split
  · rfl
  · exact ((w3 _ (by omega)).1).symm
theorem pz_may {n : Nat} {s z : px_Z} (h : pz_W n (pz_wo s) z) {t : Nat} (ht : t < n) : ∃ b : Bool, f_World_mayCome s (t : Int) = some (if b then 1 else 0) ∧ f_M_mayCome z (t : Int) = some (if b then 1 else 0) ∧ (b = true → pz_can n (s 13) t (pz_hs (s 9) n) = true ∧ s 7 6 = 0) := by
  have hR := pz_W_homeR h
  have hM := pz_W_homeM h
  obtain ⟨hn, w1, wF, w3, -⟩ := h
  have hlt : pz_hs (s 9) n < 2 ^ n := pz_hs_lt hn
  have ha := w3 t (by omega)
  have ha' : s 13 t = z 167 t := ha.2.1
  have hcan : pz_can n (z 167) t (pz_hs (s 9) n) = pz_can n (s 13) t (pz_hs (s 9) n) := pz_can_congr ha'.symm
  have g := wF.2.1
  have hbit : (pz_hs (s 9) n).testBit t = (decide (t < n) && decide (s 9 t = 1)) := pz_hs_bit t
  refine ⟨pz_can n (s 13) t (pz_hs (s 9) n) && decide (s 7 6 = 0), ?_, ?_, ?_⟩
  · unfold f_World_mayCome
    by_cases h6 : s 7 6 = 0
    · rw [if_pos h6, if_pos (by omega), Int.toNat_natCast]
      by_cases h9 : s 9 t = 1
      · rw [if_pos h9]
        have : pz_can n (s 13) t (pz_hs (s 9) n) = false := by
          unfold pz_can
          rw [hbit]
          simp [ht, h9]
        rw [this]; rfl
      · rw [if_neg h9, hR, Option.bind_some, pz_readyR hn w1.1 ht hlt (by rw [ha']; exact ha.2.2) (by rw [hbit]; simp [h9]), Option.bind_some]
        simp only [h6, decide_true, Bool.and_true]
        cases pz_can n (s 13) t (pz_hs (s 9) n) <;> rfl
    · rw [if_neg h6]
      simp only [h6, decide_false, Bool.and_false]
      rfl
  · unfold f_M_mayCome f_M_hasCome
    rw [hM, Option.bind_some, pz_canM hn w1.2.1 ht hlt ha.2.2, Option.bind_some, hcan, pz_wr_id (x := z 151 0 + 1) (by omega) (by omega)]
    have g13 : (s 7 6 = 0 ∧ z 151 7 ≠ z 151 0 + 1) ∨ (s 7 6 = 1 ∧ z 151 7 = z 151 0 + 1) := g.2.2.2.2.2.2.2.2.2.2.2.2
    cases hc : pz_can n (s 13) t (pz_hs (s 9) n) with
    | false => rfl
    | true =>
      rcases g13 with ⟨g1, g2⟩ | ⟨g1, g2⟩
      · simp [g1, g2]
      · simp [g1, g2]
  · intro hb
    simp only [Bool.and_eq_true, decide_eq_true_eq] at hb
    exact hb
theorem pz_prc2 {n : Nat} {s z : px_Z} (h : pz_W n (pz_wo s) z) {t : Nat} (ht : t < 8) : ∃ p u y, f_World_price s (t : Int) = some (p, u) ∧ pz_ag [20, 46] s u ∧ f_M_priceOf z (t : Int) = some (p, y) ∧ pz_ag [174, 175] z y ∧ 1 ≤ p ∧ p ≤ 9999 := by
  have hlw := pz_W_lw h
  have hhs := pz_W_hs h
  obtain ⟨hn, w1, wF, w3, ⟨⟨m, w4a, w4b⟩, w4c⟩, -⟩ := h
  have f := wF.1
  have g := wF.2.1
  have e5 : s 7 5 = z 151 6 - 1 := f.2.2.2.2.2.1
  obtain ⟨u, e1, hu⟩ := pz_priceR (s := s) (t := t) hn w1.1 w4b.1.1 w4a (fun l hl => (w4b.1.2.2 l hl).1) ht (by omega)
  obtain ⟨y, e2, hy⟩ := pz_priceOf (s := z) (t := t) hn w1.2.1 (by omega) w4b.1 ht
  have hc := wF.2.2.1 t ht
  have k1 : s 12 t = z 154 t := (w3 t ht).1
  have k2 : s 8 t = z 151 (8 + t) := hc.1
  have k3 : s 9 t = z 151 (16 + t) := hc.2.1
  have k4 : s 7 4 = z 151 0 := f.2.2.2.2.1
  have k5 : s 7 3 = z 151 5 := f.2.2.2.1
  have k6 : s 7 2 = z 151 4 := f.2.2.1
  rw [hlw, hhs, ← k1, ← k2, ← k3, ← k4, ← k5, ← k6] at e2
  exact ⟨_, u, y, e1, hu, e2, hy, pz_pr_rg.1, pz_pr_rg.2⟩
theorem po_of {s : px_Z} (h : pz_I s) (a b : Int) : pz_op (f_R_of s a b) (fun u => f_M_of u a b) := by
  have h' := h
  obtain ⟨n, hW, hU, hM, hT, hX, hC⟩ := h
  have hW' := hW
  obtain ⟨hn, w1, wF, w3, w4, w5, w6, w7, w8⟩ := hW'
  have b1' : s 6 1 = (n : Int) := w1.1
  have b2' : s 150 6 = (n : Int) := w1.2.1
  have hst : ∀ x, f_R_of s a b = some (x, s) → f_M_of s a b = some (x, px_up s 150 0 0) → pz_op (f_R_of s a b) (fun u => f_M_of u a b) := fun x e1 e2 => ⟨x, s, px_up s 150 0 0, e1, e2, pz_I_told h'⟩
  have hR0 : f_R_of s a b = if 0 ≤ a ∧ a ≤ (n : Int) - 1 then (if b = 0 then (if 0 ≤ a ∧ a < 8 then some (s 12 a.toNat, s) else none) else (if b = 1 then (if 0 ≤ a ∧ a < 8 then some (s 8 a.toNat, s) else none) else (if b = 2 then (if 0 ≤ a ∧ a < 8 then some (s 9 a.toNat, s) else none) else (if b = 3 then (if 0 ≤ a ∧ a < 8 then some (s 10 a.toNat, s) else none) else (if b = 4 then (if 0 ≤ a ∧ a < 8 then some (s 11 a.toNat, s) else none) else (if b = 5 then (f_World_price s a).bind (fun q13 => some (q13.1, q13.2)) else (if b = 6 then (f_World_mayCome s a).bind (fun q15 => if q15 = 0 then some (0, s) else some (1, s)) else (if b = 7 then (if 0 ≤ a ∧ a < 8 then some (s 13 a.toNat, s) else none) else some (-2, s))))))))) else some (-2, s) := by
    unfold f_R_of
    rw [b1', pz_wr_pred (by omega), pz_within, pz_i1]
  have hM0 : ∀ u : px_Z, u 150 6 = (n : Int) → f_M_of u a b = if 0 ≤ a ∧ a ≤ (n : Int) - 1 then (if b = 0 then (if 0 ≤ a ∧ a < 8 then some (u 154 a.toNat, px_up u 150 0 0) else none) else (if b = 1 then (if 0 ≤ px_wr (8 + a) ∧ px_wr (8 + a) < 40 then some (u 151 (px_wr (8 + a)).toNat, px_up u 150 0 0) else none) else (if b = 2 then (if 0 ≤ px_wr (16 + a) ∧ px_wr (16 + a) < 40 then some (u 151 (px_wr (16 + a)).toNat, px_up u 150 0 0) else none) else (if b = 3 then (if 0 ≤ px_wr (24 + a) ∧ px_wr (24 + a) < 40 then some (u 151 (px_wr (24 + a)).toNat, px_up u 150 0 0) else none) else (if b = 4 then (if 0 ≤ px_wr (32 + a) ∧ px_wr (32 + a) < 40 then some (px_wr (u 151 (px_wr (32 + a)).toNat - 1), px_up u 150 0 0) else none) else (if b = 5 then (f_M_priceOf (px_up u 150 0 0) a).bind (fun q13 => some (q13.1, q13.2)) else (if b = 6 then (f_M_mayCome (px_up u 150 0 0) a).bind (fun q11 => if q11 = 0 then some (0, px_up u 150 0 0) else some (1, px_up u 150 0 0)) else (if b = 7 then (if 0 ≤ a ∧ a < 16 then some (u 167 a.toNat, px_up u 150 0 0) else none) else some (-2, px_up u 150 0 0))))))))) else some (-2, px_up u 150 0 0) := by
    intro u hu
    unfold f_M_of
    rw [pz_isThing (s := px_up u 150 0 0) hu, pz_i1]
    rfl
  by_cases ha : 0 ≤ a ∧ a ≤ (n : Int) - 1
  · obtain ⟨t, rfl⟩ : ∃ t : Nat, a = (t : Int) := ⟨a.toNat, by omega⟩
    have ht : t < n := by omega
    have hc := wF.2.2.1 t (by omega)
    have w3t := w3 t (by omega)
    rw [if_pos ha] at hR0
    have hM1 := hM0 s b2'
    rw [if_pos ha, pz_wr_id (x := 8 + (t : Int)) (by omega) (by omega), pz_wr_id (x := 16 + (t : Int)) (by omega) (by omega), pz_wr_id (x := 24 + (t : Int)) (by omega) (by omega), pz_wr_id (x := 32 + (t : Int)) (by omega) (by omega), show (8 + (t : Int)).toNat = 8 + t by omega, show (16 + (t : Int)).toNat = 16 + t by omega, show (24 + (t : Int)).toNat = 24 + t by omega, show (32 + (t : Int)).toNat = 32 + t by omega] at hM1
    have p8 : 0 ≤ (t : Int) ∧ (t : Int) < 8 := by omega
    have p16 : 0 ≤ (t : Int) ∧ (t : Int) < 16 := by omega
    have q1 : 0 ≤ 8 + (t : Int) ∧ 8 + (t : Int) < 40 := by omega
    have q2 : 0 ≤ 16 + (t : Int) ∧ 16 + (t : Int) < 40 := by omega
    have q3 : 0 ≤ 24 + (t : Int) ∧ 24 + (t : Int) < 40 := by omega
    have q4 : 0 ≤ 32 + (t : Int) ∧ 32 + (t : Int) < 40 := by omega
    simp only [if_pos p8, Int.toNat_natCast] at hR0
    simp only [if_pos p8, if_pos p16, if_pos q1, if_pos q2, if_pos q3, if_pos q4, Int.toNat_natCast] at hM1
    have hwt : pz_W n (pz_wo s) (px_up s 150 0 0) := pz_W_ek hW pz_ek_rf (pz_ek_up rfl pz_ek_rf)
    by_cases c0 : b = 0
    · rw [if_pos c0] at hR0 hM1
      refine hst _ hR0 (hM1.trans ?_)
      rw [show s 12 t = s 154 t from w3t.1]
    rw [if_neg c0] at hR0 hM1
    by_cases c1 : b = 1
    · rw [if_pos c1] at hR0 hM1
      refine hst _ hR0 (hM1.trans ?_)
      rw [show s 8 t = s 151 (8 + t) from hc.1]
    rw [if_neg c1] at hR0 hM1
    by_cases c2 : b = 2
    · rw [if_pos c2] at hR0 hM1
      refine hst _ hR0 (hM1.trans ?_)
      rw [show s 9 t = s 151 (16 + t) from hc.2.1]
    rw [if_neg c2] at hR0 hM1
    by_cases c3 : b = 3
    · rw [if_pos c3] at hR0 hM1
      refine hst _ hR0 (hM1.trans ?_)
      rw [show s 10 t = s 151 (24 + t) from hc.2.2.1]
    rw [if_neg c3] at hR0 hM1
    by_cases c4 : b = 4
    · rw [if_pos c4] at hR0 hM1
      refine hst _ hR0 (hM1.trans ?_)
      rw [pz_wr_id (by omega) (by omega), show s 11 t = s 151 (32 + t) - 1 from hc.2.2.2.1]
    rw [if_neg c4] at hR0 hM1
    by_cases c5 : b = 5
    · obtain ⟨p, u, y, e1, hu, -, -, -, -⟩ := pz_prc2 hW (t := t) (by omega)
      have hWu : pz_W n (pz_wo u) (px_up u 150 0 0) := pz_W_ek hW (pz_ek_ag (L := [20, 46]) ⟨fun _ => rfl, fun _ => rfl, trivial⟩ hu pz_ek_rf) (pz_ek_up rfl (pz_ek_ag (L := [20, 46]) ⟨fun _ => rfl, fun _ => rfl, trivial⟩ hu pz_ek_rf))
      have hWs : pz_W n (pz_wo s) (px_up u 150 0 0) := pz_W_ek hW pz_ek_rf (pz_ek_up rfl (pz_ek_ag (L := [20, 46]) ⟨fun _ => rfl, fun _ => rfl, trivial⟩ hu pz_ek_rf))
      obtain ⟨p2, u2, y, e2, -, e3, hy, -, -⟩ := pz_prc2 hWs (t := t) (by omega)
      rw [e1] at e2
      cases e2
      rw [if_pos c5, e1] at hR0
      refine ⟨p, u, y, hR0, ?_, ?_⟩
      · show f_M_of u (t : Int) b = _
        rw [hM0 u ((hu 150 6 (by decide)).trans b2'), if_pos ha, if_neg c0, if_neg c1, if_neg c2, if_neg c3, if_neg c4, if_pos c5, e3]
        rfl
      · refine pz_I_ek h' (pz_ek_ag (L := [174, 175]) ⟨fun _ => rfl, fun _ => rfl, trivial⟩ hy (pz_ek_up rfl (pz_ek_ag (L := [20, 46]) ⟨fun _ => rfl, fun _ => rfl, trivial⟩ hu pz_ek_rf)))
    rw [if_neg c5] at hR0 hM1
    by_cases c6 : b = 6
    · obtain ⟨bb, e1, e2, -⟩ := pz_may hwt ht
      rw [if_pos c6, e1] at hR0
      rw [if_pos c6, e2] at hM1
      refine hst (if bb then 1 else 0) (hR0.trans ?_) (hM1.trans ?_)
      · cases bb <;> rfl
      · cases bb <;> rfl
    rw [if_neg c6] at hR0 hM1
    by_cases c7 : b = 7
    · rw [if_pos c7] at hR0 hM1
      refine hst _ hR0 (hM1.trans ?_)
      rw [show s 13 t = s 167 t from w3t.2.1]
    rw [if_neg c7] at hR0 hM1
    exact hst _ hR0 hM1
  · refine hst (-2) ?_ ?_
    · rw [hR0, if_neg ha]
    · rw [hM0 s b2', if_neg ha]
/-- a set, told by who is in it -/
def pz_bs (P : Nat → Bool) (n : Nat) : Nat := pz_fo (fun t a => if P t then a ||| 2 ^ t else a) n 0 0
theorem pz_bs_lt {P : Nat → Bool} {n : Nat} (hn : n ≤ 8) : pz_bs P n < 2 ^ n := by
  have := pz_fo_inv (g := fun t a => if P t then a ||| 2 ^ t else a) (fun i a => a < 2 ^ i) n 0 0 (by decide) (fun j _ h2 a ha => by
    have h3 : a < 2 ^ (j + 1) := by rw [Nat.pow_succ]; omega
    show (if P j then a ||| 2 ^ j else a) < 2 ^ (j + 1)
    split
    · exact pz_in_all (by omega) h3 (by omega)
    · exact h3)
  rw [Nat.zero_add] at this
  exact this
theorem pz_bs_bit {P : Nat → Bool} {n : Nat} (t : Nat) : (pz_bs P n).testBit t = (decide (t < n) && P t) := by
  have := pz_fo_inv (g := fun t a => if P t then a ||| 2 ^ t else a) (fun i a => ∀ t, a.testBit t = (decide (t < i) && P t)) n 0 0 (fun t => by simp) (fun j _ h2 a ha t => by
    show (if P j then a ||| 2 ^ j else a).testBit t = _
    split
    · rename_i hj
      rw [Nat.testBit_or, ha t, Nat.testBit_two_pow]
      by_cases e : j = t
      · subst e; simp [hj]
      · have : (decide (t < j + 1)) = decide (t < j) := by
          by_cases h5 : t < j
          · simp [h5, Nat.lt_succ_of_lt h5]
          · simp [h5]; omega
        simp [e, this]
    · rename_i hj
      rw [ha t]
      by_cases e : j = t
      · subst e; simp [hj]
      · have : (decide (t < j + 1)) = decide (t < j) := by
          by_cases h5 : t < j
          · simp [h5, Nat.lt_succ_of_lt h5]
          · simp [h5]; omega
        simp [this])
  rw [Nat.zero_add] at this
  exact this t
theorem pz_bs_congr {P Q : Nat → Bool} {n : Nat} (h : ∀ i, i < n → P i = Q i) : pz_bs P n = pz_bs Q n := by
  unfold pz_bs
  refine pz_fo_congr _ _ _ (fun j _ h2 a => ?_)
  rw [h j (by omega)]
def pz_hm (hl : Nat → Nat → Int) (m : Nat) (w x : Int) : Bool := (pz_fi (fun p => decide (pz_md hl m (p : Int) w = x)) 6 0).isSome
theorem pz_hasMudR {s : px_Z} {m : Nat} (hm : m ≤ 24) (h1 : s 28 0 = (m : Int)) (w x : Int) : f_Hills_hasMud s w x = some (if pz_hm (pz_hlv (s 29) (s 30) (s 31) (s 32) (s 33)) m w x then 1 else 0) := by
  have hl : ∀ (r fu i : Nat), i + r = 6 → r < fu → l_Hills_hasMud_2 s fu w x (i : Int) = some (if (pz_fi (fun p => decide (pz_md (pz_hlv (s 29) (s 30) (s 31) (s 32) (s 33)) m (p : Int) w = x)) r i).isSome then 1 else 0) := by
    intro r
    induction r with
    | zero =>
      intro fu i hi hf
      obtain ⟨f, rfl⟩ : ∃ f, fu = f + 1 := ⟨fu - 1, by omega⟩
      rw [l_Hills_hasMud_2, if_pos (by omega)]
      rfl
    | succ r ih =>
      intro fu i hi hf
      obtain ⟨f, rfl⟩ : ∃ f, fu = f + 1 := ⟨fu - 1, by omega⟩
      rw [l_Hills_hasMud_2, if_neg (by omega), pz_mudR hm h1, Option.bind_some, pz_wr_suc (by omega), pz_fi]
      by_cases hq : pz_md (pz_hlv (s 29) (s 30) (s 31) (s 32) (s 33)) m (i : Int) w = x
      · rw [if_pos hq, if_pos (decide_eq_true hq)]; rfl
      · rw [if_neg hq]
        simp only [hq, decide_false, Bool.false_eq_true, if_false]
        exact ih f (i + 1) (by omega) (by omega)
  exact hl 6 px_big 0 (by omega) (pz_big_lt (by omega))
theorem po_fits {s : px_Z} (h : pz_I s) (a b w x : Int) : pz_oq (f_R_fits s a b w x) s (fun u => f_M_fits u a b w x) := by
  have h' := h
  obtain ⟨n, hW, hU, hM, hT, hX, hC⟩ := h
  obtain ⟨hn, w1, wF, w3, w4, ⟨mh, w5a, w5b, w5c, w5d, w5e⟩, w6, w7, w8⟩ := hW
  have b1' : s 6 1 = (n : Int) := w1.1
  have b2' : s 150 6 = (n : Int) := w1.2.1
  have hpw := pz_pow_le hn
  have hm := pz_hasMudR (s := s) w5a w5b w x
  have hR : ∀ (r fu i A : Nat), i + r = n → r < fu → A < 2 ^ i → l_R_fits_25 s fu a b (A : Int) (i : Int) = some ((pz_fo (fun t c => if (decide (s 9 t ≠ 1) && decide (a ≤ s 8 t ∧ s 8 t ≤ b)) then c ||| 2 ^ t else c) r i A : Nat) : Int) := by
    intro r
    induction r with
    | zero =>
      intro fu i A hi hf hA
      obtain ⟨f, rfl⟩ : ∃ f, fu = f + 1 := ⟨fu - 1, by omega⟩
      rw [l_R_fits_25, b1', if_pos (by omega)]
      rfl
    | succ r ih =>
      intro fu i A hi hf hA
      obtain ⟨f, rfl⟩ : ∃ f, fu = f + 1 := ⟨fu - 1, by omega⟩
      have h256 := (pz_pow_le (show i ≤ 8 by omega)).1
      have h3 : A < 2 ^ (i + 1) := by rw [Nat.pow_succ]; omega
      have p8 : 0 ≤ (i : Int) ∧ (i : Int) < 8 := by omega
      rw [l_R_fits_25, b1', if_neg (by omega), pz_within, pz_i1, pz_wr_suc (by omega), pz_fo, Int.toNat_natCast]
      simp only [if_pos p8]
      by_cases c1 : s 9 i = 1
      · rw [if_pos c1, ih f (i + 1) _ (by omega) (by omega) h3]
        simp [c1]
      · rw [if_neg c1]
        by_cases c2 : a ≤ s 8 i ∧ s 8 i ≤ b
        · rw [if_pos c2, pz_add (by omega) (by omega), ih f (i + 1) _ (by omega) (by omega) (pz_in_all (by omega) h3 (by omega))]
          simp [c1, c2]
        · rw [if_neg c2, ih f (i + 1) _ (by omega) (by omega) h3]
          simp [c2]
  have hMl : ∀ (z : px_Z), (∀ i, z 151 i = s 151 i) → z 150 6 = (n : Int) → ∀ (r fu i A : Nat), i + r = n → r < fu → A < 2 ^ i → l_M_fits_38 fu z a b 1 (A : Int) (i : Int) = some (((pz_fo (fun t c => if (decide (s 9 t ≠ 1) && decide (a ≤ s 8 t ∧ s 8 t ≤ b)) then c ||| 2 ^ t else c) r i A : Nat) : Int), z) := by
    intro z hz hz6 r
    induction r with
    | zero =>
      intro fu i A hi hf hA
      obtain ⟨f, rfl⟩ : ∃ f, fu = f + 1 := ⟨fu - 1, by omega⟩
      rw [l_M_fits_38, hz6, if_pos (by omega)]
      rfl
    | succ r ih =>
      intro fu i A hi hf hA
      obtain ⟨f, rfl⟩ : ∃ f, fu = f + 1 := ⟨fu - 1, by omega⟩
      have h256 := (pz_pow_le (show i ≤ 8 by omega)).1
      have h3 : A < 2 ^ (i + 1) := by rw [Nat.pow_succ]; omega
      have hc := wF.2.2.1 i (by omega)
      have k1 : s 9 i = s 151 (16 + i) := hc.2.1
      have k2 : s 8 i = s 151 (8 + i) := hc.1
      have h5 : f_M_isHome z (i : Int) = some (if s 9 i = 1 then 1 else 0) := by
        unfold f_M_isHome
        rw [pz_wr_id (by omega) (by omega), if_pos (by omega), show (16 + (i : Int)).toNat = 16 + i by omega, hz, k1]
        split <;> rfl
      rw [l_M_fits_38, hz6, if_neg (by omega), if_neg (by decide), h5, Option.bind_some, pz_isIn, pz_i1, pz_i1, pz_wr_id (x := 8 + (i : Int)) (by omega) (by omega), show (8 + (i : Int)).toNat = 8 + i by omega, hz, ← k2, pz_wr_suc (by omega), pz_fo]
      by_cases c1 : s 9 i = 1
      · rw [if_pos c1, ih f (i + 1) _ (by omega) (by omega) h3]
        simp [c1]
      · rw [if_neg c1, if_pos (by omega)]
        by_cases c2 : a ≤ s 8 i ∧ s 8 i ≤ b
        · rw [if_pos c2, pz_add (by omega) (by omega), ih f (i + 1) _ (by omega) (by omega) (pz_in_all (by omega) h3 (by omega))]
          simp [c1, c2]
        · rw [if_neg c2, ih f (i + 1) _ (by omega) (by omega) h3]
          simp [c2]
  have hM1 : ∀ (z : px_Z) (K : px_Z → Int → Int → Int → Option (Int × px_Z)), z 150 35 = (mh : Int) → z 166 = s 166 → ∀ (r fu i : Nat) (x5 : Int), i + r = 6 → r < fu → l_M_fits_21 K fu z a b w x x5 (i : Int) = K z a b (if (pz_fi (fun p => decide (pz_md (pz_hlv (s 29) (s 30) (s 31) (s 32) (s 33)) mh (p : Int) w = x)) r i).isSome then 1 else x5) := by
    intro z K hz1 hz2 r
    induction r with
    | zero =>
      intro fu i x5 hi hf
      obtain ⟨f, rfl⟩ : ∃ f, fu = f + 1 := ⟨fu - 1, by omega⟩
      rw [l_M_fits_21, if_pos (by omega)]
      rfl
    | succ r ih =>
      intro fu i x5 hi hf
      obtain ⟨f, rfl⟩ : ∃ f, fu = f + 1 := ⟨fu - 1, by omega⟩
      have e : pz_md (fun i k => z 166 (5 * i + k)) mh (i : Int) w = pz_md (pz_hlv (s 29) (s 30) (s 31) (s 32) (s 33)) mh (i : Int) w := by
        rw [hz2]; exact (pz_md_congr w5d _ _).symm
      rw [l_M_fits_21, if_neg (by omega), pz_mudM w5a hz1, Option.bind_some, e, pz_wr_suc (by omega), pz_fi]
      by_cases hq : pz_md (pz_hlv (s 29) (s 30) (s 31) (s 32) (s 33)) mh (i : Int) w = x
      · rw [if_pos hq, ih f (i + 1) 1 (by omega) (by omega), if_pos (decide_eq_true hq)]
        congr 1
        split <;> rfl
      · rw [if_neg hq]
        simp only [hq, decide_false, Bool.false_eq_true, if_false]
        exact ih f (i + 1) x5 (by omega) (by omega)
  have key : ∃ q, f_R_fits s a b w x = some q ∧ f_M_fits s a b w x = some (q, px_up s 150 0 0) := by
    unfold f_R_fits f_M_fits
    rw [pz_within, pz_within, pz_isIn, pz_isIn, pz_i1, pz_i1, pz_i1, pz_i1, hm, Option.bind_some, pz_i1]
    by_cases c1 : 0 ≤ w ∧ w ≤ 60
    · by_cases c2 : 0 ≤ x ∧ x ≤ 5
      · rw [if_pos c1, if_pos c2, if_pos c1, if_pos c2]
        have e := hM1 (px_up s 150 0 0) (fun s x1 x2 x5 => l_M_fits_38 px_big s x1 x2 x5 0 0) w5c rfl 6 px_big 0 0 (by omega) (pz_big_lt (by omega))
        rw [show ((0 : Nat) : Int) = 0 from rfl] at e
        rw [e]
        show ∃ q, _ ∧ l_M_fits_38 px_big (px_up s 150 0 0) a b (if pz_hm (pz_hlv (s 29) (s 30) (s 31) (s 32) (s 33)) mh w x = true then 1 else 0) 0 0 = _
        cases hmm : pz_hm (pz_hlv (s 29) (s 30) (s 31) (s 32) (s 33)) mh w x with
        | true =>
          refine ⟨_, (if_pos rfl).trans (hR n px_big 0 0 (by omega) (pz_big_lt (by omega)) (by decide)), ?_⟩
          rw [if_pos rfl]
          exact hMl (px_up s 150 0 0) (fun i => rfl) b2' n px_big 0 0 (by omega) (pz_big_lt (by omega)) (by decide)
        | false =>
          refine ⟨0, if_neg (by decide), ?_⟩
          rw [if_neg (by decide)]
          have hz : ∀ fu, 0 < fu → l_M_fits_38 fu (px_up s 150 0 0) a b 0 0 0 = some (0, px_up s 150 0 0) := by
            intro fu hfu
            obtain ⟨f, rfl⟩ : ∃ f, fu = f + 1 := ⟨fu - 1, by omega⟩
            rw [l_M_fits_38]
            split
            · rfl
            · rfl
          exact hz px_big (pz_big_lt (by omega))
      · rw [if_pos c1, if_neg c2, if_pos c1, if_neg c2]; exact ⟨_, rfl, rfl⟩
    · rw [if_neg c1, if_neg c1]; exact ⟨_, rfl, rfl⟩
  obtain ⟨q, e1, e2⟩ := key
  exact ⟨q, _, e1, e2, pz_I_told h'⟩
