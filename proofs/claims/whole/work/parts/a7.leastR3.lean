/-! LEAST of the class: sets, WEEKS -/
theorem pz_w128 {w a : Nat} (h : w ≤ 60) (ha : a ≤ 256) : px_wr (px_wr ((w : Int) * 128) + (a : Int)) = ((128 * w + a : Nat) : Int) := by
  rw [pz_wr_id (x := (w : Int) * 128) (by omega) (by omega), pz_wr_id (by omega) (by omega)]
  omega
theorem pz_w4 {i : Nat} (h : i < 8) : px_wr (4 * (i : Int)) = 4 * (i : Int) := pz_wr_id (by omega) (by omega)
theorem pz_ch8 {n : Nat} {af : Nat → Int} {op : Int → Bool} {th : Int} {pr : Nat → Int → Nat → Nat → Int} {r S q : Nat} : pz_ch 536870912 n af op th pr r S q < 16 ∨ n ≥ 16 := by
  by_cases hn : n ≥ 16
  · exact Or.inr hn
  · left
    unfold pz_ch
    split
    · decide
    · obtain ⟨_, _, c3⟩ := pz_mc_first (C := pz_cC n af op th r S) (V := pz_cV 536870912 n af op th pr r S q) n 0 536870912 8
      rw [← pz_bc_s] at c3
      rcases c3 with c3 | c3
      · rw [c3]; decide
      · have := c3.2.2.1
        omega
theorem pz_setR {n m mh w : Nat} {bh bl : Bool} {tk : Int} {s z u : px_Z} (hW : pz_W n (pz_wo s) z) (h : pz_RB n bh bl tk s u) (hnc : bh = false → ∀ t w c c2 q, pz_prc s m tk t w c q = pz_prc s m tk t w c2 q) (hnq : bl = false → pz_nq (pz_prc s m tk)) {r S : Nat} (hr : r ≤ 60) (hw : s 6 4 - (r : Int) = (w : Int)) (hw60 : w ≤ 60) (h6 : u 145 7 = (w : Int)) (hop : pz_opc s mh (s 6 4 - (r : Int)) = true) (hP : pz_PR n m bh bl tk (s 6 4 - (r : Int)) s n 0 0 u) (hd : pz_dom n (pz_hs (s 9) n) S) (hS : S < 2 ^ (n - 1)) (hC : pz_CI bl n (pz_hs (s 9) n) ((s 7 5 + 1).toNat) (pz_co 536870912 n (s 13) (pz_opc s mh) (s 6 4) (pz_prc s m tk)) r S 0 u) : ∃ u' row, f_Least_settleSet u (S : Int) = some (px_up u' 147 (128 * w + S) row) ∧ pz_ag [146] u u' ∧ pz_CI bl n (pz_hs (s 9) n) ((s 7 5 + 1).toNat) (pz_co 536870912 n (s 13) (pz_opc s mh) (s 6 4) (pz_prc s m tk)) r (S + 1) 0 u' ∧ (∀ sl, pz_slot bl (pz_hs (s 9) n) S sl → pz_nib row sl = (pz_ch 536870912 n (s 13) (pz_opc s mh) (s 6 4) (pz_prc s m tk) r S (pz_lq (pz_hs (s 9) n) ((s 7 5 + 1).toNat) S sl) : Int)) := by
  have hn := hW.1
  have hpw := pz_pow_le hn
  have hhf := pz_half_le hn
  have hlt : pz_hs (s 9) n < 2 ^ n := pz_hs_lt hn
  have hS256 : S < 256 := by omega
  have hwS : 0 ≤ (((128 * w + S : Nat)) : Int) ∧ (((128 * w + S : Nat)) : Int) < 7808 := by omega
  have hloop : ∀ (M : Nat), M < 256 → (∀ sl, sl < 8 → (M.testBit sl = true ↔ pz_slot bl (pz_hs (s 9) n) S sl)) → ∀ (c fu sl : Nat) (v : px_Z) (row : Int), sl + c = 8 → c < fu → pz_ag [146] u v → pz_CI bl n (pz_hs (s 9) n) ((s 7 5 + 1).toNat) (pz_co 536870912 n (s 13) (pz_opc s mh) (s 6 4) (pz_prc s m tk)) r S sl v → (∀ sl', sl' < sl → pz_slot bl (pz_hs (s 9) n) S sl' → pz_nib row sl' = (pz_ch 536870912 n (s 13) (pz_opc s mh) (s 6 4) (pz_prc s m tk) r S (pz_lq (pz_hs (s 9) n) ((s 7 5 + 1).toNat) S sl') : Int)) → ∃ u' row', l_Least_settleSet_20 (fun s x1 x3 => if 0 ≤ (px_wr ((px_wr ((s 145 7) * 128)) + x1)) ∧ (px_wr ((px_wr ((s 145 7) * 128)) + x1)) < 7808 then some (px_up s 147 (px_wr ((px_wr ((s 145 7) * 128)) + x1)).toNat x3) else none) fu v (S : Int) (M : Int) row (sl : Int) = some (px_up u' 147 (128 * w + S) row') ∧ pz_ag [146] u u' ∧ pz_CI bl n (pz_hs (s 9) n) ((s 7 5 + 1).toNat) (pz_co 536870912 n (s 13) (pz_opc s mh) (s 6 4) (pz_prc s m tk)) r S 8 u' ∧ (∀ sl', pz_slot bl (pz_hs (s 9) n) S sl' → pz_nib row' sl' = (pz_ch 536870912 n (s 13) (pz_opc s mh) (s 6 4) (pz_prc s m tk) r S (pz_lq (pz_hs (s 9) n) ((s 7 5 + 1).toNat) S sl') : Int)) := by
    intro M hM hMb c
    induction c with
    | zero =>
      intro fu sl v row hsl hf hv hc hrow
      obtain ⟨f, rfl⟩ : ∃ f, fu = f + 1 := ⟨fu - 1, by omega⟩
      have : sl = 8 := by omega
      subst this
      have v6 : v 145 7 = (w : Int) := (hv 145 7 (by decide)).trans h6
      rw [l_Least_settleSet_20, if_pos (by decide), v6, pz_w128 hw60 (by omega), if_pos hwS, Int.toNat_natCast]
      exact ⟨v, row, rfl, hv, hc, fun sl' h1 => hrow sl' h1.1 h1⟩
    | succ c ih =>
      intro fu sl v row hsl hf hv hc hrow
      obtain ⟨f, rfl⟩ : ∃ f, fu = f + 1 := ⟨fu - 1, by omega⟩
      have hsl8 : sl < 8 := by omega
      rw [l_Least_settleSet_20, if_neg (by omega), pz_wr_suc (i := sl) (by omega)]
      cases hb : M.testBit sl with
      | false =>
        have hno : ¬ pz_slot bl (pz_hs (s 9) n) S sl := fun q => by rw [(hMb sl hsl8).mpr q] at hb; cases hb
        rw [if_pos ((pz_bit0 hM hsl8).mpr hb)]
        refine ih f (sl + 1) v row (by omega) (by omega) hv (fun S' sl' h1 h2 => ?_) (fun sl' h1 h2 => ?_)
        · rw [hc S' sl' h1 h2]
          by_cases he : S' = S ∧ sl' = sl
          · rcases h2 with h2 | h2
            · rw [he.1, he.2] at h2; exact absurd h2 hno
            · rw [h2.1, pz_all_co (by decide), pz_all_co (by decide)]
          · congr 1
            by_cases hc1 : S' < S ∨ (S' = S ∧ sl' < sl)
            · rw [if_pos hc1, if_pos (by omega)]
            · rw [if_neg hc1, if_neg (by omega)]
        · by_cases he : sl' = sl
          · rw [he] at h2; exact absurd h2 hno
          · exact hrow sl' (by omega) h2
      | true =>
        have hslot := (hMb sl hsl8).mp hb
        rw [if_neg (fun q => by rw [(pz_bit0 hM hsl8).mp q] at hb; cases hb)]
        have hRBv := pz_RB_ag h (pz_ag_mono hv (M := [20, 46, 146, 147, 148]) (by decide))
        obtain ⟨v2, e1, e2, e3⟩ := pz_settle (m := m) (mh := mh) hW hRBv hnc hnq hr hop (fun t c' sl' h1 h2 => by rw [hv 148 _ (by decide)]; exact hP t c' sl' h1 h2) hd hS hslot hc
        have hch : pz_ch 536870912 n (s 13) (pz_opc s mh) (s 6 4) (pz_prc s m tk) r S (pz_lq (pz_hs (s 9) n) ((s 7 5 + 1).toNat) S sl) < 16 := by
          rcases pz_ch8 (n := n) (af := s 13) (op := pz_opc s mh) (th := s 6 4) (pr := pz_prc s m tk) (r := r) (S := S) (q := pz_lq (pz_hs (s 9) n) ((s 7 5 + 1).toNat) S sl) with q | q
          · exact q
          · omega
        rw [e1, Option.bind_some, pz_w4 hsl8]
        refine ih f (sl + 1) v2 (pz_row row (pz_ch 536870912 n (s 13) (pz_opc s mh) (s 6 4) (pz_prc s m tk) r S (pz_lq (pz_hs (s 9) n) ((s 7 5 + 1).toNat) S sl) : Int) sl) (by omega) (by omega) (pz_ag_tr hv e2) e3 (fun sl' h1 h2 => ?_)
        by_cases he : sl' = sl
        · rw [he]; exact pz_nib_same row hsl8 hch
        · rw [pz_nib_other row hsl8 h2.1 he hch]
          exact hrow sl' (by omega) h2
  have hfin : ∀ (M : Nat), M < 256 → (∀ sl, sl < 8 → (M.testBit sl = true ↔ pz_slot bl (pz_hs (s 9) n) S sl)) → ∃ u' row, j_Least_settleSet_j15 u (S : Int) (M : Int) = some (px_up u' 147 (128 * w + S) row) ∧ pz_ag [146] u u' ∧ pz_CI bl n (pz_hs (s 9) n) ((s 7 5 + 1).toNat) (pz_co 536870912 n (s 13) (pz_opc s mh) (s 6 4) (pz_prc s m tk)) r (S + 1) 0 u' ∧ (∀ sl, pz_slot bl (pz_hs (s 9) n) S sl → pz_nib row sl = (pz_ch 536870912 n (s 13) (pz_opc s mh) (s 6 4) (pz_prc s m tk) r S (pz_lq (pz_hs (s 9) n) ((s 7 5 + 1).toNat) S sl) : Int)) := by
    intro M hM hMb
    obtain ⟨u', row, q1, q2, q3, q4⟩ := hloop M hM hMb 8 px_big 0 u (-2004318072) (by omega) (pz_big_lt (by omega)) pz_ag_rf hC (fun sl' h1 => absurd h1 (Nat.not_lt_zero _))
    refine ⟨u', row, q1, q2, fun S' sl' h1 h2 => ?_, q4⟩
    have hs8 : sl' < 8 := by
      rcases h2 with h2 | h2
      · exact h2.1
      · exact h2.2
    rw [q3 S' sl' h1 h2]
    congr 1
    by_cases hc1 : S' < S ∨ (S' = S ∧ sl' < 8)
    · rw [if_pos hc1, if_pos (by omega)]
    · rw [if_neg hc1, if_neg (by omega)]
  unfold f_Least_settleSet j_Least_settleSet_j14
  rw [h.1.2.1, h.2.2.1]
  have hone : (bl = false ∨ S = pz_hs (s 9) n) → ∃ u' row, j_Least_settleSet_j15 u (S : Int) 1 = some (px_up u' 147 (128 * w + S) row) ∧ pz_ag [146] u u' ∧ pz_CI bl n (pz_hs (s 9) n) ((s 7 5 + 1).toNat) (pz_co 536870912 n (s 13) (pz_opc s mh) (s 6 4) (pz_prc s m tk)) r (S + 1) 0 u' ∧ (∀ sl, pz_slot bl (pz_hs (s 9) n) S sl → pz_nib row sl = (pz_ch 536870912 n (s 13) (pz_opc s mh) (s 6 4) (pz_prc s m tk) r S (pz_lq (pz_hs (s 9) n) ((s 7 5 + 1).toNat) S sl) : Int)) := by
    intro hor
    refine hfin 1 (by decide) (fun sl hsl => ?_)
    unfold pz_slot
    rw [show (1 : Nat) = 2 ^ 1 - 1 by decide, Nat.testBit_two_pow_sub_one, decide_eq_true_eq]
    constructor
    · intro q; exact ⟨hsl, Or.inl ⟨hor, by omega⟩⟩
    · intro q
      rcases q.2 with q2 | q2
      · have := q2.2; omega
      · exfalso
        rcases hor with h1 | h1
        · rw [h1] at q2; cases q2.1
        · exact q2.2.1 h1
  by_cases hb : bl = true
  · rw [if_neg (show ¬ ((if bl = true then (1 : Int) else 0) = 0) by rw [if_pos hb]; decide)]
    by_cases hSH : S = pz_hs (s 9) n
    · rw [if_pos (by omega)]
      exact hone (Or.inr hSH)
    · rw [if_neg (by omega), pz_minus hS256 (by omega)]
      refine hfin _ (Nat.lt_of_le_of_lt Nat.and_le_left hS256) (fun sl hsl => ?_)
      unfold pz_slot
      rw [Nat.testBit_and, Nat.testBit_xor, show (255 : Nat) = 2 ^ 8 - 1 by decide, Nat.testBit_two_pow_sub_one, decide_eq_true hsl]
      constructor
      · intro q
        simp only [Bool.and_eq_true, Bool.true_xor, Bool.not_eq_true'] at q
        exact ⟨hsl, Or.inr ⟨hb, hSH, q.1, q.2⟩⟩
      · intro q
        rcases q.2 with q2 | q2
        · exfalso
          rcases q2.1 with q3 | q3
          · rw [q3] at hb; cases hb
          · exact hSH q3
        · simp [q2.2.2.1, q2.2.2.2]
  · rw [if_pos (show (if bl = true then (1 : Int) else 0) = 0 by rw [if_neg hb])]
    exact hone (Or.inl (by cases bl with | false => rfl | true => exact absurd rfl hb))
theorem pz_fillC {u : px_Z} {w : Nat} (hw : w ≤ 60) (x : Int) : ∃ u', f_Arrays_fill3_2 u (px_wr ((w : Int) * 128)) (px_wr (px_wr ((w : Int) * 128) + 128)) x = some u' ∧ pz_ag [147] u u' ∧ (∀ p, u' 147 p = if 128 * w ≤ p ∧ p < 128 * w + 128 then x else u 147 p) := by
  have hl : ∀ (c fu i : Nat) (v : px_Z), i + c = 128 * w + 128 → c < fu → 128 * w ≤ i → pz_ag [147] u v → (∀ p, v 147 p = if 128 * w ≤ p ∧ p < i then x else u 147 p) → ∃ u', l_Arrays_fill3_2_7 fu v ((128 * w + 128 : Nat) : Int) x (i : Int) = some u' ∧ pz_ag [147] u u' ∧ (∀ p, u' 147 p = if 128 * w ≤ p ∧ p < 128 * w + 128 then x else u 147 p) := by
    intro c
    induction c with
    | zero =>
      intro fu i v hi hf hb hv ht
      obtain ⟨f, rfl⟩ : ∃ f, fu = f + 1 := ⟨fu - 1, by omega⟩
      rw [l_Arrays_fill3_2_7, if_pos (by omega)]
      have : i = 128 * w + 128 := by omega
      rw [this] at ht
      exact ⟨v, rfl, hv, ht⟩
    | succ c ih =>
      intro fu i v hi hf hb hv ht
      obtain ⟨f, rfl⟩ : ∃ f, fu = f + 1 := ⟨fu - 1, by omega⟩
      rw [l_Arrays_fill3_2_7, if_neg (by omega), if_pos (by omega), Int.toNat_natCast, pz_wr_suc (by omega)]
      refine ih f (i + 1) _ (by omega) (by omega) (by omega) (pz_ag_up hv (by decide)) (fun p => ?_)
      rw [pz_up_same]
      by_cases hp : p = i
      · rw [if_pos hp, if_pos (by omega)]
      · rw [if_neg hp, ht p]
        by_cases hq : 128 * w ≤ p ∧ p < i
        · rw [if_pos hq, if_pos (by omega)]
        · rw [if_neg hq, if_neg (by omega)]
  unfold f_Arrays_fill3_2 f_Arrays_rangeCheck
  have e1 := pz_w128 hw (show 128 ≤ 256 by omega)
  have e0 := pz_w128 hw (show 0 ≤ 256 by omega)
  rw [show ((128 : Nat) : Int) = 128 from rfl] at e1
  rw [show ((0 : Nat) : Int) = 0 from rfl, Int.add_zero] at e0
  have e2 : px_wr ((w : Int) * 128) = ((128 * w : Nat) : Int) := by
    rw [pz_wr_id (by clear e0 e1; omega) (by clear e0 e1; omega)]
    clear e0 e1
    omega
  rw [e1, e2]
  clear e0 e1 e2
  rw [if_pos (by omega), if_pos (by omega), if_pos (by omega), Option.bind_some]
  exact hl 128 px_big (128 * w) u (by omega) (pz_big_lt (by omega)) (Nat.le_refl _) pz_ag_rf (fun p => by rw [if_neg (by omega)])
theorem pz_anyR {u : px_Z} {mh : Nat} (hm : mh ≤ 24) (h1 : u 28 0 = (mh : Int)) (w : Int) : f_Hills_isAnyOpen u w = some (if pz_an (pz_hlv (u 29) (u 30) (u 31) (u 32) (u 33)) mh w then 1 else 0) := by
  have hl : ∀ (r fu p : Nat), p + r = 6 → r < fu → l_Hills_isAnyOpen_2 u fu w (p : Int) = some (if (pz_fi (fun p => decide (pz_md (pz_hlv (u 29) (u 30) (u 31) (u 32) (u 33)) mh (p : Int) w ≠ -1)) r p).isSome then 1 else 0) := by
    intro r
    induction r with
    | zero =>
      intro fu p hp hf
      obtain ⟨f, rfl⟩ : ∃ f, fu = f + 1 := ⟨fu - 1, by omega⟩
      rw [l_Hills_isAnyOpen_2, if_pos (by omega)]
      rfl
    | succ r ih =>
      intro fu p hp hf
      obtain ⟨f, rfl⟩ : ∃ f, fu = f + 1 := ⟨fu - 1, by omega⟩
      rw [l_Hills_isAnyOpen_2, if_neg (by omega), pz_mudR hm h1, Option.bind_some, pz_wr_suc (by omega), pz_fi]
      by_cases hq : pz_md (pz_hlv (u 29) (u 30) (u 31) (u 32) (u 33)) mh (p : Int) w = -1
      · rw [if_pos hq]
        simp only [hq, ne_eq, not_true, decide_false, Bool.false_eq_true, if_false]
        exact ih f (p + 1) (by omega) (by omega)
      · rw [if_neg hq]
        simp only [hq, ne_eq, not_false_iff, decide_true, if_true, Option.isSome_some]
  exact hl 6 px_big 0 (by omega) (pz_big_lt (by omega))
theorem pz_co_closed {L : Int} {n : Nat} {af : Nat → Int} {op : Int → Bool} {th : Int} {pr : Nat → Int → Nat → Nat → Int} {r S q : Nat} (h : op (th - r) = false) : pz_co L n af op th pr (r + 1) S q = pz_co L n af op th pr r S q ∧ pz_bc L n af op th pr r S q = (L, 8) := by
  have hno : ∀ t, pz_cC n af op th r S t = false := by
    intro t
    unfold pz_cC
    rw [h, Bool.and_false]
  have h1 : ∀ (m i : Nat) (b : Int), pz_mn (pz_cC n af op th r S) (pz_cV L n af op th pr r S q) m i b = b := by
    intro m
    induction m with
    | zero => intro i b; rfl
    | succ m ih => intro i b; rw [pz_mn_s, hno i]; exact ih (i + 1) b
  have h2 : ∀ (m i : Nat) (b : Int × Nat), pz_mc (pz_cC n af op th r S) (pz_cV L n af op th pr r S q) m i b = b := by
    intro m
    induction m with
    | zero => intro i b; rfl
    | succ m ih => intro i b; rw [pz_mc_s, hno i]; exact ih (i + 1) b
  exact ⟨by rw [pz_co_s, h1], by rw [pz_bc_s, h2]⟩
theorem pz_ch_all {n : Nat} {af : Nat → Int} {op : Int → Bool} {th : Int} {pr : Nat → Int → Nat → Nat → Int} {r q : Nat} : pz_ch 536870912 n af op th pr r (2 ^ n - 1) q = 8 := by
  have hno : ∀ t, t < n → pz_cC n af op th r (2 ^ n - 1) t = false := by
    intro t ht
    unfold pz_cC pz_can
    rw [Nat.testBit_two_pow_sub_one, decide_eq_true ht]
    rfl
  have h2 : ∀ (m i : Nat) (b : Int × Nat), i + m = n → pz_mc (pz_cC n af op th r (2 ^ n - 1)) (pz_cV 536870912 n af op th pr r (2 ^ n - 1) q) m i b = b := by
    intro m
    induction m with
    | zero => intro i b _; rfl
    | succ m ih => intro i b hi; rw [pz_mc_s, hno i (by omega)]; exact ih (i + 1) b (by omega)
  unfold pz_ch
  rw [pz_bc_s, h2 n 0 _ (by omega)]
  split <;> rfl
theorem pz_settleW {n m mh w : Nat} {bh bl : Bool} {tk : Int} {s z u : px_Z} (hW : pz_W n (pz_wo s) z) (hmh : s 28 0 = (mh : Int)) (h : pz_RB n bh bl tk s u) (hnc : bh = false → ∀ t w c c2 q, pz_prc s m tk t w c q = pz_prc s m tk t w c2 q) (hnq : bl = false → pz_nq (pz_prc s m tk)) {r : Nat} (hr : r ≤ 60) (hw : s 6 4 - (r : Int) = (w : Int)) (hw60 : w ≤ 60) (h6 : u 145 7 = (w : Int)) (hP : pz_PR n m bh bl tk (s 6 4 - (r : Int)) s n 0 0 u) (hC : pz_CL bl n (pz_hs (s 9) n) ((s 7 5 + 1).toNat) (pz_co 536870912 n (s 13) (pz_opc s mh) (s 6 4) (pz_prc s m tk)) r u) : ∃ u', f_Least_settleWeek u = some u' ∧ pz_ag [146, 147] u u' ∧ pz_CL bl n (pz_hs (s 9) n) ((s 7 5 + 1).toNat) (pz_co 536870912 n (s 13) (pz_opc s mh) (s 6 4) (pz_prc s m tk)) (r + 1) u' ∧ (∀ S sl, pz_dom n (pz_hs (s 9) n) S → S < 2 ^ (n - 1) → pz_slot bl (pz_hs (s 9) n) S sl → pz_nib (u' 147 (128 * w + S)) sl = (pz_ch 536870912 n (s 13) (pz_opc s mh) (s 6 4) (pz_prc s m tk) r S (pz_lq (pz_hs (s 9) n) ((s 7 5 + 1).toNat) S sl) : Int)) ∧ (∀ p, ¬ (128 * w ≤ p ∧ p < 128 * w + 128) → u' 147 p = u 147 p) := by
  have hn := hW.1
  have hpw := pz_pow_le hn
  have hhf := pz_half_le hn
  have hlt : pz_hs (s 9) n < 2 ^ n := pz_hs_lt hn
  obtain ⟨mh2, w5a, w5b, w5c, w5d, w5e⟩ := hW.2.2.2.2.2.1
  have hmm : mh = mh2 := by
    have : s 28 0 = (mh2 : Int) := w5b
    omega
  subst hmm
  obtain ⟨v, e1, e2, e3⟩ := pz_fillC (u := u) hw60 (-2004318072)
  have hRBv := pz_RB_ag h (pz_ag_mono e2 (M := [20, 46, 146, 147, 148]) (by decide))
  have v6 : v 145 7 = (w : Int) := (e2 145 7 (by decide)).trans h6
  have vs : ∀ c i, c ∉ [20, 46, 145, 146, 147, 148, 149] → v c i = s c i := fun c i hc => hRBv.1.1 c i hc
  have v74 : v 7 4 = s 7 4 := vs 7 4 (by decide)
  have v76 : v 7 6 = s 7 6 := vs 7 6 (by decide)
  have hany : f_Hills_isAnyOpen v (w : Int) = some (if pz_an (pz_hlv (s 29) (s 30) (s 31) (s 32) (s 33)) mh (w : Int) then 1 else 0) := by
    have := pz_anyR (u := v) w5a ((vs 28 0 (by decide)).trans w5b) (w : Int)
    rw [show v 29 = s 29 from funext (fun i => vs 29 i (by decide)), show v 30 = s 30 from funext (fun i => vs 30 i (by decide)), show v 31 = s 31 from funext (fun i => vs 31 i (by decide)), show v 32 = s 32 from funext (fun i => vs 32 i (by decide)), show v 33 = s 33 from funext (fun i => vs 33 i (by decide))] at this
    exact this
  have hCv : pz_CL bl n (pz_hs (s 9) n) ((s 7 5 + 1).toNat) (pz_co 536870912 n (s 13) (pz_opc s mh) (s 6 4) (pz_prc s m tk)) r v := fun S' sl' h1 h2 => by rw [e2 146 _ (by decide)]; exact hC S' sl' h1 h2
  have hstart : f_Least_settleWeek u = if pz_opc s mh (s 6 4 - (r : Int)) then l_Least_settleWeek_43 px_big v ((pz_hs (s 9) n : Nat) : Int) else some v := by
    unfold f_Least_settleWeek
    rw [h6, e1, Option.bind_some, v6, v74, v76]
    unfold j_Least_settleWeek_j26 j_Least_settleWeek_j33 j_Least_settleWeek_j36
    rw [v6, hany, Option.bind_some, hRBv.1.2.1, hw]
    unfold pz_opc
    by_cases a1 : (w : Int) = s 7 4
    · by_cases a2 : s 7 6 = 0
      · rw [if_pos a1, if_pos a2]
        cases pz_an (pz_hlv (s 29) (s 30) (s 31) (s 32) (s 33)) mh (w : Int) <;> simp [a2]
      · rw [if_pos a1, if_neg a2]
        simp [a1, a2]
    · rw [if_neg a1]
      cases pz_an (pz_hlv (s 29) (s 30) (s 31) (s 32) (s 33)) mh (w : Int) <;> simp [a1]
  rw [hstart]
  cases hop : pz_opc s mh (s 6 4 - (r : Int)) with
  | false =>
    simp only [Bool.false_eq_true, if_false]
    refine ⟨v, rfl, pz_ag_mono e2 (by decide), fun S' sl' h1 h2 => ?_, fun S sl h1 h3 h2 => ?_, fun p hp => ?_⟩
    · rw [hCv S' sl' h1 h2, (pz_co_closed hop).1]
    · rw [e3, if_pos (by omega), pz_nib8 h2.1]
      unfold pz_ch
      rw [(pz_co_closed hop).2]
      split <;> rfl
    · rw [e3, if_neg hp]
  | true =>
    simp only [if_true]
    have hl : ∀ (c fu S : Nat) (x : px_Z), S + c = max (2 ^ (n - 1)) (pz_hs (s 9) n) → pz_hs (s 9) n ≤ S → c < fu → pz_ag [146, 147] v x → pz_CI bl n (pz_hs (s 9) n) ((s 7 5 + 1).toNat) (pz_co 536870912 n (s 13) (pz_opc s mh) (s 6 4) (pz_prc s m tk)) r S 0 x → (∀ S' sl, S' < S → S' < 2 ^ (n - 1) → pz_dom n (pz_hs (s 9) n) S' → pz_slot bl (pz_hs (s 9) n) S' sl → pz_nib (x 147 (128 * w + S')) sl = (pz_ch 536870912 n (s 13) (pz_opc s mh) (s 6 4) (pz_prc s m tk) r S' (pz_lq (pz_hs (s 9) n) ((s 7 5 + 1).toNat) S' sl) : Int)) → (∀ p, ¬ (128 * w ≤ p ∧ p < 128 * w + S ∧ p < 128 * w + 2 ^ (n - 1)) → x 147 p = v 147 p) → ∃ u', l_Least_settleWeek_43 fu x (S : Int) = some u' ∧ pz_ag [146, 147] v u' ∧ pz_CI bl n (pz_hs (s 9) n) ((s 7 5 + 1).toNat) (pz_co 536870912 n (s 13) (pz_opc s mh) (s 6 4) (pz_prc s m tk)) r (max (2 ^ (n - 1)) (pz_hs (s 9) n)) 0 u' ∧ (∀ S' sl, S' < 2 ^ (n - 1) → pz_dom n (pz_hs (s 9) n) S' → pz_slot bl (pz_hs (s 9) n) S' sl → pz_nib (u' 147 (128 * w + S')) sl = (pz_ch 536870912 n (s 13) (pz_opc s mh) (s 6 4) (pz_prc s m tk) r S' (pz_lq (pz_hs (s 9) n) ((s 7 5 + 1).toNat) S' sl) : Int)) ∧ (∀ p, ¬ (128 * w ≤ p ∧ p < 128 * w + 2 ^ (n - 1)) → u' 147 p = v 147 p) := by
      intro c
      induction c with
      | zero =>
        intro fu S x hS hSH hf hx hc hch hfr
        obtain ⟨f, rfl⟩ : ∃ f, fu = f + 1 := ⟨fu - 1, by omega⟩
        have x5 : x 145 6 = ((2 ^ n - 1 : Nat) : Int) := (hx 145 6 (by decide)).trans hRBv.1.2.2.1
        rw [l_Least_settleWeek_43, x5, pz_half hn, if_pos (by omega)]
        have hSe : S = max (2 ^ (n - 1)) (pz_hs (s 9) n) := by omega
        rw [← hSe]
        exact ⟨x, rfl, hx, hc, fun S' sl h1 h2 h3 => hch S' sl (by omega) h1 h2 h3, fun p hp => hfr p (by omega)⟩
      | succ c ih =>
        intro fu S x hS hSH hf hx hc hch hfr
        obtain ⟨f, rfl⟩ : ∃ f, fu = f + 1 := ⟨fu - 1, by omega⟩
        have hS2 : S < 2 ^ (n - 1) := by omega
        have x5 : x 145 6 = ((2 ^ n - 1 : Nat) : Int) := (hx 145 6 (by decide)).trans hRBv.1.2.2.1
        have x4 : x 145 5 = ((pz_hs (s 9) n : Nat) : Int) := (hx 145 5 (by decide)).trans hRBv.1.2.1
        rw [l_Least_settleWeek_43, x5, pz_half hn, if_neg (by omega), x4, pz_and_nat (show S < 256 by omega) (show pz_hs (s 9) n < 256 by omega), pz_wr_suc (i := S) (by omega)]
        by_cases hsub : pz_hs (s 9) n &&& S = pz_hs (s 9) n
        · rw [if_pos (by rw [Nat.and_comm, hsub])]
          have hdS : pz_dom n (pz_hs (s 9) n) S := ⟨by omega, hsub, Or.inl hS2⟩
          have hRBx := pz_RB_ag hRBv (pz_ag_mono hx (M := [20, 46, 146, 147, 148]) (by decide))
          obtain ⟨u', row, q1, q2, q3, q4⟩ := pz_setR (m := m) (mh := mh) hW hRBx hnc hnq hr hw hw60 ((hx 145 7 (by decide)).trans v6) hop (fun t c' sl' h1 h2 => by rw [hx 148 _ (by decide), e2 148 _ (by decide)]; exact hP t c' sl' h1 h2) hdS hS2 hc
          rw [q1, Option.bind_some]
          refine ih f (S + 1) _ (by omega) (by omega) (by omega) (pz_ag_up (pz_ag_tr hx (pz_ag_mono q2 (by decide))) (by decide)) (fun S' sl' h1 h2 => by rw [pz_up_c (by decide)]; exact q3 S' sl' h1 h2) (fun S' sl h1 h2 h3 h4 => ?_) (fun p hp => ?_)
          · rw [pz_up_same]
            by_cases he : S' = S
            · rw [if_pos (by omega), he]
              rw [he] at h4
              exact q4 sl h4
            · rw [if_neg (by omega), q2 147 _ (by decide)]
              exact hch S' sl (by omega) h2 h3 h4
          · rw [pz_up_i (by omega), q2 147 _ (by decide)]
            exact hfr p (by omega)
        · rw [if_neg (fun q => by
            have q' : S &&& pz_hs (s 9) n = pz_hs (s 9) n := by omega
            rw [Nat.and_comm] at q'
            exact hsub q')]
          refine ih f (S + 1) x (by omega) (by omega) (by omega) hx (fun S' sl' h1 h2 => ?_) (fun S' sl h1 h2 h3 h4 => ?_) (fun p hp => hfr p (by omega))
          · rw [hc S' sl' h1 h2]
            have hne : S' ≠ S := fun q => hsub (by rw [← q]; exact h1.2.1)
            by_cases hc1 : S' < S ∨ (S' = S ∧ sl' < 0)
            · rw [if_pos hc1, if_pos (by omega)]
            · rw [if_neg hc1, if_neg (by omega)]
          · by_cases he : S' = S
            · exfalso; rw [he] at h3; exact hsub h3.2.1
            · exact hch S' sl (by omega) h2 h3 h4
    obtain ⟨u', q1, q2, q3, q4, q5⟩ := hl (max (2 ^ (n - 1)) (pz_hs (s 9) n) - pz_hs (s 9) n) px_big (pz_hs (s 9) n) v (by omega) (Nat.le_refl _) (pz_big_lt (by omega)) pz_ag_rf (fun S' sl' h1 h2 => by
      have := pz_sub_le h1.2.1
      rw [if_neg (by omega)]
      exact hCv S' sl' h1 h2) (fun S' sl h1 h2 h3 => by
      have := pz_sub_le h3.2.1
      omega) (fun _ _ => rfl)
    refine ⟨u', q1, pz_ag_tr (pz_ag_mono e2 (by decide)) q2, fun S' sl' h1 h2 => ?_, fun S sl h1 h4 h2 => ?_, fun p hp => ?_⟩
    · rw [q3 S' sl' h1 h2]
      rcases h1.2.2 with h3 | h3
      · rw [if_pos (by omega)]
      · rw [h3, pz_all_co (by decide), pz_all_co (by decide)]
    · exact q4 S sl h4 h1 h2
    · rw [q5 p (by omega), e3, if_neg hp]
