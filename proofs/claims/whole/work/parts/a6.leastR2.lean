/-! LEAST of the class: WEEK by WEEK -/
def pz_q8 (S : Nat) : Bool := pz_ra 256 (fun H => decide (px_and (S : Int) (px_xor (H : Int) (-1)) = ((S &&& (255 ^^^ H) : Nat) : Int)))
set_option maxRecDepth 100000 in
theorem pz_k8_0 : pz_ra 16 (fun a => pz_q8 (16 * 0 + a)) = true := by decide +kernel
set_option maxRecDepth 100000 in
theorem pz_k8_1 : pz_ra 16 (fun a => pz_q8 (16 * 1 + a)) = true := by decide +kernel
set_option maxRecDepth 100000 in
theorem pz_k8_2 : pz_ra 16 (fun a => pz_q8 (16 * 2 + a)) = true := by decide +kernel
set_option maxRecDepth 100000 in
theorem pz_k8_3 : pz_ra 16 (fun a => pz_q8 (16 * 3 + a)) = true := by decide +kernel
set_option maxRecDepth 100000 in
theorem pz_k8_4 : pz_ra 16 (fun a => pz_q8 (16 * 4 + a)) = true := by decide +kernel
set_option maxRecDepth 100000 in
theorem pz_k8_5 : pz_ra 16 (fun a => pz_q8 (16 * 5 + a)) = true := by decide +kernel
set_option maxRecDepth 100000 in
theorem pz_k8_6 : pz_ra 16 (fun a => pz_q8 (16 * 6 + a)) = true := by decide +kernel
set_option maxRecDepth 100000 in
theorem pz_k8_7 : pz_ra 16 (fun a => pz_q8 (16 * 7 + a)) = true := by decide +kernel
set_option maxRecDepth 100000 in
theorem pz_k8_8 : pz_ra 16 (fun a => pz_q8 (16 * 8 + a)) = true := by decide +kernel
set_option maxRecDepth 100000 in
theorem pz_k8_9 : pz_ra 16 (fun a => pz_q8 (16 * 9 + a)) = true := by decide +kernel
set_option maxRecDepth 100000 in
theorem pz_k8_10 : pz_ra 16 (fun a => pz_q8 (16 * 10 + a)) = true := by decide +kernel
set_option maxRecDepth 100000 in
theorem pz_k8_11 : pz_ra 16 (fun a => pz_q8 (16 * 11 + a)) = true := by decide +kernel
set_option maxRecDepth 100000 in
theorem pz_k8_12 : pz_ra 16 (fun a => pz_q8 (16 * 12 + a)) = true := by decide +kernel
set_option maxRecDepth 100000 in
theorem pz_k8_13 : pz_ra 16 (fun a => pz_q8 (16 * 13 + a)) = true := by decide +kernel
set_option maxRecDepth 100000 in
theorem pz_k8_14 : pz_ra 16 (fun a => pz_q8 (16 * 14 + a)) = true := by decide +kernel
set_option maxRecDepth 100000 in
theorem pz_k8_15 : pz_ra 16 (fun a => pz_q8 (16 * 15 + a)) = true := by decide +kernel
theorem pz_k8 : pz_ra 256 (fun S => pz_ra 256 (fun H => decide (px_and (S : Int) (px_xor (H : Int) (-1)) = ((S &&& (255 ^^^ H) : Nat) : Int)))) = true := pz_by16 (p := pz_q8) (fun j hj => match j, hj with
  | 0, _ => pz_k8_0
  | 1, _ => pz_k8_1
  | 2, _ => pz_k8_2
  | 3, _ => pz_k8_3
  | 4, _ => pz_k8_4
  | 5, _ => pz_k8_5
  | 6, _ => pz_k8_6
  | 7, _ => pz_k8_7
  | 8, _ => pz_k8_8
  | 9, _ => pz_k8_9
  | 10, _ => pz_k8_10
  | 11, _ => pz_k8_11
  | 12, _ => pz_k8_12
  | 13, _ => pz_k8_13
  | 14, _ => pz_k8_14
  | 15, _ => pz_k8_15
  | _ + 16, hj => absurd hj (by omega))
theorem pz_minus {S H : Nat} (hS : S < 256) (hH : H < 256) : px_and (S : Int) (px_xor (H : Int) (-1)) = ((S &&& (255 ^^^ H) : Nat) : Int) := by
  have := pz_ra_at (pz_ra_at pz_k8 hS) hH
  simpa only [decide_eq_true_eq] using this
set_option maxRecDepth 100000 in
theorem pz_k9 : pz_ra 9 (fun n => decide (px_shr ((2 ^ n - 1 : Nat) : Int) 1 = ((2 ^ (n - 1) - 1 : Nat) : Int))) = true := by decide +kernel
theorem pz_half {n : Nat} (h : n ≤ 8) : px_shr ((2 ^ n - 1 : Nat) : Int) 1 = ((2 ^ (n - 1) - 1 : Nat) : Int) := by
  have := pz_ra_at pz_k9 (show n < 9 by omega)
  simpa only [decide_eq_true_eq] using this
theorem pz_half_le {n : Nat} (h : n ≤ 8) : 1 ≤ 2 ^ (n - 1) ∧ 2 ^ (n - 1) ≤ 2 ^ n ∧ 2 ^ (n - 1) ≤ 128 := by
  rcases (show n = 0 ∨ n = 1 ∨ n = 2 ∨ n = 3 ∨ n = 4 ∨ n = 5 ∨ n = 6 ∨ n = 7 ∨ n = 8 by omega) with rfl | rfl | rfl | rfl | rfl | rfl | rfl | rfl | rfl <;> decide
theorem pz_sub_le {H S : Nat} (h : H &&& S = H) : H ≤ S := by
  rw [← h]; exact Nat.and_le_right
theorem pz_sub_bit {H S i : Nat} (h : H &&& S = H) (hb : S.testBit i = false) : H.testBit i = false := by
  rw [← h, Nat.testBit_and, hb, Bool.and_false]
/-- prices that don't rest on LAST: neither do the sums -/
theorem pz_cV_nq {L : Int} {n : Nat} {af : Nat → Int} {op : Int → Bool} {th : Int} {pr : Nat → Int → Nat → Nat → Int} (h : pz_nq pr) (r S q q2 : Nat) : pz_cV L n af op th pr r S q = pz_cV L n af op th pr r S q2 := by
  funext t
  unfold pz_cV
  rw [h t (th - r) (pz_cnt S) q q2]
theorem pz_co_nq {L : Int} {n : Nat} {af : Nat → Int} {op : Int → Bool} {th : Int} {pr : Nat → Int → Nat → Nat → Int} (h : pz_nq pr) : ∀ (r S q q2 : Nat), pz_co L n af op th pr r S q = pz_co L n af op th pr r S q2 := by
  intro r
  induction r with
  | zero => intro S q q2; rfl
  | succ r ih =>
    intro S q q2
    rw [pz_co_s, pz_co_s, pz_cV_nq h r S q q2, ih S q q2]
theorem pz_ch_nq {L : Int} {n : Nat} {af : Nat → Int} {op : Int → Bool} {th : Int} {pr : Nat → Int → Nat → Nat → Int} (h : pz_nq pr) (r S q q2 : Nat) : pz_ch L n af op th pr r S q = pz_ch L n af op th pr r S q2 := by
  unfold pz_ch
  rw [pz_bc_s, pz_bc_s, pz_cV_nq h r S q q2, pz_co_nq h r S q q2]
/-- a place of the costs -/
def pz_svv (bl : Bool) (n hs S sl : Nat) : Prop := pz_slot bl hs S sl ∨ (S = 2 ^ n - 1 ∧ sl < 8)
def pz_CI (bl : Bool) (n hs q0 : Nat) (co : Nat → Nat → Nat → Int) (r S sl : Nat) (u : px_Z) : Prop := ∀ S' sl', pz_dom n hs S' → pz_svv bl n hs S' sl' → u 146 (8 * S' + sl') = co (if S' < S ∨ (S' = S ∧ sl' < sl) then r + 1 else r) S' (pz_lq hs q0 S' sl')
def pz_CL (bl : Bool) (n hs q0 : Nat) (co : Nat → Nat → Nat → Int) (r : Nat) (u : px_Z) : Prop := ∀ S' sl', pz_dom n hs S' → pz_svv bl n hs S' sl' → u 146 (8 * S' + sl') = co r S' (pz_lq hs q0 S' sl')
theorem pz_w8m {a i : Nat} (h : a < 256) (hi : i < 8) : px_wr (px_wr ((a : Int) * 8) + (i : Int)) = ((8 * a + i : Nat) : Int) := by
  rw [pz_wr_id (x := (a : Int) * 8) (by omega) (by omega), pz_wr_id (by omega) (by omega)]
  omega
theorem pz_w80 {a : Nat} (h : a < 256) : px_wr (px_wr ((a : Int) * 8) + 0) = ((8 * a + 0 : Nat) : Int) := by
  rw [pz_wr_id (x := (a : Int) * 8) (by omega) (by omega), pz_wr_id (by omega) (by omega)]
  omega
theorem pz_settle {n m mh : Nat} {bh bl : Bool} {tk : Int} {s z u : px_Z} (hW : pz_W n (pz_wo s) z) (h : pz_RB n bh bl tk s u) (hnc : bh = false → ∀ t w c c2 q, pz_prc s m tk t w c q = pz_prc s m tk t w c2 q) (hnq : bl = false → pz_nq (pz_prc s m tk)) {r S sl : Nat} (hr : r ≤ 60) (hop : pz_opc s mh (s 6 4 - (r : Int)) = true) (hP : pz_PR n m bh bl tk (s 6 4 - (r : Int)) s n 0 0 u) (hd : pz_dom n (pz_hs (s 9) n) S) (hS : S < 2 ^ (n - 1)) (hsl : pz_slot bl (pz_hs (s 9) n) S sl) (hC : pz_CI bl n (pz_hs (s 9) n) ((s 7 5 + 1).toNat) (pz_co 536870912 n (s 13) (pz_opc s mh) (s 6 4) (pz_prc s m tk)) r S sl u) : ∃ u', f_Least_settle u (S : Int) (sl : Int) = some ((pz_ch 536870912 n (s 13) (pz_opc s mh) (s 6 4) (pz_prc s m tk) r S (pz_lq (pz_hs (s 9) n) ((s 7 5 + 1).toNat) S sl) : Int), u') ∧ pz_ag [146] u u' ∧ pz_CI bl n (pz_hs (s 9) n) ((s 7 5 + 1).toNat) (pz_co 536870912 n (s 13) (pz_opc s mh) (s 6 4) (pz_prc s m tk)) r S (sl + 1) u' := by
  have hn := hW.1
  have hpw := pz_pow_le hn
  have hhf := pz_half_le hn
  have hlt : pz_hs (s 9) n < 2 ^ n := pz_hs_lt hn
  obtain ⟨hd1, hd2, hd3⟩ := hd
  have hsl8 : sl < 8 := hsl.1
  have hS128 : S < 128 := by omega
  have b1 : s 6 1 = (n : Int) := hW.2.1.1
  have u61 : u 6 1 = (n : Int) := (h.1.1 6 1 (by decide)).trans b1
  have u9 := h.2.2.1
  obtain ⟨R, hR1, hR2, hR3⟩ := h.2.2.2 S (pz_sub_le hd2) hd1
  have hp : ∀ t w c q, 1 ≤ pz_prc s m tk t w c q ∧ pz_prc s m tk t w c q ≤ 9999 := fun t w c q => pz_pr_rg
  have hbd : ∀ k, k ≤ 61 → ∀ S q, 0 ≤ pz_co 536870912 n (s 13) (pz_opc s mh) (s 6 4) (pz_prc s m tk) k S q ∧ pz_co 536870912 n (s 13) (pz_opc s mh) (s 6 4) (pz_prc s m tk) k S q ≤ 536870912 := by
    intro k hk S q
    have := pz_co_rl (n := n) (af := s 13) (op := pz_opc s mh) (th := s 6 4) hp k hk S q
    unfold pz_rl at this
    omega
  have hcs := pz_sub_cnt (show pz_hs (s 9) n < 256 by omega) (show S < 256 by omega) hd2
  have hslq : (S = pz_hs (s 9) n ∨ bl = false → sl = 0) ∧ (S ≠ pz_hs (s 9) n → bl = true → sl < n) := by
    refine ⟨fun q => ?_, fun q qb => ?_⟩
    · rcases hsl.2 with q2 | q2
      · exact q2.2
      · rcases q with q | q
        · exact absurd q q2.2.1
        · rw [q] at q2; cases q2.1
    · rcases hsl.2 with q2 | q2
      · rcases q2.1 with q3 | q3
        · rw [q3] at qb; cases qb
        · exact absurd q3 q
      · refine Nat.lt_of_not_le (fun q3 => ?_)
        have : S.testBit sl = false := Nat.testBit_lt_two_pow (Nat.lt_of_lt_of_le hd1 (Nat.pow_le_pow_right (by decide) q3))
        rw [this] at q2
        cases q2.2.2.1
  have hlq : pz_lq (pz_hs (s 9) n) ((s 7 5 + 1).toNat) S sl = if pz_cnt S = pz_cnt (pz_hs (s 9) n) then (s 7 5 + 1).toNat else sl + 1 := by
    unfold pz_lq
    by_cases q : S = pz_hs (s 9) n
    · rw [if_pos q, if_pos (by rw [q])]
    · rw [if_neg q, if_neg (fun q2 => q (hcs.2 q2.symm).symm)]
  generalize hqq : pz_lq (pz_hs (s 9) n) ((s 7 5 + 1).toNat) S sl = q at hlq ⊢
  have hloop : ∀ (K : px_Z → Int → Int → Int → Int → Option (Int × px_Z)) (c fu i : Nat) (b : Int) (ch : Nat), i + c = n → c < fu → l_Least_settle_16 K fu u (S : Int) (sl : Int) ((pz_col bh (pz_hs (s 9) n) (pz_cnt S) : Nat) : Int) (R : Int) b (ch : Int) (i : Int) = K u (S : Int) (sl : Int) (pz_mc (pz_cC n (s 13) (pz_opc s mh) (s 6 4) r S) (pz_cV 536870912 n (s 13) (pz_opc s mh) (s 6 4) (pz_prc s m tk) r S q) c i (b, ch)).1 (((pz_mc (pz_cC n (s 13) (pz_opc s mh) (s 6 4) r S) (pz_cV 536870912 n (s 13) (pz_opc s mh) (s 6 4) (pz_prc s m tk) r S q) c i (b, ch)).2 : Nat) : Int) := by
    intro K c
    induction c with
    | zero =>
      intro fu i b ch hi hf
      obtain ⟨f, rfl⟩ : ∃ f, fu = f + 1 := ⟨fu - 1, by omega⟩
      rw [l_Least_settle_16, u61, if_pos (by omega)]
      rfl
    | succ c ih =>
      intro fu i b ch hi hf
      obtain ⟨f, rfl⟩ : ∃ f, fu = f + 1 := ⟨fu - 1, by omega⟩
      have hRi := hR3 i (by omega)
      rw [l_Least_settle_16, u61, if_neg (by omega), pz_wr_suc (i := i) (by omega), pz_mc_s]
      have hCC : pz_cC n (s 13) (pz_opc s mh) (s 6 4) r S i = pz_can n (s 13) i S := by
        show (pz_can n (s 13) i S && pz_opc s mh (s 6 4 - (r : Int))) = _
        rw [hop, Bool.and_true]
      rw [hCC]
      cases hc : pz_can n (s 13) i S with
      | false =>
        rw [hc] at hRi
        rw [if_pos ((pz_bit0 hR1 (by omega)).mpr hRi)]
        simp only [Bool.false_eq_true, if_false]
        exact ih f (i + 1) b ch (by omega) (by omega)
      | true =>
        rw [hc] at hRi
        have hb : S.testBit i = false := pz_canbit hc
        rw [if_neg (fun q2 => by rw [(pz_bit0 hR1 (by omega)).mp q2] at hRi; cases hRi), u9]
        simp only [if_true]
        have hi8 : i < 8 := by omega
        have hor := pz_or_add (show S < 256 by omega) hi8 hb
        have hp2 : 0 < 2 ^ i := Nat.two_pow_pos i
        have hlt2 := pz_in_all hn hd1 (show i < n by omega)
        have hhsb : (pz_hs (s 9) n).testBit i = false := pz_sub_bit hd2 hb
        have hne : S ||| 2 ^ i ≠ pz_hs (s 9) n := fun q2 => by
          have := congrArg (fun x => x.testBit i) q2
          simp only [pz_or_bit, hhsb] at this
          simp at this
        have hdom : pz_dom n (pz_hs (s 9) n) (S ||| 2 ^ i) := by
          refine ⟨hlt2, pz_sub_or i hd2, ?_⟩
          by_cases hin : i + 1 = n
          · right
            unfold pz_can at hc
            simp only [Bool.and_eq_true, Bool.or_eq_true, decide_eq_true_eq] at hc
            refine ((pz_him hn hd1 (show i < n by omega) hb).2).mpr ?_
            rcases hc.2 with q2 | q2
            · omega
            · exact q2
          · left
            exact pz_in_all (show n - 1 ≤ 8 by omega) hS (by omega)
        have hb1 := hbd r (by omega) (S ||| 2 ^ i) (i + 1)
        have hVd : pz_cV 536870912 n (s 13) (pz_opc s mh) (s 6 4) (pz_prc s m tk) r S q i = pz_cv 536870912 (pz_co 536870912 n (s 13) (pz_opc s mh) (s 6 4) (pz_prc s m tk) r (S ||| 2 ^ i) (i + 1)) (pz_prc s m tk i (s 6 4 - (r : Int)) (pz_cnt S) q) := rfl
        have hcn : pz_cnt S < n := (pz_him hn hd1 (show i < n by omega) hb).1
        have hcle := pz_col_le bh (pz_hs (s 9) n) (pz_cnt S)
        have hclo := pz_col_lo bh hcs.1
        have hcmo := pz_col_mono bh (pz_hs (s 9) n) (show pz_cnt S ≤ n - 1 by omega)
        have hcS8 : pz_col bh (pz_hs (s 9) n) (pz_cnt S) < 8 := by omega
        have hpr : u 148 (64 * i + 8 * pz_col bh (pz_hs (s 9) n) (pz_cnt S) + sl) = pz_prc s m tk i (s 6 4 - (r : Int)) (pz_cnt S) q := by
          have h1 := hP i (pz_col bh (pz_hs (s 9) n) (pz_cnt S)) sl ⟨by omega, hclo.1, hcmo, fun q2 => hslq.1 (q2.elim (fun q3 => Or.inl (hcs.2 (hclo.2.mp q3).symm).symm) Or.inr), fun q2 qb => hslq.2 (fun q3 => q2 (hclo.2.mpr (by rw [q3]))) qb⟩ (Or.inl (by omega))
          rw [h1, hlq]
          have h2 : (if pz_col bh (pz_hs (s 9) n) (pz_cnt S) = pz_cnt (pz_hs (s 9) n) then (s 7 5 + 1).toNat else sl + 1) = (if pz_cnt S = pz_cnt (pz_hs (s 9) n) then (s 7 5 + 1).toNat else sl + 1) := by
            by_cases q2 : pz_cnt S = pz_cnt (pz_hs (s 9) n)
            · rw [if_pos q2, if_pos (hclo.2.mpr q2)]
            · rw [if_neg q2, if_neg (fun q3 => q2 (hclo.2.mp q3))]
          rw [h2]
          cases hbh : bh with
          | false => exact hnc hbh _ _ _ _ _
          | true => rfl
        have b512 : 0 ≤ ((64 * i + 8 * pz_col bh (pz_hs (s 9) n) (pz_cnt S) + sl : Nat) : Int) ∧ ((64 * i + 8 * pz_col bh (pz_hs (s 9) n) (pz_cnt S) + sl : Nat) : Int) < 512 := by omega
        have hpp := hp i (s 6 4 - (r : Int)) (pz_cnt S) q
        by_cases hbb : bl = true
        · rw [if_neg (show ¬ ((if bl = true then (1 : Int) else 0) = 0) by rw [if_pos hbb]; decide)]
          have hslot : pz_slot bl (pz_hs (s 9) n) (S ||| 2 ^ i) i := ⟨hi8, Or.inr ⟨hbb, hne, by rw [pz_or_bit]; simp, hhsb⟩⟩
          have hrest : u 146 (8 * (S ||| 2 ^ i) + i) = pz_co 536870912 n (s 13) (pz_opc s mh) (s 6 4) (pz_prc s m tk) r (S ||| 2 ^ i) (i + 1) := by
            have := hC (S ||| 2 ^ i) i hdom (Or.inl hslot)
            rw [if_neg (by omega)] at this
            rw [this]
            unfold pz_lq
            rw [if_neg hne]
          have hidx : 0 ≤ (((8 * (S ||| 2 ^ i) + i : Nat)) : Int) ∧ (((8 * (S ||| 2 ^ i) + i : Nat)) : Int) < 2048 := by omega
          rw [pz_add (show S < 256 by omega) hi8, pz_w8m (show S ||| 2 ^ i < 256 by omega) hi8, if_pos hidx, Int.toNat_natCast, hrest, hVd]
          unfold pz_cv
          by_cases hL : (536870912 : Int) ≤ pz_co 536870912 n (s 13) (pz_opc s mh) (s 6 4) (pz_prc s m tk) r (S ||| 2 ^ i) (i + 1)
          · rw [if_pos hL, if_pos hL]
            by_cases hbl : b ≤ 536870912
            · rw [if_pos hbl, if_neg (show ¬ ((536870912 : Int) < (b, ch).1) by show ¬ ((536870912 : Int) < b); omega)]
              exact ih f (i + 1) b ch (by omega) (by omega)
            · rw [if_neg hbl, if_pos (show (536870912 : Int) < (b, ch).1 by show (536870912 : Int) < b; omega)]
              exact ih f (i + 1) 536870912 i (by omega) (by omega)
          · rw [if_neg hL, if_neg hL]
            rw [pz_pat hi8 hcS8 hsl8, if_pos b512, Int.toNat_natCast, hpr, pz_wr_id (by omega) (by omega)]
            by_cases hbl : b ≤ pz_co 536870912 n (s 13) (pz_opc s mh) (s 6 4) (pz_prc s m tk) r (S ||| 2 ^ i) (i + 1) + pz_prc s m tk i (s 6 4 - (r : Int)) (pz_cnt S) q
            · rw [if_pos hbl, if_neg (show ¬ (pz_co 536870912 n (s 13) (pz_opc s mh) (s 6 4) (pz_prc s m tk) r (S ||| 2 ^ i) (i + 1) + pz_prc s m tk i (s 6 4 - (r : Int)) (pz_cnt S) q < (b, ch).1) by show ¬ (_ < b); omega)]
              exact ih f (i + 1) b ch (by omega) (by omega)
            · rw [if_neg hbl, if_pos (show pz_co 536870912 n (s 13) (pz_opc s mh) (s 6 4) (pz_prc s m tk) r (S ||| 2 ^ i) (i + 1) + pz_prc s m tk i (s 6 4 - (r : Int)) (pz_cnt S) q < (b, ch).1 by show _ < b; omega)]
              exact ih f (i + 1) _ i (by omega) (by omega)
        · have hbf : bl = false := by cases bl with | false => rfl | true => exact absurd rfl hbb
          rw [if_pos (show (if bl = true then (1 : Int) else 0) = 0 by rw [if_neg hbb])]
          have hslot : pz_slot bl (pz_hs (s 9) n) (S ||| 2 ^ i) 0 := ⟨by decide, Or.inl ⟨Or.inl hbf, rfl⟩⟩
          have hrest : u 146 (8 * (S ||| 2 ^ i) + 0) = pz_co 536870912 n (s 13) (pz_opc s mh) (s 6 4) (pz_prc s m tk) r (S ||| 2 ^ i) (i + 1) := by
            have := hC (S ||| 2 ^ i) 0 hdom (Or.inl hslot)
            rw [if_neg (by omega)] at this
            rw [this]
            unfold pz_lq
            rw [if_neg hne]
            exact pz_co_nq (hnq hbf) _ _ _ _
          have hidx : 0 ≤ (((8 * (S ||| 2 ^ i) + 0 : Nat)) : Int) ∧ (((8 * (S ||| 2 ^ i) + 0 : Nat)) : Int) < 2048 := by omega
          rw [pz_add (show S < 256 by omega) hi8, pz_w80 (show S ||| 2 ^ i < 256 by omega), if_pos hidx, Int.toNat_natCast, hrest, hVd]
          unfold pz_cv
          by_cases hL : (536870912 : Int) ≤ pz_co 536870912 n (s 13) (pz_opc s mh) (s 6 4) (pz_prc s m tk) r (S ||| 2 ^ i) (i + 1)
          · rw [if_pos hL, if_pos hL]
            by_cases hbl : b ≤ 536870912
            · rw [if_pos hbl, if_neg (show ¬ ((536870912 : Int) < (b, ch).1) by show ¬ ((536870912 : Int) < b); omega)]
              exact ih f (i + 1) b ch (by omega) (by omega)
            · rw [if_neg hbl, if_pos (show (536870912 : Int) < (b, ch).1 by show (536870912 : Int) < b; omega)]
              exact ih f (i + 1) 536870912 i (by omega) (by omega)
          · rw [if_neg hL, if_neg hL]
            rw [pz_pat hi8 hcS8 hsl8, if_pos b512, Int.toNat_natCast, hpr, pz_wr_id (by omega) (by omega)]
            by_cases hbl : b ≤ pz_co 536870912 n (s 13) (pz_opc s mh) (s 6 4) (pz_prc s m tk) r (S ||| 2 ^ i) (i + 1) + pz_prc s m tk i (s 6 4 - (r : Int)) (pz_cnt S) q
            · rw [if_pos hbl, if_neg (show ¬ (pz_co 536870912 n (s 13) (pz_opc s mh) (s 6 4) (pz_prc s m tk) r (S ||| 2 ^ i) (i + 1) + pz_prc s m tk i (s 6 4 - (r : Int)) (pz_cnt S) q < (b, ch).1) by show ¬ (_ < b); omega)]
              exact ih f (i + 1) b ch (by omega) (by omega)
            · rw [if_neg hbl, if_pos (show pz_co 536870912 n (s 13) (pz_opc s mh) (s 6 4) (pz_prc s m tk) r (S ||| 2 ^ i) (i + 1) + pz_prc s m tk i (s 6 4 - (r : Int)) (pz_cnt S) q < (b, ch).1 by show _ < b; omega)]
              exact ih f (i + 1) _ i (by omega) (by omega)
  have hcost : u 146 (8 * S + sl) = pz_co 536870912 n (s 13) (pz_opc s mh) (s 6 4) (pz_prc s m tk) r S q := by
    have := hC S sl ⟨hd1, hd2, hd3⟩ (Or.inl hsl)
    rw [if_neg (by omega), hqq] at this
    exact this
  have hidx : 0 ≤ (((8 * S + sl : Nat)) : Int) ∧ (((8 * S + sl : Nat)) : Int) < 2048 := by omega
  have hmin := pz_co_min (L := 536870912) (n := n) (af := s 13) (op := pz_opc s mh) (th := s 6 4) (pr := pz_prc s m tk) (r := r) (S := S) (q := q) (hbd r (by omega) S q).2
  have hS256 : 0 ≤ (S : Int) ∧ (S : Int) < 256 := by omega
  unfold f_Least_settle
  rw [if_pos hS256, pz_bitc _ (by omega), pz_colR hn h, Int.toNat_natCast, hR2]
  have l1 := hloop (fun s x1 x2 x5 x6 => if 0 ≤ (px_wr ((px_wr (x1 * 8)) + x2)) ∧ (px_wr ((px_wr (x1 * 8)) + x2)) < 2048 then if (x5) ≤ (s 146 (px_wr ((px_wr (x1 * 8)) + x2)).toNat) then (if 0 ≤ (px_wr ((px_wr (x1 * 8)) + x2)) ∧ (px_wr ((px_wr (x1 * 8)) + x2)) < 2048 then some ((x6, px_up s 146 (px_wr ((px_wr (x1 * 8)) + x2)).toNat x5)) else none) else some (8, s) else none) n px_big 0 536870912 8 (by omega) (pz_big_lt (by omega))
  rw [show ((0 : Nat) : Int) = 0 from rfl, show ((8 : Nat) : Int) = 8 from rfl, ← pz_bc_s] at l1
  rw [l1]
  rw [pz_w8m (show S < 256 by omega) hsl8]
  simp only [if_pos hidx, Int.toNat_natCast]
  rw [hcost]
  have hset : ∀ (x : Int), x = pz_co 536870912 n (s 13) (pz_opc s mh) (s 6 4) (pz_prc s m tk) (r + 1) S q → pz_CI bl n (pz_hs (s 9) n) ((s 7 5 + 1).toNat) (pz_co 536870912 n (s 13) (pz_opc s mh) (s 6 4) (pz_prc s m tk)) r S (sl + 1) (px_up u 146 (8 * S + sl) x) := by
    intro x hx S' sl' h1 h2
    have hs8 : sl' < 8 := by
      rcases h2 with h2 | h2
      · exact h2.1
      · exact h2.2
    rw [pz_up_same]
    by_cases he : 8 * S' + sl' = 8 * S + sl
    · have e2 : S' = S ∧ sl' = sl := by omega
      rw [if_pos he, hx, e2.1, e2.2, if_pos (by omega), hqq]
    · rw [if_neg he, hC S' sl' h1 h2]
      congr 1
      by_cases hc1 : S' < S ∨ (S' = S ∧ sl' < sl)
      · rw [if_pos hc1, if_pos (by omega)]
      · rw [if_neg hc1, if_neg (by omega)]
  by_cases hle : (pz_bc 536870912 n (s 13) (pz_opc s mh) (s 6 4) (pz_prc s m tk) r S q).1 ≤ pz_co 536870912 n (s 13) (pz_opc s mh) (s 6 4) (pz_prc s m tk) r S q
  · rw [if_pos hle]
    rw [if_neg (by omega)] at hmin
    refine ⟨_, ?_, pz_ag_up pz_ag_rf (by decide), hset _ hmin.symm⟩
    unfold pz_ch
    rw [if_neg (by omega)]
  · rw [if_neg hle]
    rw [if_pos (by omega)] at hmin
    refine ⟨u, ?_, pz_ag_rf, ?_⟩
    · unfold pz_ch
      rw [if_pos (by omega)]
      rfl
    · have := hset (pz_co 536870912 n (s 13) (pz_opc s mh) (s 6 4) (pz_prc s m tk) r S q) hmin.symm
      have e3 : px_up u 146 (8 * S + sl) (pz_co 536870912 n (s 13) (pz_opc s mh) (s 6 4) (pz_prc s m tk) r S q) = u := by
        funext a b
        rw [pz_up_get]
        by_cases hab : a = 146 ∧ b = 8 * S + sl
        · rw [if_pos hab, hab.1, hab.2, hcost]
        · rw [if_neg hab]
      rw [e3] at this
      exact this
