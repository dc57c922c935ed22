/-! LEAST of the class: choices by four bits, prices -/
theorem pz_nib_bv (x : Int) {sl : Nat} (h : sl < 8) : pz_nib x sl = (((Int32.ofInt x).toBitVec.sshiftRight (4 * sl)) &&& 15#32).toInt := by
  unfold pz_nib px_and px_shr
  rw [Int32.ofInt_toInt]
  rcases (show sl = 0 ∨ sl = 1 ∨ sl = 2 ∨ sl = 3 ∨ sl = 4 ∨ sl = 5 ∨ sl = 6 ∨ sl = 7 by omega) with rfl | rfl | rfl | rfl | rfl | rfl | rfl | rfl <;> rfl
def pz_row (x v : Int) (sl : Nat) : Int := px_or (px_and x (px_xor (px_shl 15 (4 * (sl : Int))) (-1))) (px_shl v (4 * (sl : Int)))
theorem pz_row_bv (x : Int) {v sl : Nat} (h : sl < 8) : (Int32.ofInt (pz_row x (v : Int) sl)).toBitVec = ((Int32.ofInt x).toBitVec &&& ~~~(15#32 <<< (4 * sl))) ||| ((BitVec.ofNat 32 v) <<< (4 * sl)) := by
  unfold pz_row px_or px_and px_xor px_shl
  rw [Int32.ofInt_toInt, Int32.ofInt_toInt, Int32.ofInt_toInt, Int32.ofInt_toInt, Int32.ofInt_toInt]
  have hv : (Int32.ofInt (v : Int)).toBitVec = BitVec.ofNat 32 v := by
    show BitVec.ofInt 32 (v : Int) = _
    exact BitVec.ofInt_natCast 32 v
  have hx : ∀ y : BitVec 32, y ^^^ (Int32.ofInt (-1)).toBitVec = ~~~y := by
    intro y
    rw [show (Int32.ofInt (-1)).toBitVec = BitVec.allOnes 32 from by decide, BitVec.xor_allOnes]
  rcases (show sl = 0 ∨ sl = 1 ∨ sl = 2 ∨ sl = 3 ∨ sl = 4 ∨ sl = 5 ∨ sl = 6 ∨ sl = 7 by omega) with rfl | rfl | rfl | rfl | rfl | rfl | rfl | rfl
  all_goals
    show ((Int32.ofInt x).toBitVec &&& ((15#32 <<< _) ^^^ (Int32.ofInt (-1)).toBitVec)) ||| ((Int32.ofInt (v : Int)).toBitVec <<< _) = _
    rw [hx, hv]
    rfl
theorem pz_15 {i : Nat} : (15#32).getLsbD i = decide (i < 4) := by
  show Nat.testBit (15 % 2 ^ 32) i = decide (i < 4)
  rw [show 15 % 2 ^ 32 = 2 ^ 4 - 1 by decide, Nat.testBit_two_pow_sub_one]
theorem pz_nib_same (x : Int) {v sl : Nat} (h : sl < 8) (hv : v < 16) : pz_nib (pz_row x (v : Int) sl) sl = (v : Int) := by
  rw [pz_nib_bv _ h, pz_row_bv x h]
  have e : ((((Int32.ofInt x).toBitVec &&& ~~~(15#32 <<< (4 * sl))) ||| ((BitVec.ofNat 32 v) <<< (4 * sl))).sshiftRight (4 * sl)) &&& 15#32 = BitVec.ofNat 32 v := by
    apply BitVec.eq_of_getLsbD_eq
    intro i hi
    rw [BitVec.getLsbD_and, pz_15, BitVec.getLsbD_sshiftRight]
    by_cases h4 : i < 4
    · have h1 : 4 * sl + i < 32 := by omega
      have h2 : ¬ (32 ≤ i) := by omega
      rw [decide_eq_true h4, Bool.and_true]
      simp only [h1, if_true, h2, decide_false, Bool.not_false, Bool.true_and]
      rw [BitVec.getLsbD_or, BitVec.getLsbD_and, BitVec.getLsbD_not, BitVec.getLsbD_shiftLeft, BitVec.getLsbD_shiftLeft, pz_15]
      have h3 : ¬ (4 * sl + i < 4 * sl) := by omega
      have h5 : 4 * sl + i - 4 * sl = i := by omega
      simp [h1, h3, h5, h4]
    · rw [decide_eq_false h4, Bool.and_false]
      have : (BitVec.ofNat 32 v).getLsbD i = false := by
        rw [BitVec.getLsbD_ofNat]
        have : v.testBit i = false := Nat.testBit_lt_two_pow (Nat.lt_of_lt_of_le (show v < 2 ^ 4 by omega) (Nat.pow_le_pow_right (by decide) (by omega)))
        simp [this]
      rw [this]
  rw [e, BitVec.toInt_eq_toNat_cond, BitVec.toNat_ofNat, Nat.mod_eq_of_lt (by omega), if_pos (by omega)]
theorem pz_nib_other (x : Int) {v sl so : Nat} (h : sl < 8) (ho : so < 8) (hne : so ≠ sl) (hv : v < 16) : pz_nib (pz_row x (v : Int) sl) so = pz_nib x so := by
  rw [pz_nib_bv _ ho, pz_nib_bv _ ho, pz_row_bv x h]
  congr 1
  apply BitVec.eq_of_getLsbD_eq
  intro i hi
  rw [BitVec.getLsbD_and, BitVec.getLsbD_and, pz_15, BitVec.getLsbD_sshiftRight, BitVec.getLsbD_sshiftRight]
  by_cases h4 : i < 4
  · have h1 : 4 * so + i < 32 := by omega
    simp only [h1, if_true]
    congr 2
    rw [BitVec.getLsbD_or, BitVec.getLsbD_and, BitVec.getLsbD_not, BitVec.getLsbD_shiftLeft, BitVec.getLsbD_shiftLeft, pz_15]
    by_cases hlt : 4 * so + i < 4 * sl
    · simp [h1, hlt]
    · have h5 : ¬ (4 * so + i - 4 * sl < 4) := by omega
      have h6 : (BitVec.ofNat 32 v).getLsbD (4 * so + i - 4 * sl) = false := by
        rw [BitVec.getLsbD_ofNat]
        have : v.testBit (4 * so + i - 4 * sl) = false := Nat.testBit_lt_two_pow (Nat.lt_of_lt_of_le (show v < 2 ^ 4 by omega) (Nat.pow_le_pow_right (by decide) (by omega)))
        simp [this]
      simp [h1, hlt, h5, h6]
  · rw [decide_eq_false h4, Bool.and_false, Bool.and_false]
theorem pz_nib8 {sl : Nat} (h : sl < 8) : pz_nib (-2004318072) sl = 8 := by
  rcases (show sl = 0 ∨ sl = 1 ∨ sl = 2 ∨ sl = 3 ∨ sl = 4 ∨ sl = 5 ∨ sl = 6 ∨ sl = 7 by omega) with rfl | rfl | rfl | rfl | rfl | rfl | rfl | rfl <;> decide
/-- what stands fast while the class thinks: the world s, home, all, the THING thought taken, the hardest as it was known -/
def pz_R0 (n : Nat) (tk : Int) (s u : px_Z) : Prop := pz_ag [20, 46, 145, 146, 147, 148, 149] s u ∧ u 145 5 = ((pz_hs (s 9) n : Nat) : Int) ∧ u 145 6 = ((2 ^ n - 1 : Nat) : Int) ∧ u 145 10 = tk ∧ (∀ i, 13 ≤ i → u 145 i = s 145 i)
/-- and what it asks for, and who can come next -/
def pz_RB (n : Nat) (bh bl : Bool) (tk : Int) (s u : px_Z) : Prop := pz_R0 n tk s u ∧ u 145 8 = (if bh then 1 else 0) ∧ u 145 9 = (if bl then 1 else 0) ∧ (∀ S, pz_hs (s 9) n ≤ S → S < 2 ^ n → ∃ R : Nat, R < 256 ∧ u 149 S = (R : Int) ∧ ∀ i, i < n → R.testBit i = pz_can n (s 13) i S)
theorem pz_R0_ag {n : Nat} {tk : Int} {s u v : px_Z} (h : pz_R0 n tk s u) (hv : pz_ag [20, 46, 146, 147, 148, 149] u v) : pz_R0 n tk s v := ⟨pz_ag_tr h.1 (pz_ag_mono hv (by decide)), (hv 145 5 (by decide)).trans h.2.1, (hv 145 6 (by decide)).trans h.2.2.1, (hv 145 10 (by decide)).trans h.2.2.2.1, fun i hi => (hv 145 i (by decide)).trans (h.2.2.2.2 i hi)⟩
theorem pz_RB_ag {n : Nat} {bh bl : Bool} {tk : Int} {s u v : px_Z} (h : pz_RB n bh bl tk s u) (hv : pz_ag [20, 46, 146, 147, 148] u v) : pz_RB n bh bl tk s v := ⟨pz_R0_ag h.1 (pz_ag_mono hv (by decide)), (hv 145 8 (by decide)).trans h.2.1, (hv 145 9 (by decide)).trans h.2.2.1, fun S h1 h2 => by
  obtain ⟨R, r1, r2, r3⟩ := h.2.2.2 S h1 h2
  exact ⟨R, r1, (hv 149 S (by decide)).trans r2, r3⟩⟩
/-- a column of the prices -/
def pz_col (bh : Bool) (hs c : Nat) : Nat := if bh then c else min c (pz_cnt hs + 1)
theorem pz_col_le (bh : Bool) (hs c : Nat) : pz_col bh hs c ≤ c := by
  unfold pz_col
  cases bh
  · show min c _ ≤ c
    omega
  · exact Nat.le_refl _
theorem pz_col_mono (bh : Bool) (hs : Nat) {c d : Nat} (h : c ≤ d) : pz_col bh hs c ≤ pz_col bh hs d := by
  unfold pz_col
  cases bh
  · show min c _ ≤ min d _
    omega
  · exact h
theorem pz_col_lo (bh : Bool) {hs c : Nat} (h : pz_cnt hs ≤ c) : pz_cnt hs ≤ pz_col bh hs c ∧ (pz_col bh hs c = pz_cnt hs ↔ c = pz_cnt hs) := by
  unfold pz_col
  cases bh
  · show pz_cnt hs ≤ min c _ ∧ (min c _ = _ ↔ _)
    omega
  · exact ⟨h, Iff.rfl⟩
theorem pz_colR {n : Nat} {bh bl : Bool} {tk : Int} {s u : px_Z} (hn : n ≤ 8) (h : pz_RB n bh bl tk s u) (c : Nat) : f_Least_columnOf u (c : Int) = ((pz_col bh (pz_hs (s 9) n) c : Nat) : Int) := by
  have hlt : pz_hs (s 9) n < 2 ^ n := pz_hs_lt hn
  have hpw := pz_pow_le hn
  have h9 := pz_cnt9 (pz_hs (s 9) n)
  unfold f_Least_columnOf f_Math_min pz_col
  rw [h.2.1, h.1.2.1, pz_bitc _ (by omega), pz_wr_suc (by omega)]
  cases bh
  · rw [if_pos (show (if false = true then (1 : Int) else 0) = 0 by decide), if_neg (show ¬ (false = true) by decide)]
    by_cases q : ((pz_cnt (pz_hs (s 9) n) + 1 : Nat) : Int) < (c : Int)
    · rw [if_pos q, show min c (pz_cnt (pz_hs (s 9) n) + 1) = pz_cnt (pz_hs (s 9) n) + 1 by omega]
    · rw [if_neg q, show min c (pz_cnt (pz_hs (s 9) n) + 1) = c by omega]
  · rw [if_neg (show ¬ ((if true = true then (1 : Int) else 0) = 0) by decide), if_pos rfl]
def pz_va (n : Nat) (bh bl : Bool) (hs t c sl : Nat) : Prop := t < n ∧ pz_cnt hs ≤ c ∧ c ≤ pz_col bh hs (n - 1) ∧ (c = pz_cnt hs ∨ bl = false → sl = 0) ∧ (c ≠ pz_cnt hs → bl = true → sl < n)
def pz_PR (n m : Nat) (bh bl : Bool) (tk wk : Int) (s : px_Z) (T C Q : Nat) (u : px_Z) : Prop := ∀ t c sl, pz_va n bh bl (pz_hs (s 9) n) t c sl → (t < T ∨ (t = T ∧ (c < C ∨ (c = C ∧ sl < Q)))) → u 148 (64 * t + 8 * c + sl) = pz_prc s m tk t wk c (if c = pz_cnt (pz_hs (s 9) n) then (s 7 5 + 1).toNat else sl + 1)
theorem pz_pat {s : px_Z} {t c sl : Nat} (ht : t < 8) (hc : c < 8) (hs : sl < 8) : f_Least_priceAt s (t : Int) (c : Int) (sl : Int) = ((64 * t + 8 * c + sl : Nat) : Int) := by
  unfold f_Least_priceAt
  rw [pz_wr_id (x := (t : Int) * 8) (by omega) (by omega), pz_wr_id (x := (t : Int) * 8 + (c : Int)) (by omega) (by omega), pz_wr_id (x := ((t : Int) * 8 + (c : Int)) * 8) (by omega) (by omega), pz_wr_id (by omega) (by omega)]
  omega
theorem pz_btrue {p : Prop} {b : Bool} (h : ¬ (p ∨ b = false)) : ¬ p ∧ b = true := ⟨fun q => h (Or.inl q), by cases b with | true => rfl | false => exact absurd (Or.inr rfl) h⟩
theorem pz_askR {n m : Nat} {bh bl : Bool} {tk wk : Int} {s z u : px_Z} (hW : pz_W n (pz_wo s) z) (hm : s 14 0 = (m : Int)) (h : pz_RB n bh bl tk s u) (h6 : u 145 7 = wk) : ∃ u', f_Least_askPrices u = some u' ∧ pz_ag [20, 46, 148] u u' ∧ pz_PR n m bh bl tk wk s n 0 0 u' := by
  have hn := hW.1
  have hpw := pz_pow_le hn
  have hlt : pz_hs (s 9) n < 2 ^ n := pz_hs_lt hn
  have hcnt := pz_cnt_le hn hlt
  have b1 : s 6 1 = (n : Int) := hW.2.1.1
  obtain ⟨m2, w4a, w4b⟩ := hW.2.2.2.2.1.1
  have hmm : m2 = m := by
    have : s 14 0 = (m2 : Int) := w4a
    omega
  subst hmm
  have f := hW.2.2.1.1
  have g := hW.2.2.1.2.1
  have e5 : s 7 5 = z 151 6 - 1 := f.2.2.2.2.2.1
  have r5 : -1 ≤ s 7 5 ∧ s 7 5 < 8 := by omega
  -- one price
  have hone : ∀ (v : px_Z), pz_ag [20, 46, 148] u v → ∀ (t c q : Nat) (la x3 : Int), t < 8 → la = pz_lw (s 12) ((q : Int) - 1) → (if x3 = 0 then (0 : Int) else 1) = (if (t : Int) = tk ∨ s 9 t = 2 then 1 else 0) → ∃ v', f_World_priceThen v (t : Int) wk (c : Int) la x3 = some (pz_prc s m2 tk t wk c q, v') ∧ pz_ag [20, 46] v v' := by
    intro v hv t c q la x3 ht hla hx3
    have hc : ∀ c, c ∉ [20, 46, 145, 146, 147, 148, 149] → v c = s c := fun c hc => funext (fun i => (hv c i (fun q => hc (by simp only [List.mem_cons, List.not_mem_nil, or_false] at q ⊢; omega))).trans (h.1.1 c i hc))
    have c15 := hc 15 (by decide)
    have c16 := hc 16 (by decide)
    have c17 := hc 17 (by decide)
    have c18 := hc 18 (by decide)
    have c19 := hc 19 (by decide)
    have c12 := hc 12 (by decide)
    have c8 := hc 8 (by decide)
    have c7 := hc 7 (by decide)
    have c14 := hc 14 (by decide)
    obtain ⟨v', e, hv'⟩ := pz_priceThenR (s := v) (m := m2) (t := t) w4b.1.1 (by rw [c14]; exact w4a) (by rw [c15, c16, c17, c18, c19]; exact fun l hl => (w4b.1.2.2 l hl).1) ht wk (c : Int) la x3
    refine ⟨v', ?_, hv'⟩
    rw [e, c15, c16, c17, c18, c19, c12, c8, c7, hx3, hla]
    rfl
  have hn1 : ∀ v, pz_ag [20, 46, 148] u v → v 6 1 = (n : Int) := fun v hv => (hv 6 1 (by decide)).trans ((h.1.1 6 1 (by decide)).trans b1)
  have hwk : ∀ v, pz_ag [20, 46, 148] u v → v 145 7 = wk := fun v hv => (hv 145 7 (by decide)).trans h6
  have hbl : ∀ v, pz_ag [20, 46, 148] u v → v 145 9 = (if bl then 1 else 0) := fun v hv => (hv 145 9 (by decide)).trans h.2.2.1
  have hcol : 1 ≤ n → ∀ v, pz_ag [20, 46, 148] u v → f_Least_columnOf v (px_wr (v 6 1 - 1)) = ((pz_col bh (pz_hs (s 9) n) (n - 1) : Nat) : Int) := by
    intro h1 v hv
    rw [hn1 v hv, pz_wr_id (x := (n : Int) - 1) (by omega) (by omega), show (n : Int) - 1 = ((n - 1 : Nat) : Int) by omega]
    exact pz_colR hn (pz_RB_ag h (pz_ag_mono hv (by decide))) (n - 1)
  have hv12 : ∀ v, pz_ag [20, 46, 148] u v → ∀ i, v 12 i = s 12 i := fun v hv i => (hv 12 i (by decide)).trans (h.1.1 12 i (by decide))
  have hlw : ∀ v, pz_ag [20, 46, 148] u v → f_World_lastWorth v = some (pz_lw (s 12) (s 7 5)) := by
    intro v hv
    have e75 : v 7 5 = s 7 5 := (hv 7 5 (by decide)).trans (h.1.1 7 5 (by decide))
    have := pz_lastR (s := v) (by rw [e75]; exact r5)
    rw [e75, funext (hv12 v hv)] at this
    exact this
  have hq0 : (((s 7 5 + 1).toNat : Nat) : Int) - 1 = s 7 5 := by omega
  -- slots
  have h45 : ∀ (K : px_Z → Int → Int → Int → Int → Option (px_Z)) (t c N : Nat) (x3 : Int), t < n → pz_cnt (pz_hs (s 9) n) ≤ c → c < n → N ≤ 8 → (c = pz_cnt (pz_hs (s 9) n) ∨ bl = false → N = 1) → (c ≠ pz_cnt (pz_hs (s 9) n) → bl = true → N = n) → (if x3 = 0 then (0 : Int) else 1) = (if (t : Int) = tk ∨ s 9 t = 2 then 1 else 0) → ∀ (r fu sl : Nat) (v : px_Z), sl + r = N → r < fu → pz_ag [20, 46, 148] u v → pz_PR n m2 bh bl tk wk s t c sl v → ∃ v', l_Least_askPrices_52 K fu v ((pz_cnt (pz_hs (s 9) n) : Nat) : Int) (t : Int) x3 (c : Int) (N : Int) (sl : Int) = K v' ((pz_cnt (pz_hs (s 9) n) : Nat) : Int) (t : Int) x3 (c : Int) ∧ pz_ag [20, 46, 148] u v' ∧ pz_PR n m2 bh bl tk wk s t (c + 1) 0 v' := by
    intro K t c N x3 ht hc1 hc2 hN hN1 hN2 hx3 r
    induction r with
    | zero =>
      intro fu sl v hsl hf hv hp
      obtain ⟨f, rfl⟩ : ∃ f, fu = f + 1 := ⟨fu - 1, by omega⟩
      rw [l_Least_askPrices_52, if_pos (by omega)]
      refine ⟨v, rfl, hv, fun t' c' sl' hva hlt' => hp t' c' sl' hva ?_⟩
      rcases hlt' with q | ⟨q, q2 | ⟨q2, q3⟩⟩
      · exact Or.inl q
      · refine Or.inr ⟨q, ?_⟩
        by_cases hcc : c' = c
        · refine Or.inr ⟨hcc, ?_⟩
          by_cases hca : c' = pz_cnt (pz_hs (s 9) n) ∨ bl = false
          · have a1 := hva.2.2.2.1 hca
            have a2 := hN1 (hcc ▸ hca)
            omega
          · have hcb := pz_btrue hca
            have a1 := hva.2.2.2.2 hcb.1 hcb.2
            have a2 := hN2 (hcc ▸ hcb.1) hcb.2
            omega
        · exact Or.inl (by omega)
      · omega
    | succ r ih =>
      intro fu sl v hsl hf hv hp
      obtain ⟨f, rfl⟩ : ∃ f, fu = f + 1 := ⟨fu - 1, by omega⟩
      have hT8 : t < 8 := by omega
      have hC8 : c < 8 := by omega
      have hL8 : sl < 8 := by omega
      have b512 : 0 ≤ ((64 * t + 8 * c + sl : Nat) : Int) ∧ ((64 * t + 8 * c + sl : Nat) : Int) < 512 := by omega
      rw [l_Least_askPrices_52, if_neg (by omega), hwk v hv]
      have hgo : ∀ (v' : px_Z) (q : Nat), pz_ag [20, 46] v v' → q = (if c = pz_cnt (pz_hs (s 9) n) then (s 7 5 + 1).toNat else sl + 1) → ∃ v2, l_Least_askPrices_52 K f (px_up v' 148 (64 * t + 8 * c + sl) (pz_prc s m2 tk t wk c q)) ((pz_cnt (pz_hs (s 9) n) : Nat) : Int) (t : Int) x3 (c : Int) (N : Int) ((sl + 1 : Nat) : Int) = K v2 ((pz_cnt (pz_hs (s 9) n) : Nat) : Int) (t : Int) x3 (c : Int) ∧ pz_ag [20, 46, 148] u v2 ∧ pz_PR n m2 bh bl tk wk s t (c + 1) 0 v2 := by
        intro v' q hv' hq
        refine ih f (sl + 1) _ (by omega) (by omega) (pz_ag_up (pz_ag_tr hv (pz_ag_mono hv' (by decide))) (by decide)) (fun t' c' sl' hva hlt' => ?_)
        rw [pz_up_same]
        have hsl8 : sl' < 8 := by
          by_cases hca : c' = pz_cnt (pz_hs (s 9) n) ∨ bl = false
          · rw [hva.2.2.2.1 hca]; decide
          · have hcb := pz_btrue hca
            have := hva.2.2.2.2 hcb.1 hcb.2; omega
        have hc8 : c' < 8 := by
          have := hva.2.2.1
          have := pz_col_le bh (pz_hs (s 9) n) (n - 1)
          have := hva.1
          omega
        by_cases he : 64 * t' + 8 * c' + sl' = 64 * t + 8 * c + sl
        · have e1 : t' = t ∧ c' = c ∧ sl' = sl := by omega
          rw [if_pos he, hq, e1.1, e1.2.1, e1.2.2]
        · rw [if_neg he, hv' 148 _ (by decide)]
          refine hp t' c' sl' hva ?_
          rcases hlt' with q1 | ⟨q1, q2 | ⟨q2, q3⟩⟩
          · exact Or.inl q1
          · exact Or.inr ⟨q1, Or.inl q2⟩
          · refine Or.inr ⟨q1, Or.inr ⟨q2, ?_⟩⟩
            by_cases hss : sl' = sl
            · exfalso; exact he (by rw [q1, q2, hss])
            · omega
      by_cases hca : c = pz_cnt (pz_hs (s 9) n)
      · rw [if_pos (by omega), hlw v hv, Option.bind_some]
        obtain ⟨v', p1, p2⟩ := hone v hv t c (s 7 5 + 1).toNat (pz_lw (s 12) (s 7 5)) x3 (by omega) (by rw [hq0]) hx3
        rw [p1, Option.bind_some, pz_pat hT8 hC8 hL8, if_pos b512, Int.toNat_natCast, pz_wr_suc (by omega)]
        exact hgo v' _ p2 (by rw [if_pos hca])
      · rw [if_neg (by omega), if_pos (by omega), Int.toNat_natCast, hv12 v hv]
        obtain ⟨v', p1, p2⟩ := hone v hv t c (sl + 1) (s 12 sl) x3 (by omega) (by
          unfold pz_lw
          rw [if_neg (by omega), show (((sl + 1 : Nat) : Int) - 1).toNat = sl by omega]) hx3
        rw [p1, Option.bind_some, pz_pat hT8 hC8 hL8, if_pos b512, Int.toNat_natCast, pz_wr_suc (by omega)]
        exact hgo v' _ p2 (by rw [if_neg hca])
  have h29 : ∀ (K : px_Z → Int → Int → Option (px_Z)) (t : Nat) (x3 : Int), t < n → (if x3 = 0 then (0 : Int) else 1) = (if (t : Int) = tk ∨ s 9 t = 2 then 1 else 0) → ∀ (r fu c : Nat) (v : px_Z), c + r = max (pz_col bh (pz_hs (s 9) n) (n - 1) + 1) (pz_cnt (pz_hs (s 9) n)) → pz_cnt (pz_hs (s 9) n) ≤ c → r < fu → pz_ag [20, 46, 148] u v → pz_PR n m2 bh bl tk wk s t c 0 v → ∃ v', l_Least_askPrices_29 K fu v ((pz_cnt (pz_hs (s 9) n) : Nat) : Int) (t : Int) x3 (c : Int) = K v' ((pz_cnt (pz_hs (s 9) n) : Nat) : Int) (t : Int) ∧ pz_ag [20, 46, 148] u v' ∧ pz_PR n m2 bh bl tk wk s (t + 1) 0 0 v' := by
    intro K t x3 ht hx3 r
    induction r with
    | zero =>
      intro fu c v hc hc1 hf hv hp
      obtain ⟨f, rfl⟩ : ∃ f, fu = f + 1 := ⟨fu - 1, by omega⟩
      rw [l_Least_askPrices_29, hcol (by omega) v hv, if_pos (by omega)]
      refine ⟨v, rfl, hv, fun t' c' sl' hva hlt' => hp t' c' sl' hva ?_⟩
      have := hva.2.2.1
      rcases hlt' with q | ⟨q, q2⟩
      · by_cases htt : t' = t
        · exact Or.inr ⟨htt, Or.inl (by omega)⟩
        · exact Or.inl (by omega)
      · omega
    | succ r ih =>
      intro fu c v hc hc1 hf hv hp
      obtain ⟨f, rfl⟩ : ∃ f, fu = f + 1 := ⟨fu - 1, by omega⟩
      have hcn : c < n := by
        have := pz_col_le bh (pz_hs (s 9) n) (n - 1)
        omega
      rw [l_Least_askPrices_29, hcol (by omega) v hv, if_neg (by omega)]
      by_cases hca : c = pz_cnt (pz_hs (s 9) n)
      · rw [if_pos (by omega)]
        obtain ⟨v', q1, q2, q3⟩ := h45 (fun s x1 x2 x3 x4 => l_Least_askPrices_29 K f s x1 x2 x3 (px_wr (x4 + 1))) t c 1 x3 ht hc1 (by omega) (by omega) (fun _ => rfl) (fun q _ => absurd hca q) hx3 1 px_big 0 v (by omega) (pz_big_lt (by omega)) hv hp
        rw [show ((0 : Nat) : Int) = 0 from rfl, show ((1 : Nat) : Int) = 1 from rfl] at q1
        rw [q1, pz_wr_suc (by omega)]
        exact ih f (c + 1) v' (by omega) (by omega) (by omega) q2 q3
      · rw [if_neg (by omega), hbl v hv]
        by_cases hb : bl = true
        · rw [if_neg (show ¬ ((if bl = true then (1 : Int) else 0) = 0) by rw [if_pos hb]; decide), hn1 v hv]
          obtain ⟨v', q1, q2, q3⟩ := h45 (fun s x1 x2 x3 x4 => l_Least_askPrices_29 K f s x1 x2 x3 (px_wr (x4 + 1))) t c n x3 ht hc1 (by omega) (by omega) (fun q => absurd q (fun q' => q'.elim hca (fun q2 => by rw [hb] at q2; cases q2))) (fun _ _ => rfl) hx3 n px_big 0 v (by omega) (pz_big_lt (by omega)) hv hp
          rw [show ((0 : Nat) : Int) = 0 from rfl] at q1
          rw [q1, pz_wr_suc (by omega)]
          exact ih f (c + 1) v' (by omega) (by omega) (by omega) q2 q3
        · rw [if_pos (show (if bl = true then (1 : Int) else 0) = 0 by rw [if_neg hb])]
          obtain ⟨v', q1, q2, q3⟩ := h45 (fun s x1 x2 x3 x4 => l_Least_askPrices_29 K f s x1 x2 x3 (px_wr (x4 + 1))) t c 1 x3 ht hc1 (by omega) (by omega) (fun _ => rfl) (fun _ q => absurd q hb) hx3 1 px_big 0 v (by omega) (pz_big_lt (by omega)) hv hp
          rw [show ((0 : Nat) : Int) = 0 from rfl, show ((1 : Nat) : Int) = 1 from rfl] at q1
          rw [q1, pz_wr_suc (by omega)]
          exact ih f (c + 1) v' (by omega) (by omega) (by omega) q2 q3
  have h6l : ∀ (r fu t : Nat) (v : px_Z), t + r = n → r < fu → pz_ag [20, 46, 148] u v → pz_PR n m2 bh bl tk wk s t 0 0 v → ∃ v', l_Least_askPrices_6 fu v ((pz_cnt (pz_hs (s 9) n) : Nat) : Int) (t : Int) = some v' ∧ pz_ag [20, 46, 148] u v' ∧ pz_PR n m2 bh bl tk wk s n 0 0 v' := by
    intro r
    induction r with
    | zero =>
      intro fu t v ht hf hv hp
      obtain ⟨f, rfl⟩ : ∃ f, fu = f + 1 := ⟨fu - 1, by omega⟩
      rw [l_Least_askPrices_6, hn1 v hv, if_pos (by omega)]
      have : t = n := by omega
      rw [this] at hp
      exact ⟨v, rfl, hv, hp⟩
    | succ r ih =>
      intro fu t v ht hf hv hp
      obtain ⟨f, rfl⟩ : ∃ f, fu = f + 1 := ⟨fu - 1, by omega⟩
      have hv7 : v 145 10 = tk := (hv 145 10 (by decide)).trans h.1.2.2.2.1
      have hv9 : v 9 t = s 9 t := (hv 9 t (by decide)).trans (h.1.1 9 t (by decide))
      have hgo : ∀ x3 : Int, (if x3 = 0 then (0 : Int) else 1) = (if (t : Int) = tk ∨ s 9 t = 2 then 1 else 0) → ∃ v', l_Least_askPrices_29 (fun s x1 x2 => l_Least_askPrices_6 f s x1 (px_wr (x2 + 1))) px_big v ((pz_cnt (pz_hs (s 9) n) : Nat) : Int) (t : Int) x3 ((pz_cnt (pz_hs (s 9) n) : Nat) : Int) = some v' ∧ pz_ag [20, 46, 148] u v' ∧ pz_PR n m2 bh bl tk wk s n 0 0 v' := by
        intro x3 hx3
        obtain ⟨v', q1, q2, q3⟩ := h29 (fun s x1 x2 => l_Least_askPrices_6 f s x1 (px_wr (x2 + 1))) t x3 (by omega) hx3 (max (pz_col bh (pz_hs (s 9) n) (n - 1) + 1) (pz_cnt (pz_hs (s 9) n)) - pz_cnt (pz_hs (s 9) n)) px_big (pz_cnt (pz_hs (s 9) n)) v (by omega) (Nat.le_refl _) (pz_big_lt (by have := pz_col_le bh (pz_hs (s 9) n) (n - 1); omega)) hv (fun t' c' sl' hva hlt' => hp t' c' sl' hva (by
          have := hva.2.1
          omega))
        rw [q1, pz_wr_suc (by omega)]
        exact ih f (t + 1) v' (by omega) (by omega) q2 q3
      rw [l_Least_askPrices_6, hn1 v hv, if_neg (by omega), hv7]
      by_cases ht1 : (t : Int) = tk
      · rw [if_pos ht1]
        exact hgo 1 (by rw [if_neg (by decide), if_pos (Or.inl ht1)])
      · rw [if_neg ht1, if_pos (by omega), Int.toNat_natCast, hv9]
        by_cases ht2 : s 9 t = 2
        · rw [if_pos ht2]
          exact hgo 1 (by rw [if_neg (by decide), if_pos (Or.inr ht2)])
        · rw [if_neg ht2]
          exact hgo 0 (by rw [if_pos rfl, if_neg (fun q => q.elim ht1 ht2)])
  unfold f_Least_askPrices
  rw [h.1.2.1, pz_bitc _ (by omega)]
  exact h6l n px_big 0 u (by omega) (pz_big_lt (by omega)) pz_ag_rf (fun t c sl hva hlt' => by omega)
