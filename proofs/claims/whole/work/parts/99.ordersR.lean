/-! ORDERS of the class -/
theorem pz_canbit {n : Nat} {af : Nat → Int} {t S : Nat} (h : pz_can n af t S = true) : S.testBit t = false := by
  unfold pz_can at h
  simp only [Bool.and_eq_true, Bool.not_eq_true'] at h
  exact h.1.1
theorem pz_bit0 {S t : Nat} (hS : S < 256) (ht : t < 8) : (px_and (px_shr (S : Int) (t : Int)) 1 = 0) ↔ S.testBit t = false := by
  rw [pz_bit hS ht]
  cases S.testBit t <;> simp
theorem pz_tabR {s : px_Z} {n : Nat} (hn : n ≤ 8) (h1 : s 6 1 = (n : Int)) (ha : ∀ t, t < n → 0 ≤ s 13 t ∧ s 13 t < 256) : ∃ u, f_Orders_count s = some (pz_ot n (pz_can n (s 13)) (pz_hs (s 9) n), u) ∧ pz_ag [144] s u ∧ (∀ S, S < 2 ^ n → u 144 S = pz_ot n (pz_can n (s 13)) S) := by
  have hpw := pz_pow_le hn
  have hrd : ∀ y : px_Z, pz_ag [144] s y → ∀ t S : Nat, t < n → S < 2 ^ n → S.testBit t = false → f_World_isReady y (t : Int) (S : Int) = some (if pz_can n (s 13) t S then 1 else 0) := by
    intro y hy t S ht hS hb
    have c13 : y 13 = s 13 := funext (fun i => hy 13 i (by decide))
    have := pz_readyR (s := y) hn ((hy 6 1 (by decide)).trans h1) ht hS (by rw [c13]; exact ha t ht) hb
    rw [c13] at this
    exact this
  have hin : ∀ (K : px_Z → Int → Int → Option (Int × px_Z)) (S : Nat), S < 2 ^ n → ∀ (r fu i : Nat) (y : px_Z) (a : Int), i + r = n → r < fu → pz_ag [144] s y → (∀ S', S < S' → S' < 2 ^ n → y 144 S' = pz_ot n (pz_can n (s 13)) S') → l_Orders_count_19 K fu y (S : Int) a (i : Int) = K y (S : Int) (pz_fo (fun t a => if pz_can n (s 13) t S then px_wr (a + pz_ot n (pz_can n (s 13)) (S ||| 2 ^ t)) else a) r i a) := by
    intro K S hS r
    induction r with
    | zero =>
      intro fu i y a hi hf hy ht
      obtain ⟨f, rfl⟩ : ∃ f, fu = f + 1 := ⟨fu - 1, by omega⟩
      rw [l_Orders_count_19, hy 6 1 (by decide), h1, if_pos (by omega)]
      rfl
    | succ r ih =>
      intro fu i y a hi hf hy ht
      obtain ⟨f, rfl⟩ : ∃ f, fu = f + 1 := ⟨fu - 1, by omega⟩
      rw [l_Orders_count_19, hy 6 1 (by decide), h1, if_neg (by omega), pz_wr_suc (by omega), pz_fo]
      cases hb : S.testBit i with
      | true =>
        have hc : pz_can n (s 13) i S = false := by
          cases hq : pz_can n (s 13) i S with
          | false => rfl
          | true => rw [pz_canbit hq] at hb; cases hb
        rw [if_neg (fun q => by rw [(pz_bit0 (by omega) (by omega)).mp q] at hb; cases hb), hc]
        exact ih f (i + 1) y a (by omega) (by omega) hy ht
      | false =>
        have hadd := (pz_or_add (show S < 256 by omega) (show i < 8 by omega) hb).1
        have hp : 0 < 2 ^ i := Nat.two_pow_pos i
        have hlt : S ||| 2 ^ i < 2 ^ n := pz_in_all hn hS (by omega)
        rw [if_pos ((pz_bit0 (by omega) (by omega)).mpr hb), hrd y hy i S (by omega) hS hb, Option.bind_some, pz_i1]
        cases hc : pz_can n (s 13) i S with
        | false =>
          simp only [Bool.false_eq_true, if_false]
          exact ih f (i + 1) y a (by omega) (by omega) hy ht
        | true =>
          simp only [if_true]
          rw [pz_add (show S < 256 by omega) (show i < 8 by omega), if_pos (by omega), Int.toNat_natCast, ht (S ||| 2 ^ i) (by omega) hlt]
          exact ih f (i + 1) y _ (by omega) (by omega) hy ht
  have hout : ∀ (K : px_Z → Option (Int × px_Z)) (m fu : Nat) (y : px_Z), m < 2 ^ n → m < fu → pz_ag [144] s y → (∀ S', m ≤ S' → S' < 2 ^ n → y 144 S' = pz_ot n (pz_can n (s 13)) S') → ∃ y', l_Orders_count_13 K fu y ((m : Int) - 1) = K y' ∧ pz_ag [144] s y' ∧ (∀ S, S < 2 ^ n → y' 144 S = pz_ot n (pz_can n (s 13)) S) := by
    intro K m
    induction m with
    | zero =>
      intro fu y hm hf hy ht
      obtain ⟨f, rfl⟩ : ∃ f, fu = f + 1 := ⟨fu - 1, by omega⟩
      rw [l_Orders_count_13, if_pos (by omega)]
      exact ⟨y, rfl, hy, fun S hS => ht S (Nat.zero_le _) hS⟩
    | succ m ih =>
      intro fu y hm hf hy ht
      obtain ⟨f, rfl⟩ : ∃ f, fu = f + 1 := ⟨fu - 1, by omega⟩
      have e1 : ((m + 1 : Nat) : Int) - 1 = (m : Int) := by omega
      have hmN : m < 2 ^ n := by omega
      rw [l_Orders_count_13, e1, if_neg (by omega)]
      have q1 := hin (fun s x2 x3 => if 0 ≤ (x2) ∧ (x2) < 256 then l_Orders_count_13 K f (px_up s 144 x2.toNat x3) (px_wr (x2 + (-1))) else none) m hmN n px_big 0 y 0 (by omega) (pz_big_lt (by omega)) hy (fun S' h3 h4 => ht S' (by omega) h4)
      rw [show ((0 : Nat) : Int) = 0 from rfl] at q1
      rw [q1, if_pos (by omega), Int.toNat_natCast, pz_wr_id (x := (m : Int) + -1) (by omega) (by omega), show (m : Int) + -1 = (m : Int) - 1 by omega, ← pz_ot_rec hn hmN (by omega) (fun t _ hc => pz_canbit hc)]
      refine ih f _ (by omega) (by omega) (pz_ag_up hy (by decide)) (fun S' h3 h4 => ?_)
      rw [pz_up_same]
      by_cases hS' : S' = m
      · rw [if_pos hS', hS']
      · rw [if_neg hS']; exact ht S' (by omega) h4
  have hall := pz_all hn
  have eall : f_World_all s = ((2 ^ n - 1 : Nat) : Int) := by
    unfold f_World_all
    rw [h1]; exact hall.1
  obtain ⟨y, e, k1, k2⟩ := hout (fun s => (f_World_homeSet s ).bind (fun q9 => if 0 ≤ (q9) ∧ (q9) < 256 then some (s 144 q9.toNat, s) else none)) (2 ^ n - 1) px_big (px_up s 144 (2 ^ n - 1) 1) (by omega) (pz_big_lt (by omega)) (pz_ag_up pz_ag_rf (by decide)) (fun S' h3 h4 => by
    rw [show S' = 2 ^ n - 1 by omega, pz_up_s, pz_ot_all])
  have hlt : pz_hs (s 9) n < 2 ^ n := pz_hs_lt hn
  have c9 : y 9 = s 9 := funext (fun i => k1 9 i (by decide))
  refine ⟨y, ?_, k1, k2⟩
  unfold f_Orders_count
  rw [eall, if_pos (by omega), Int.toNat_natCast, pz_wr_id (x := ((2 ^ n - 1 : Nat) : Int) - 1) (by omega) (by omega), e, pz_homeR hn ((k1 6 1 (by decide)).trans h1), Option.bind_some, c9, if_pos (by omega), Int.toNat_natCast, k2 _ hlt]
theorem pz_atR {s : px_Z} {n : Nat} (hn : n ≤ 8) (h1 : s 6 1 = (n : Int)) (ha : ∀ t, t < n → 0 ≤ s 13 t ∧ s 13 t < 256) (ht : ∀ S, S < 2 ^ n → s 144 S = pz_ot n (pz_can n (s 13)) S) {x1 : Int} {M : Nat} (hM : M ≤ 8) (hx : ∀ k : Nat, (x1 < (k : Int) ∨ 8 < (k : Int)) ↔ M < k) : f_Orders_thingAt s x1 = some (pz_at n (pz_can n (s 13)) M (pz_hs (s 9) n)) := by
  have hpw := pz_pow_le hn
  have hlt : pz_hs (s 9) n < 2 ^ n := pz_hs_lt hn
  have hrd : ∀ t S : Nat, t < n → S < 2 ^ n → S.testBit t = false → f_World_isReady s (t : Int) (S : Int) = some (if pz_can n (s 13) t S then 1 else 0) := fun t S h2 h3 h4 => pz_readyR hn h1 h2 h3 (ha t h2) h4
  have hin : ∀ (K : Int → Int → Int → Int → Option Int) (pl st : Int) (S : Nat), S < 2 ^ n → ∀ (r fu i : Nat), i + r = n → r < fu → l_Orders_thingAt_18 s K fu pl (S : Int) (-1) st (i : Int) = K pl (S : Int) (match pz_fi (fun t => pz_can n (s 13) t S && decide (pz_ot n (pz_can n (s 13)) (S ||| 2 ^ t) ≠ 0)) r i with | some t => (t : Int) | none => -1) st := by
    intro K pl st S hS r
    induction r with
    | zero =>
      intro fu i hi hf
      obtain ⟨f, rfl⟩ : ∃ f, fu = f + 1 := ⟨fu - 1, by omega⟩
      rw [l_Orders_thingAt_18, h1, if_pos (by omega)]
      rfl
    | succ r ih =>
      intro fu i hi hf
      obtain ⟨f, rfl⟩ : ∃ f, fu = f + 1 := ⟨fu - 1, by omega⟩
      obtain ⟨f, rfl⟩ : ∃ f', f = f' + 1 := ⟨f - 1, by omega⟩
      rw [l_Orders_thingAt_18, h1, if_neg (by omega), if_pos rfl, pz_wr_suc (by omega), pz_fi]
      cases hb : S.testBit i with
      | true =>
        have hc : pz_can n (s 13) i S = false := by
          cases hq : pz_can n (s 13) i S with
          | false => rfl
          | true => rw [pz_canbit hq] at hb; cases hb
        rw [if_neg (fun q => by rw [(pz_bit0 (by omega) (by omega)).mp q] at hb; cases hb)]
        simp only [hc, Bool.false_and, Bool.false_eq_true, if_false]
        exact ih (f + 1) (i + 1) (by omega) (by omega)
      | false =>
        have hl2 : S ||| 2 ^ i < 2 ^ n := pz_in_all hn hS (by omega)
        have hbd := (pz_ot_bd hn (can := pz_can n (s 13)) (S ||| 2 ^ i)).1
        rw [if_pos ((pz_bit0 (by omega) (by omega)).mpr hb), hrd i S (by omega) hS hb, Option.bind_some, pz_i1]
        cases hc : pz_can n (s 13) i S with
        | false =>
          simp only [Bool.false_eq_true, if_false, Bool.false_and]
          exact ih (f + 1) (i + 1) (by omega) (by omega)
        | true =>
          simp only [if_true, Bool.true_and]
          rw [pz_add (show S < 256 by omega) (show i < 8 by omega), if_pos (by omega), Int.toNat_natCast, ht _ hl2]
          by_cases h0 : pz_ot n (pz_can n (s 13)) (S ||| 2 ^ i) = 0
          · rw [if_pos (by omega)]
            simp only [h0, ne_eq, not_true, decide_false, Bool.false_eq_true, if_false]
            exact ih (f + 1) (i + 1) (by omega) (by omega)
          · rw [if_neg (by omega)]
            simp only [h0, ne_eq, not_false_iff, decide_true, if_true]
            rw [l_Orders_thingAt_18, h1]
            by_cases hl : (n : Int) ≤ ((i + 1 : Nat) : Int)
            · rw [if_pos hl]
            · rw [if_neg hl, if_neg (by omega)]
  have hout : ∀ (r fu i S : Nat) (t0 : Int), i + r = M → r + 1 < fu → S < 2 ^ n → (pz_ot n (pz_can n (s 13)) S ≠ 0 ∨ t0 = -1) → l_Orders_thingAt_8 s fu x1 (S : Int) t0 (i : Int) = some (pz_at n (pz_can n (s 13)) r S) := by
    have hstep : ∀ (i : Nat) (fu : Nat) (S : Nat) (t0 : Int), i ≤ M → S < 2 ^ n → l_Orders_thingAt_8 s (fu + 1) x1 (S : Int) t0 (i : Int) = (match pz_nx n (pz_can n (s 13)) S with | some t => l_Orders_thingAt_8 s fu x1 ((S ||| 2 ^ t : Nat) : Int) (t : Int) ((i + 1 : Nat) : Int) | none => l_Orders_thingAt_8 s fu x1 (S : Int) (-1) ((i + 1 : Nat) : Int)) := by
      intro i fu S t0 hi hS
      have hno := mt (hx i).mp (by omega)
      rw [l_Orders_thingAt_8, if_neg (fun q => hno (Or.inl q)), if_neg (fun q => hno (Or.inr q))]
      have q1 := hin (fun x1 x2 x3 x4 => if (x3) = ((-1)) then l_Orders_thingAt_8 s fu x1 x2 x3 (px_wr (x4 + 1)) else l_Orders_thingAt_8 s fu x1 (px_or (x2) ((px_shl (1) (x3)))) x3 (px_wr (x4 + 1))) x1 (i : Int) S hS n px_big 0 (by omega) (pz_big_lt (by omega))
      rw [show ((0 : Nat) : Int) = 0 from rfl] at q1
      rw [q1, pz_wr_suc (by omega)]
      have hnx : pz_nx n (pz_can n (s 13)) S = pz_fi (fun t => pz_can n (s 13) t S && decide (pz_ot n (pz_can n (s 13)) (S ||| 2 ^ t) ≠ 0)) n 0 := rfl
      rw [← hnx]
      cases hq : pz_nx n (pz_can n (s 13)) S with
      | none => exact if_pos rfl
      | some t =>
        obtain ⟨_, h2, _⟩ := pz_fi_some _ _ _ hq
        show (if (t : Int) = -1 then _ else _) = _
        rw [if_neg (by omega), pz_add (show S < 256 by omega) (show t < 8 by omega)]
    have hend : ∀ (i fu : Nat) (S : Int) (t0 : Int), M < i → l_Orders_thingAt_8 s (fu + 1) x1 S t0 (i : Int) = some t0 := by
      intro i fu S t0 hi
      rw [l_Orders_thingAt_8]
      rcases (hx i).mpr hi with q | q
      · rw [if_pos q]
      · by_cases q2 : x1 < (i : Int)
        · rw [if_pos q2]
        · rw [if_neg q2, if_pos q]
    -- once nobody is next, nobody is
    have hdead : ∀ (r fu i S : Nat), i + r = M + 1 → r < fu → S < 2 ^ n → pz_nx n (pz_can n (s 13)) S = none → l_Orders_thingAt_8 s fu x1 (S : Int) (-1) (i : Int) = some (-1) := by
      intro r
      induction r with
      | zero =>
        intro fu i S hi hf hS hq
        obtain ⟨f, rfl⟩ : ∃ f, fu = f + 1 := ⟨fu - 1, by omega⟩
        exact hend i f _ _ (by omega)
      | succ r ih =>
        intro fu i S hi hf hS hq
        obtain ⟨f, rfl⟩ : ∃ f, fu = f + 1 := ⟨fu - 1, by omega⟩
        rw [hstep i f S (-1) (by omega) hS, hq]
        exact ih f (i + 1) S (by omega) (by omega) hS hq
    intro r
    induction r with
    | zero =>
      intro fu i S t0 hi hf hS _
      obtain ⟨f, rfl⟩ : ∃ f, fu = f + 1 + 1 := ⟨fu - 2, by omega⟩
      rw [hstep i (f + 1) S t0 (by omega) hS, pz_at]
      cases hq : pz_nx n (pz_can n (s 13)) S with
      | none => exact hend _ f _ _ (by omega)
      | some t => exact hend _ f _ _ (by omega)
    | succ r ih =>
      intro fu i S t0 hi hf hS _
      obtain ⟨f, rfl⟩ : ∃ f, fu = f + 1 := ⟨fu - 1, by omega⟩
      rw [hstep i f S t0 (by omega) hS, pz_at]
      cases hq : pz_nx n (pz_can n (s 13)) S with
      | none => exact hdead (r + 1) f (i + 1) S (by omega) (by omega) hS hq
      | some t =>
        obtain ⟨_, h2, h3⟩ := pz_fi_some _ _ _ hq
        simp only [Bool.and_eq_true, decide_eq_true_eq] at h3
        exact ih f (i + 1) (S ||| 2 ^ t) (t : Int) (by omega) (by omega) (pz_in_all hn hS (by omega)) (Or.inl h3.2)
  unfold f_Orders_thingAt
  rw [pz_homeR hn h1, Option.bind_some]
  exact hout M px_big 0 _ (-1) (by omega) (pz_big_lt (by omega)) hlt (Or.inr rfl)
theorem pz_at_far {n : Nat} (hn : n ≤ 8) {can : Nat → Nat → Bool} (hb : ∀ t S : Nat, t < n → S < 2 ^ n → can t S = true → S.testBit t = false) : ∀ (k S : Nat), S < 2 ^ n → pz_ot n can S ≠ 0 → n ≤ k + pz_cnt S → pz_at n can k S = -1 := by
  have hpw := pz_pow_le hn
  intro k
  induction k with
  | zero =>
    intro S hS h0 hk
    have h1 := pz_cnt_le hn hS
    have hA : S = 2 ^ n - 1 := h1.2.mpr (by omega)
    rw [pz_at, hA, pz_nx_all hn (fun t ht hc => hb t _ ht (by omega) hc)]
  | succ k ih =>
    intro S hS h0 hk
    by_cases hA : S = 2 ^ n - 1
    · rw [pz_at, hA, pz_nx_all hn (fun t ht hc => hb t _ ht (by omega) hc)]
    · obtain ⟨t, e, h1, h2, h3⟩ := pz_nx_some hn hS hA (fun t ht hc => hb t S ht hS hc) h0
      have hcn := (pz_or_add (show S < 256 by omega) (show t < 8 by omega) (hb t S h1 hS h2)).2
      rw [pz_at, e]
      exact ih _ (pz_in_all hn hS h1) h3 (by omega)
theorem po_orders {s : px_Z} (h : pz_I s) (v : Int) (hv : -2147483648 ≤ v ∧ v < 2147483648) : pz_op (f_R_orders s v) (fun u => f_M_orders u v) := by
  have h' := h
  obtain ⟨n, hW, hU, hM, hT, hX, hC⟩ := h
  have hn := hW.1
  have b1 : s 6 1 = (n : Int) := hW.2.1.1
  have b2 : s 150 6 = (n : Int) := hW.2.1.2.1
  have w3 := hW.2.2.2.1
  have hpw := pz_pow_le hn
  have hlt : pz_hs (s 9) n < 2 ^ n := pz_hs_lt hn
  have hcnt := pz_cnt_le hn hlt
  have ha : ∀ t, t < n → 0 ≤ s 13 t ∧ s 13 t < 256 := fun t ht => by
    have := w3 t (by omega)
    have e : s 13 t = s 167 t := this.2.1
    rw [e]; exact this.2.2
  obtain ⟨u, e1, k1, k2⟩ := pz_tabR hn b1 ha
  have u13 : u 13 = s 13 := funext (fun i => k1 13 i (by decide))
  have u9 : u 9 = s 9 := funext (fun i => k1 9 i (by decide))
  have hWu : pz_W n (pz_wo s) (px_up u 150 0 0) := pz_W_ek hW pz_ek_rf (pz_ek_up rfl (pz_ek_ag (L := [144]) ⟨fun _ => rfl, trivial⟩ k1 pz_ek_rf))
  have m6 : (px_up u 150 0 0) 150 6 = (n : Int) := hWu.2.1.2.1
  have hhm := pz_W_homeM hWu
  have hcf : ∀ y, pz_ag [177] (px_up u 150 0 0) y → ∀ t S : Nat, t < n → S < 2 ^ n → f_M_canFollow y (t : Int) (S : Int) 0 = some (if pz_can n (s 13) t S then 1 else 0) := by
    intro y hy t S ht hS
    have w3u := hWu.2.2.2.1 t (by omega)
    have c166 : y 167 t = (px_up u 150 0 0) 167 t := hy 167 t (by decide)
    unfold f_M_canFollow
    rw [if_pos rfl, pz_canM hn ((hy 150 6 (by decide)).trans m6) ht hS (by rw [c166]; exact w3u.2.2), Option.bind_some, pz_can_congr (bf := s 13) (by rw [c166]; exact w3u.2.1.symm)]
    cases pz_can n (s 13) t S <;> rfl
  have hb : ∀ t S : Nat, t < n → S < 2 ^ n → pz_can n (s 13) t S = true → S.testBit t = false := fun t S _ _ hc => pz_canbit hc
  obtain ⟨y, e2, k3, k4⟩ := pz_tabM (z := px_up u 150 0 0) (x2 := 0) (can := pz_can n (s 13)) hn hb hcf
  have hIy : pz_I y := pz_I_ek h' (pz_ek_ag (L := [177]) ⟨fun _ => rfl, trivial⟩ k3 (pz_ek_up rfl (pz_ek_ag (L := [144]) ⟨fun _ => rfl, trivial⟩ k1 pz_ek_rf)))
  have hIu : pz_I (px_up u 150 0 0) := pz_I_ek h' (pz_ek_up rfl (pz_ek_ag (L := [144]) ⟨fun _ => rfl, trivial⟩ k1 pz_ek_rf))
  have b256 : 0 ≤ ((pz_hs (s 9) n : Nat) : Int) ∧ ((pz_hs (s 9) n : Nat) : Int) < 256 := by omega
  have hj : ∀ x, j_M_orders_j23 (px_up u 150 0 0) x ((pz_hs (s 9) n : Nat) : Int) = if x = 0 then some (pz_ot n (pz_can n (s 13)) (pz_hs (s 9) n), y) else (if pz_ot n (pz_can n (s 13)) (pz_hs (s 9) n) = 0 then some (-1, y) else (f_M_orderedAt y ((pz_hs (s 9) n : Nat) : Int) (px_wr (x - 10)) 0).bind (fun q7 => some (q7, y))) := by
    intro x
    unfold j_M_orders_j23
    rw [m6, e2, Option.bind_some]
    simp only [if_pos b256, Int.toNat_natCast, k4 _ hlt]
  have hMo : f_M_orders u v = if v = 0 then some (pz_ot n (pz_can n (s 13)) (pz_hs (s 9) n), y) else (if 10 ≤ v ∧ v ≤ 9 + (n : Int) - (pz_cnt (pz_hs (s 9) n) : Int) then (if pz_ot n (pz_can n (s 13)) (pz_hs (s 9) n) = 0 then some (-1, y) else (f_M_orderedAt y ((pz_hs (s 9) n : Nat) : Int) (px_wr (v - 10)) 0).bind (fun q7 => some (q7, y))) else some (-1, px_up u 150 0 0)) := by
    unfold f_M_orders
    rw [hhm, Option.bind_some, hj, pz_ones _ (by omega), Option.bind_some, pz_isIn, pz_i1, m6, pz_wr_id (x := 9 + (n : Int)) (by omega) (by omega), pz_wr_id (x := 9 + (n : Int) - (pz_cnt (pz_hs (s 9) n) : Int)) (by omega) (by omega)]
    by_cases v0 : v = 0
    · rw [if_pos v0, if_pos v0, if_pos v0]
    · rw [if_neg v0, if_neg v0, if_neg v0]
  have hRo : f_R_orders s v = if v = 0 then some (pz_ot n (pz_can n (s 13)) (pz_hs (s 9) n), u) else (if v < 10 then some (-1, u) else (if pz_ot n (pz_can n (s 13)) (pz_hs (s 9) n) = 0 then some (-1, u) else (f_Orders_thingAt u (px_wr (v - 10))).bind (fun q5 => some (q5, u)))) := by
    unfold f_R_orders
    rw [e1, Option.bind_some]
  by_cases v0 : v = 0
  · rw [if_pos v0] at hRo hMo
    exact ⟨_, u, y, hRo, hMo, hIy⟩
  · rw [if_neg v0] at hRo hMo
    by_cases v10 : v < 10
    · rw [if_pos v10] at hRo
      rw [if_neg (by omega)] at hMo
      exact ⟨_, u, _, hRo, hMo, hIu⟩
    · rw [if_neg v10] at hRo
      by_cases h0 : pz_ot n (pz_can n (s 13)) (pz_hs (s 9) n) = 0
      · rw [if_pos h0] at hRo
        by_cases vr : 10 ≤ v ∧ v ≤ 9 + (n : Int) - (pz_cnt (pz_hs (s 9) n) : Int)
        · rw [if_pos vr, if_pos h0] at hMo
          exact ⟨_, u, _, hRo, hMo, hIy⟩
        · rw [if_neg vr] at hMo
          exact ⟨_, u, _, hRo, hMo, hIu⟩
      · rw [if_neg h0] at hRo
        obtain ⟨k, hk⟩ : ∃ k : Nat, v - 10 = (k : Int) := ⟨(v - 10).toNat, by omega⟩
        have hat : ∀ M : Nat, M ≤ 8 → (∀ j : Nat, ((k : Int) < (j : Int) ∨ 8 < (j : Int)) ↔ M < j) → f_Orders_thingAt u (k : Int) = some (pz_at n (pz_can n (s 13)) M (pz_hs (s 9) n)) := by
          intro M hM8 hx
          have := pz_atR (s := u) hn ((k1 6 1 (by decide)).trans b1) (by rw [u13]; exact ha) (by rw [u13]; exact k2) hM8 hx
          rw [u13, u9] at this
          exact this
        rw [pz_wr_id (x := v - 10) (by omega) (by omega), hk] at hRo
        by_cases vr : 10 ≤ v ∧ v ≤ 9 + (n : Int) - (pz_cnt (pz_hs (s 9) n) : Int)
        · rw [if_pos vr, if_neg h0, pz_wr_id (x := v - 10) (by omega) (by omega), hk] at hMo
          have hM1 := pz_atM (z := y) (x2 := 0) (can := pz_can n (s 13)) (k := k) hn hb (fun t S h3 h4 => hcf y k3 t S h3 h4) k4 hlt h0 (by omega)
          rw [hM1] at hMo
          rw [hat k (by omega) (fun j => by omega)] at hRo
          exact ⟨_, u, _, hRo, hMo, hIy⟩
        · rw [if_neg vr] at hMo
          have hfar : ∀ M : Nat, n ≤ M + pz_cnt (pz_hs (s 9) n) → pz_at n (pz_can n (s 13)) M (pz_hs (s 9) n) = -1 := fun M hM2 => pz_at_far hn hb M _ hlt h0 hM2
          by_cases k8 : k ≤ 8
          · rw [hat k k8 (fun j => by omega), hfar k (by omega)] at hRo
            exact ⟨_, u, _, hRo, hMo, hIu⟩
          · rw [hat 8 (by omega) (fun j => by omega), hfar 8 (by omega)] at hRo
            exact ⟨_, u, _, hRo, hMo, hIu⟩
