/-! KEPT, FALSE, MESSENGERS, CARDS -/
theorem pz_bit_hi {a i : Nat} (h : a < 256) (hi : 8 ≤ i) : a.testBit i = false := by
  refine Nat.testBit_lt_two_pow (Nat.lt_of_lt_of_le h ?_)
  exact Nat.pow_le_pow_right (n := 2) (by decide) hi
/-- does a CAVE lie by a PASS -/
def pz_ly (hl : Nat → Nat → Int) (m : Nat) (c p : Int) : Bool := (pz_fi (fun i => decide (hl i 0 = c) && decide (hl i 1 = p)) m 0).isSome
theorem pz_liesBy {z : px_Z} {hl : Nat → Nat → Int} {m : Nat} (hm : m ≤ 24) (h1 : z 150 35 = (m : Int)) (he : ∀ i, i < m → z 166 (5 * i + 0) = hl i 0 ∧ z 166 (5 * i + 1) = hl i 1) (c p : Int) : f_M_liesBy z c p = some (if pz_ly hl m c p then 1 else 0) := by
  have hl : ∀ (r fu i : Nat), i + r = m → r < fu → l_M_liesBy_2 z fu c p (i : Int) = some (if (pz_fi (fun i => decide (hl i 0 = c) && decide (hl i 1 = p)) r i).isSome then 1 else 0) := by
    intro r
    induction r with
    | zero =>
      intro fu i hi hf
      obtain ⟨f, rfl⟩ : ∃ f, fu = f + 1 := ⟨fu - 1, by omega⟩
      rw [l_M_liesBy_2, h1, if_pos (by omega)]
      rfl
    | succ r ih =>
      intro fu i hi hf
      obtain ⟨f, rfl⟩ : ∃ f, fu = f + 1 := ⟨fu - 1, by omega⟩
      have o0 : f_M_ofHill z (i : Int) 0 = some (z 166 (5 * i + 0)) := pz_ofHill (k := 0) (by omega)
      have o1 : f_M_ofHill z (i : Int) 1 = some (z 166 (5 * i + 1)) := pz_ofHill (k := 1) (by omega)
      obtain ⟨e0, e1⟩ := he i (by omega)
      rw [l_M_liesBy_2, h1, if_neg (by omega), o0, o1, Option.bind_some, Option.bind_some, e0, e1, pz_wr_suc (by omega), ih f (i + 1) (by omega) (by omega), pz_fi]
      by_cases c1 : hl i 0 = c <;> by_cases c2 : hl i 1 = p <;> simp [c1, c2]
  exact hl m px_big 0 (by omega) (pz_big_lt (by omega))
def pz_cb (hl : Nat → Nat → Int) (m : Nat) (p : Int) : Nat := pz_fo (fun i a => if hl i 0 ≠ -1 ∧ hl i 1 = p then a ||| 2 ^ (hl i 0).toNat else a) m 0 0
theorem pz_cavesBy {s : px_Z} {m : Nat} (hm : m ≤ 24) (h1 : s 28 0 = (m : Int)) (hc : ∀ i, i < m → -1 ≤ s 29 i ∧ s 29 i ≤ 7) (p : Int) : f_Hills_cavesBy s p = some ((pz_cb (pz_hlv (s 29) (s 30) (s 31) (s 32) (s 33)) m p : Nat) : Int) ∧ pz_cb (pz_hlv (s 29) (s 30) (s 31) (s 32) (s 33)) m p < 256 ∧ (∀ c, c < 8 → (pz_cb (pz_hlv (s 29) (s 30) (s 31) (s 32) (s 33)) m p).testBit c = pz_ly (pz_hlv (s 29) (s 30) (s 31) (s 32) (s 33)) m (c : Int) p) := by
  have hl : ∀ (r fu i A : Nat), i + r = m → r < fu → A < 256 → l_Hills_cavesBy_4 s fu p (A : Int) (i : Int) = some ((pz_fo (fun i a => if s 29 i ≠ -1 ∧ s 30 i = p then a ||| 2 ^ (s 29 i).toNat else a) r i A : Nat) : Int) ∧ pz_fo (fun i a => if s 29 i ≠ -1 ∧ s 30 i = p then a ||| 2 ^ (s 29 i).toNat else a) r i A < 256 ∧ (∀ c, c < 8 → (pz_fo (fun i a => if s 29 i ≠ -1 ∧ s 30 i = p then a ||| 2 ^ (s 29 i).toNat else a) r i A).testBit c = (A.testBit c || (pz_fi (fun i => decide (s 29 i = (c : Int)) && decide (s 30 i = p)) r i).isSome)) := by
    intro r
    induction r with
    | zero =>
      intro fu i A hi hf hA
      obtain ⟨f, rfl⟩ : ∃ f, fu = f + 1 := ⟨fu - 1, by omega⟩
      rw [l_Hills_cavesBy_4, h1, if_pos (by omega)]
      exact ⟨rfl, hA, fun c _ => (by simp [pz_fi, pz_fo])⟩
    | succ r ih =>
      intro fu i A hi hf hA
      obtain ⟨f, rfl⟩ : ∃ f, fu = f + 1 := ⟨fu - 1, by omega⟩
      have hci := hc i (by omega)
      have p24 : 0 ≤ (i : Int) ∧ (i : Int) < 24 := by omega
      rw [l_Hills_cavesBy_4, h1, if_neg (by omega), Int.toNat_natCast, pz_wr_suc (by omega)]
      simp only [if_pos p24, pz_fo, pz_fi]
      by_cases c1 : s 29 i = -1
      · have hn : ∀ c : Nat, ¬ (s 29 i = (c : Int)) := fun c => by omega
        simp only [c1, if_true, ne_eq, not_true, false_and, if_false]
        have h2 := ih f (i + 1) A (by omega) (by omega) hA
        refine ⟨h2.1, h2.2.1, fun c hc8 => ?_⟩
        rw [h2.2.2 c hc8]
        have : ¬ ((-1 : Int) = (c : Int)) := by omega
        simp [this]
      · by_cases c2 : s 30 i = p
        · obtain ⟨q, hq⟩ : ∃ q : Nat, s 29 i = (q : Int) := ⟨(s 29 i).toNat, by omega⟩
          have hq8 : q < 8 := by omega
          have hor : px_or (A : Int) (px_shl 1 (s 29 i)) = ((A ||| 2 ^ (s 29 i).toNat : Nat) : Int) := by
            rw [hq, Int.toNat_natCast]; exact pz_add hA hq8
          simp only [c1, c2, if_false, if_true, ne_eq, not_false_iff, and_self, hor]
          have h2 := ih f (i + 1) (A ||| 2 ^ (s 29 i).toNat) (by omega) (by omega) (by rw [hq, Int.toNat_natCast]; exact pz_or_lt hA hq8)
          refine ⟨h2.1, h2.2.1, fun c hc8 => ?_⟩
          rw [h2.2.2 c hc8, Nat.testBit_or, hq, Int.toNat_natCast, Nat.testBit_two_pow]
          by_cases hcq : q = c
          · subst hcq; simp
          · have : ¬ ((q : Int) = (c : Int)) := by omega
            simp [hcq, this]
        · simp only [c1, c2, if_false, and_false]
          have h2 := ih f (i + 1) A (by omega) (by omega) hA
          refine ⟨h2.1, h2.2.1, fun c hc8 => ?_⟩
          rw [h2.2.2 c hc8]
          simp
  have h := hl m px_big 0 0 (by omega) (pz_big_lt (by omega)) (by decide)
  refine ⟨h.1, h.2.1, fun c hc => ?_⟩
  have h3 := h.2.2 c hc
  rw [Nat.zero_testBit, Bool.false_or] at h3
  exact h3
theorem pz_set_eq {a b : Nat} (ha : a < 256) (hb : b < 256) (h : ∀ c, c < 8 → a.testBit c = b.testBit c) : a = b := by
  refine Nat.eq_of_testBit_eq (fun i => ?_)
  by_cases hi : i < 8
  · exact h i hi
  · rw [pz_bit_hi ha (by omega), pz_bit_hi hb (by omega)]
theorem po_kept {s : px_Z} (h : pz_I s) : pz_oq (f_R_kept s) s (fun u => f_M_kept u) := by
  have h' := h
  obtain ⟨n, hW, hU, hM, hT, hX, hC⟩ := h
  obtain ⟨hn, w1, wF, w3, w4, ⟨m, w5a, w5b, w5c, w5d, w5e⟩, w6, w7, w8⟩ := hW
  have b1' : s 6 1 = (n : Int) := w1.1
  have b2' : s 150 6 = (n : Int) := w1.2.1
  have hcb := fun p => pz_cavesBy (s := s) w5a w5b (fun i hi => ⟨(w5e i hi).1, (w5e i hi).2.1⟩) p
  generalize hHL : pz_hlv (s 29) (s 30) (s 31) (s 32) (s 33) = HL at hcb
  -- the class
  have hcv : ∀ (r fu i A : Nat), i + r = 6 → r < fu → A < 256 → ∃ B : Nat, l_Hills_caves_4 s fu (A : Int) (i : Int) = some (B : Int) ∧ B < 256 ∧ (∀ c, c < 8 → B.testBit c = (A.testBit c || (pz_fi (fun p => pz_ly HL m (c : Int) (p : Int)) r i).isSome)) := by
    intro r
    induction r with
    | zero =>
      intro fu i A hi hf hA
      obtain ⟨f, rfl⟩ : ∃ f, fu = f + 1 := ⟨fu - 1, by omega⟩
      rw [l_Hills_caves_4, if_pos (by omega)]
      exact ⟨A, rfl, hA, fun c _ => by simp [pz_fi]⟩
    | succ r ih =>
      intro fu i A hi hf hA
      obtain ⟨f, rfl⟩ : ∃ f, fu = f + 1 := ⟨fu - 1, by omega⟩
      obtain ⟨e1, e2, e3⟩ := hcb (i : Int)
      rw [l_Hills_caves_4, if_neg (by omega), e1, Option.bind_some, pz_wr_suc (by omega), pz_or_nat hA e2]
      have hlt : A ||| pz_cb HL m (i : Int) < 256 := Nat.or_lt_two_pow (n := 8) hA e2
      obtain ⟨B, e4, e5, e6⟩ := ih f (i + 1) _ (by omega) (by omega) hlt
      refine ⟨B, e4, e5, fun c hc => ?_⟩
      rw [e6 c hc, Nat.testBit_or, e3 c hc, pz_fi]
      cases pz_ly HL m (c : Int) (i : Int) <;> simp
  obtain ⟨B0, cv1, cv2, cv3⟩ := hcv 6 px_big 0 0 (by omega) (pz_big_lt (by omega)) (by decide)
  have hkr : ∀ (r fu i A : Nat), i + r = n → r < fu → A < 256 → ∃ B : Nat, l_R_kept_7 s fu (A : Int) (i : Int) = some (B : Int) ∧ B < 256 ∧ (∀ c, c < 8 → B.testBit c = (A.testBit c && (pz_fi (fun t => decide (s 9 t = 1) && !pz_ly HL m (c : Int) (s 11 t)) r i).isNone)) := by
    intro r
    induction r with
    | zero =>
      intro fu i A hi hf hA
      obtain ⟨f, rfl⟩ : ∃ f, fu = f + 1 := ⟨fu - 1, by omega⟩
      rw [l_R_kept_7, b1', if_pos (by omega)]
      exact ⟨A, rfl, hA, fun c _ => by simp [pz_fi]⟩
    | succ r ih =>
      intro fu i A hi hf hA
      obtain ⟨f, rfl⟩ : ∃ f, fu = f + 1 := ⟨fu - 1, by omega⟩
      have p8 : 0 ≤ (i : Int) ∧ (i : Int) < 8 := by omega
      rw [l_R_kept_7, b1', if_neg (by omega), Int.toNat_natCast, pz_wr_suc (by omega)]
      simp only [if_pos p8]
      by_cases c1 : s 9 i = 1
      · obtain ⟨e1, e2, e3⟩ := hcb (s 11 i)
        rw [if_pos c1, e1, Option.bind_some, pz_and_nat hA e2]
        have hlt : A &&& pz_cb HL m (s 11 i) < 256 := Nat.lt_of_le_of_lt Nat.and_le_left hA
        obtain ⟨B, e4, e5, e6⟩ := ih f (i + 1) _ (by omega) (by omega) hlt
        refine ⟨B, e4, e5, fun c hc => ?_⟩
        rw [e6 c hc, Nat.testBit_and, e3 c hc, pz_fi]
        cases pz_ly HL m (c : Int) (s 11 i) <;> simp [c1]
      · rw [if_neg c1]
        obtain ⟨B, e4, e5, e6⟩ := ih f (i + 1) A (by omega) (by omega) hA
        refine ⟨B, e4, e5, fun c hc => ?_⟩
        rw [e6 c hc, pz_fi]
        simp [c1]
  obtain ⟨B, k1, k2, k3⟩ := hkr n px_big 0 B0 (by omega) (pz_big_lt (by omega)) cv2
  -- the reference
  have hlies : ∀ (z : px_Z), z 150 35 = (m : Int) → z 166 = s 166 → ∀ c p, f_M_liesBy z c p = some (if pz_ly HL m c p then 1 else 0) := by
    intro z z1 z2 c p
    refine pz_liesBy w5a z1 (fun i hi => ?_) c p
    have := w5d i hi
    rw [← hHL, z2]
    exact ⟨this.1.symm, this.2.1.symm⟩
  have hic : ∀ (z : px_Z), z 150 35 = (m : Int) → z 166 = s 166 → z 150 6 = (n : Int) → z 151 = s 151 → ∀ c : Nat, f_M_isCave z (c : Int) = some (if (pz_fi (fun p => pz_ly HL m (c : Int) (p : Int)) 6 0).isSome && (pz_fi (fun t => decide (s 9 t = 1) && !pz_ly HL m (c : Int) (s 11 t)) n 0).isNone then 1 else 0) := by
    intro z z1 z2 z3 z4 c
    have l1 : ∀ (r fu i : Nat) (b : Bool), i + r = n → r < fu → l_M_isCave_18 z fu (c : Int) (if b then 1 else 0) (i : Int) = some (if b && (pz_fi (fun t => decide (s 9 t = 1) && !pz_ly HL m (c : Int) (s 11 t)) r i).isNone then 1 else 0) := by
      intro r
      induction r with
      | zero =>
        intro fu i b hi hf
        obtain ⟨f, rfl⟩ : ∃ f, fu = f + 1 := ⟨fu - 1, by omega⟩
        rw [l_M_isCave_18, z3, if_pos (by omega)]
        cases b <;> rfl
      | succ r ih =>
        intro fu i b hi hf
        obtain ⟨f, rfl⟩ : ∃ f, fu = f + 1 := ⟨fu - 1, by omega⟩
        have hc := wF.2.2.1 i (by omega)
        have q1 : s 9 i = s 151 (16 + i) := hc.2.1
        have q2 : s 11 i = s 151 (32 + i) - 1 := hc.2.2.2.1
        have h5 : f_M_isHome z (i : Int) = some (if s 9 i = 1 then 1 else 0) := by
          unfold f_M_isHome
          rw [pz_wr_id (by omega) (by omega), if_pos (by omega), show (16 + (i : Int)).toNat = 16 + i by omega, z4, q1]
          split <;> rfl
        rw [l_M_isCave_18, z3, if_neg (by omega), h5, Option.bind_some, pz_i1, pz_wr_id (x := 32 + (i : Int)) (by omega) (by omega), show (32 + (i : Int)).toNat = 32 + i by omega, z4, pz_wr_id (x := s 151 (32 + i) - 1) (by omega) (by omega), ← q2, hlies z z1 z2, Option.bind_some, pz_wr_suc (by omega), pz_i1, pz_fi]
        by_cases c1 : s 9 i = 1
        · rw [if_pos c1, if_pos (by omega)]
          have hf0 := ih f (i + 1) false (by omega) (by omega)
          have hfb := ih f (i + 1) b (by omega) (by omega)
          rw [if_neg (by decide)] at hf0
          cases hly : pz_ly HL m (c : Int) (s 11 i)
          · simp only [Bool.false_and, Bool.false_eq_true, if_false] at hf0
            simp only [Bool.false_eq_true, if_false, c1, decide_true, Bool.not_false, Bool.and_true, if_true, Option.isNone_some, Bool.and_false]
            exact hf0
          · simp only [if_true, c1, decide_true, Bool.not_true, Bool.and_false, Bool.false_eq_true, if_false]
            exact hfb
        · rw [if_neg c1, ih f (i + 1) b (by omega) (by omega)]
          simp [c1]
    have l2 : ∀ (r fu i : Nat) (b : Bool), i + r = 6 → r < fu → l_M_isCave_4 z (fun x1 x2 => l_M_isCave_18 z px_big x1 x2 0) fu (c : Int) (if b then 1 else 0) (i : Int) = some (if (b || (pz_fi (fun p => pz_ly HL m (c : Int) (p : Int)) r i).isSome) && (pz_fi (fun t => decide (s 9 t = 1) && !pz_ly HL m (c : Int) (s 11 t)) n 0).isNone then 1 else 0) := by
      intro r
      induction r with
      | zero =>
        intro fu i b hi hf
        obtain ⟨f, rfl⟩ : ∃ f, fu = f + 1 := ⟨fu - 1, by omega⟩
        rw [l_M_isCave_4, if_pos (by omega)]
        have := l1 n px_big 0 b (by omega) (pz_big_lt (by omega))
        rw [show ((0 : Nat) : Int) = 0 from rfl] at this
        rw [this]
        simp [pz_fi]
      | succ r ih =>
        intro fu i b hi hf
        obtain ⟨f, rfl⟩ : ∃ f, fu = f + 1 := ⟨fu - 1, by omega⟩
        rw [l_M_isCave_4, if_neg (by omega), hlies z z1 z2, Option.bind_some, pz_wr_suc (by omega), pz_i1, pz_fi]
        have ht := ih f (i + 1) true (by omega) (by omega)
        have hb := ih f (i + 1) b (by omega) (by omega)
        rw [if_pos rfl] at ht
        cases hly : pz_ly HL m (c : Int) (i : Int)
        · simp only [Bool.false_eq_true, if_false]
          exact hb
        · simp only [if_true, Option.isSome_some, Bool.or_true]
          simp only [Bool.true_or] at ht
          exact ht
    have := l2 6 px_big 0 false (by omega) (pz_big_lt (by omega))
    rw [show ((0 : Nat) : Int) = 0 from rfl, if_neg (by decide), Bool.false_or] at this
    exact this
  have hkm : ∀ (r fu i A : Nat), i + r = 8 → r < fu → A < 2 ^ i → ∃ C : Nat, l_M_kept_7 fu (px_up s 150 0 0) (A : Int) (i : Int) = some ((C : Int), px_up s 150 0 0) ∧ C < 256 ∧ (∀ c, c < 8 → C.testBit c = (if c < i then A.testBit c else (B.testBit c))) := by
    intro r
    induction r with
    | zero =>
      intro fu i A hi hf hA
      obtain ⟨f, rfl⟩ : ∃ f, fu = f + 1 := ⟨fu - 1, by omega⟩
      have : i = 8 := by omega
      subst this
      rw [l_M_kept_7, if_pos (by omega)]
      exact ⟨A, rfl, hA, fun c hc => by rw [if_pos hc]⟩
    | succ r ih =>
      intro fu i A hi hf hA
      obtain ⟨f, rfl⟩ : ∃ f, fu = f + 1 := ⟨fu - 1, by omega⟩
      have h256 := (pz_pow_le (show i ≤ 8 by omega)).1
      have h3 : A < 2 ^ (i + 1) := by rw [Nat.pow_succ]; omega
      have hAi : A.testBit i = false := Nat.testBit_lt_two_pow hA
      rw [l_M_kept_7, if_neg (by omega), hic (px_up s 150 0 0) w5c rfl b2' rfl i, Option.bind_some, pz_i1, pz_wr_suc (by omega)]
      have hBi : B.testBit i = ((pz_fi (fun p => pz_ly HL m (i : Int) (p : Int)) 6 0).isSome && (pz_fi (fun t => decide (s 9 t = 1) && !pz_ly HL m (i : Int) (s 11 t)) n 0).isNone) := by
        rw [k3 i (by omega), cv3 i (by omega), Nat.zero_testBit, Bool.false_or]
      rw [← hBi]
      cases hb : B.testBit i
      · rw [if_neg (by decide)]
        obtain ⟨C, e1, e2, e3⟩ := ih f (i + 1) A (by omega) (by omega) h3
        refine ⟨C, e1, e2, fun c hc => ?_⟩
        rw [e3 c hc]
        by_cases hci : c = i
        · subst hci; rw [if_pos (by omega), if_neg (by omega), hAi, hb]
        · by_cases hlt : c < i
          · rw [if_pos (by omega), if_pos hlt]
          · rw [if_neg (by omega), if_neg hlt]
      · rw [if_pos rfl, pz_add (by omega) (by omega)]
        obtain ⟨C, e1, e2, e3⟩ := ih f (i + 1) (A ||| 2 ^ i) (by omega) (by omega) (pz_in_all (by omega) h3 (by omega))
        refine ⟨C, e1, e2, fun c hc => ?_⟩
        rw [e3 c hc, Nat.testBit_or, Nat.testBit_two_pow]
        by_cases hci : c = i
        · subst hci; rw [if_pos (by omega), if_neg (by omega), hb]; simp
        · have hic' : ¬ (i = c) := fun q => hci q.symm
          by_cases hlt : c < i
          · rw [if_pos (by omega), if_pos hlt]; simp [hic']
          · rw [if_neg (by omega), if_neg hlt]
  obtain ⟨C, m1, m2, m3⟩ := hkm 8 px_big 0 0 (by omega) (pz_big_lt (by omega)) (by decide)
  have hBC : C = B := pz_set_eq m2 k2 (fun c hc => by rw [m3 c hc, if_neg (by omega)])
  subst hBC
  refine ⟨(C : Int), px_up s 150 0 0, ?_, m1, pz_I_told h'⟩
  unfold f_R_kept f_Hills_caves
  rw [show l_Hills_caves_4 s px_big 0 0 = some (B0 : Int) from cv1, Option.bind_some]
  exact k1
