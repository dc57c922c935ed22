/-! LEAST of the class: the whole -/
theorem pz_fillA {u : px_Z} (x : Int) : ∃ u', f_Arrays_fill_3 u x = some u' ∧ pz_ag [146] u u' ∧ (∀ p, p < 2048 → u' 146 p = x) := by
  have hl : ∀ (c fu i : Nat) (v : px_Z), i + c = 2048 → c < fu → pz_ag [146] u v → (∀ p, p < i → v 146 p = x) → ∃ u', l_Arrays_fill_3_5 fu v x (i : Int) 2048 = some u' ∧ pz_ag [146] u u' ∧ (∀ p, p < 2048 → u' 146 p = x) := by
    intro c
    induction c with
    | zero =>
      intro fu i v hi hf hv ht
      obtain ⟨f, rfl⟩ : ∃ f, fu = f + 1 := ⟨fu - 1, by omega⟩
      rw [l_Arrays_fill_3_5, if_pos (by omega)]
      exact ⟨v, rfl, hv, fun p hp => ht p (by omega)⟩
    | succ c ih =>
      intro fu i v hi hf hv ht
      obtain ⟨f, rfl⟩ : ∃ f, fu = f + 1 := ⟨fu - 1, by omega⟩
      rw [l_Arrays_fill_3_5, if_neg (by omega), if_pos (by omega), Int.toNat_natCast, pz_wr_suc (by omega)]
      refine ih f (i + 1) _ (by omega) (by omega) (pz_ag_up hv (by decide)) (fun p hp => ?_)
      rw [pz_up_same]
      split
      · rfl
      · exact ht p (by omega)
  exact hl 2048 px_big 0 u (by omega) (pz_big_lt (by omega)) pz_ag_rf (fun p hp => absurd hp (Nat.not_lt_zero _))
theorem pz_fillB {u : px_Z} {a : Nat} (ha : a < 256) (x : Int) : ∃ u', f_Arrays_fill3 u (px_wr ((a : Int) * 8)) (px_wr (px_wr ((a : Int) * 8) + 8)) x = some u' ∧ pz_ag [146] u u' ∧ (∀ p, u' 146 p = if 8 * a ≤ p ∧ p < 8 * a + 8 then x else u 146 p) := by
  have hl : ∀ (c fu i : Nat) (v : px_Z), i + c = 8 * a + 8 → c < fu → 8 * a ≤ i → pz_ag [146] u v → (∀ p, v 146 p = if 8 * a ≤ p ∧ p < i then x else u 146 p) → ∃ u', l_Arrays_fill3_7 fu v ((8 * a + 8 : Nat) : Int) x (i : Int) = some u' ∧ pz_ag [146] u u' ∧ (∀ p, u' 146 p = if 8 * a ≤ p ∧ p < 8 * a + 8 then x else u 146 p) := by
    intro c
    induction c with
    | zero =>
      intro fu i v hi hf hb hv ht
      obtain ⟨f, rfl⟩ : ∃ f, fu = f + 1 := ⟨fu - 1, by omega⟩
      rw [l_Arrays_fill3_7, if_pos (by omega)]
      have : i = 8 * a + 8 := by omega
      rw [this] at ht
      exact ⟨v, rfl, hv, ht⟩
    | succ c ih =>
      intro fu i v hi hf hb hv ht
      obtain ⟨f, rfl⟩ : ∃ f, fu = f + 1 := ⟨fu - 1, by omega⟩
      rw [l_Arrays_fill3_7, if_neg (by omega), if_pos (by omega), Int.toNat_natCast, pz_wr_suc (by omega)]
      refine ih f (i + 1) _ (by omega) (by omega) (by omega) (pz_ag_up hv (by decide)) (fun p => ?_)
      rw [pz_up_same]
      by_cases hp : p = i
      · rw [if_pos hp, if_pos (by omega)]
      · rw [if_neg hp, ht p]
        by_cases hq : 8 * a ≤ p ∧ p < i
        · rw [if_pos hq, if_pos (by omega)]
        · rw [if_neg hq, if_neg (by omega)]
  unfold f_Arrays_fill3 f_Arrays_rangeCheck
  rw [pz_wr_id (x := (a : Int) * 8) (by omega) (by omega), pz_wr_id (x := (a : Int) * 8 + 8) (by omega) (by omega), if_pos (by omega), if_pos (by omega), if_pos (by omega), Option.bind_some, show (a : Int) * 8 + 8 = ((8 * a + 8 : Nat) : Int) by omega, show (a : Int) * 8 = ((8 * a : Nat) : Int) by omega]
  exact hl 8 px_big (8 * a) u (by omega) (pz_big_lt (by omega)) (Nat.le_refl _) pz_ag_rf (fun p => by rw [if_neg (by omega)])
def pz_aks (s : px_Z) (k : Nat) (x : Int) : Bool := (pz_fi (fun i => decide (s 19 i = x)) k 0).isSome
theorem pz_asksFor {u : px_Z} {k : Nat} (hk : k ≤ 400) (h1 : u 14 1 = (k : Int)) (x : Int) : f_Law_asksFor u x = some (if pz_aks u k x then 1 else 0) := by
  have hl : ∀ (r fu i : Nat), i + r = k → r < fu → l_Law_asksFor_2 u fu x (i : Int) = some (if (pz_fi (fun i => decide (u 19 i = x)) r i).isSome then 1 else 0) := by
    intro r
    induction r with
    | zero =>
      intro fu i hi hf
      obtain ⟨f, rfl⟩ : ∃ f, fu = f + 1 := ⟨fu - 1, by omega⟩
      rw [l_Law_asksFor_2, h1, if_pos (by omega)]
      rfl
    | succ r ih =>
      intro fu i hi hf
      obtain ⟨f, rfl⟩ : ∃ f, fu = f + 1 := ⟨fu - 1, by omega⟩
      rw [l_Law_asksFor_2, h1, if_neg (by omega), if_pos (by omega), Int.toNat_natCast, pz_wr_suc (by omega), pz_fi]
      by_cases hq : u 19 i = x
      · rw [if_pos hq, if_pos (decide_eq_true hq)]
        rfl
      · rw [if_neg hq]
        simp only [hq, decide_false, Bool.false_eq_true, if_false]
        exact ih f (i + 1) (by omega) (by omega)
  exact hl k px_big 0 (by omega) (pz_big_lt (by omega))
/-- prices that don't ask for the WEEK, for HOME, for LAST, for the RIVAL -/
theorem pz_prc_wk {n m : Nat} {s z : px_Z} (hW : pz_W n (pz_wo s) z) (hm : s 14 0 = (m : Int)) (hno : ∀ i : Nat, (i : Int) < s 14 1 → s 19 i ≠ 259) (tk : Int) (t : Nat) (wk wk2 : Int) (c q : Nat) : pz_prc s m tk t wk c q = pz_prc s m tk t wk2 c q := by
  obtain ⟨m2, w4a, w4b⟩ := hW.2.2.2.2.1.1
  have hmm : m = m2 := by
    have : s 14 0 = (m2 : Int) := w4a
    omega
  subst hmm
  unfold pz_prc pz_pr
  congr 1
  refine pz_lv_x (size := s 14 1) (fun i k h1 h2 h3 => ?_) m 0 (pz_WL_ln w4b)
  have h4 : k ≠ 3 := fun q => hno i h1 (by rw [h3, q]; rfl)
  rcases (show k = 0 ∨ k = 1 ∨ k = 2 ∨ k = 4 ∨ k = 5 ∨ k = 6 ∨ k = 7 ∨ k = 8 by omega) with rfl | rfl | rfl | rfl | rfl | rfl | rfl | rfl <;> rfl
theorem pz_prc_c {n m : Nat} {s z : px_Z} (hW : pz_W n (pz_wo s) z) (hm : s 14 0 = (m : Int)) (hno : ∀ i : Nat, (i : Int) < s 14 1 → s 19 i ≠ 263) (tk : Int) (t : Nat) (wk : Int) (c c2 q : Nat) : pz_prc s m tk t wk c q = pz_prc s m tk t wk c2 q := by
  obtain ⟨m2, w4a, w4b⟩ := hW.2.2.2.2.1.1
  have hmm : m = m2 := by
    have : s 14 0 = (m2 : Int) := w4a
    omega
  subst hmm
  unfold pz_prc pz_pr
  congr 1
  refine pz_lv_x (size := s 14 1) (fun i k h1 h2 h3 => ?_) m 0 (pz_WL_ln w4b)
  have h4 : k ≠ 7 := fun q => hno i h1 (by rw [h3, q]; rfl)
  rcases (show k = 0 ∨ k = 1 ∨ k = 2 ∨ k = 3 ∨ k = 4 ∨ k = 5 ∨ k = 6 ∨ k = 8 by omega) with rfl | rfl | rfl | rfl | rfl | rfl | rfl | rfl <;> rfl
theorem pz_prc_q {n m : Nat} {s z : px_Z} (hW : pz_W n (pz_wo s) z) (hm : s 14 0 = (m : Int)) (hno : ∀ i : Nat, (i : Int) < s 14 1 → s 19 i ≠ 264) (tk : Int) (t : Nat) (wk : Int) (c q q2 : Nat) : pz_prc s m tk t wk c q = pz_prc s m tk t wk c q2 := by
  obtain ⟨m2, w4a, w4b⟩ := hW.2.2.2.2.1.1
  have hmm : m = m2 := by
    have : s 14 0 = (m2 : Int) := w4a
    omega
  subst hmm
  unfold pz_prc pz_pr
  congr 1
  refine pz_lv_x (size := s 14 1) (fun i k h1 h2 h3 => ?_) m 0 (pz_WL_ln w4b)
  have h4 : k ≠ 8 := fun q => hno i h1 (by rw [h3, q]; rfl)
  rcases (show k = 0 ∨ k = 1 ∨ k = 2 ∨ k = 3 ∨ k = 4 ∨ k = 5 ∨ k = 6 ∨ k = 7 by omega) with rfl | rfl | rfl | rfl | rfl | rfl | rfl | rfl <;> rfl
theorem pz_prc_tk {n m : Nat} {s z : px_Z} (hW : pz_W n (pz_wo s) z) (hm : s 14 0 = (m : Int)) (hno : ∀ i : Nat, (i : Int) < s 14 1 → s 19 i ≠ 261) (tk tk2 : Int) (t : Nat) (wk : Int) (c q : Nat) : pz_prc s m tk t wk c q = pz_prc s m tk2 t wk c q := by
  obtain ⟨m2, w4a, w4b⟩ := hW.2.2.2.2.1.1
  have hmm : m = m2 := by
    have : s 14 0 = (m2 : Int) := w4a
    omega
  subst hmm
  unfold pz_prc pz_pr
  congr 1
  refine pz_lv_x (size := s 14 1) (fun i k h1 h2 h3 => ?_) m 0 (pz_WL_ln w4b)
  have h4 : k ≠ 5 := fun q => hno i h1 (by rw [h3, q]; rfl)
  rcases (show k = 0 ∨ k = 1 ∨ k = 2 ∨ k = 3 ∨ k = 4 ∨ k = 6 ∨ k = 7 ∨ k = 8 by omega) with rfl | rfl | rfl | rfl | rfl | rfl | rfl | rfl <;> rfl
theorem pz_aks_no {s : px_Z} {k : Nat} {x : Int} (hk : s 14 1 = (k : Int)) (h : pz_aks s k x = false) : ∀ i : Nat, (i : Int) < s 14 1 → s 19 i ≠ x := by
  intro i hi he
  unfold pz_aks at h
  cases hq2 : pz_fi (fun i => decide (s 19 i = x)) k 0 with
  | some j => rw [hq2] at h; cases h
  | none =>
    have := pz_fi_none _ _ hq2 i (Nat.zero_le _) (by omega)
    rw [decide_eq_true he] at this
    cases this
theorem pz_ite01 {b : Bool} : (if b = true then (1 : Int) else 0) = 0 ∨ (if b = true then (1 : Int) else 0) = 1 := by
  cases b
  · exact Or.inl rfl
  · exact Or.inr rfl
/-- how long the LAW OF PRICES is -/
theorem pz_W_size {n m : Nat} {s z : px_Z} (hW : pz_W n (pz_wo s) z) (hm : s 14 0 = (m : Int)) : ∃ ks : Nat, s 14 1 = (ks : Int) ∧ ks ≤ 400 := by
  obtain ⟨m2, q1, q2⟩ := hW.2.2.2.2.1.1
  have a1 : 0 ≤ s 14 1 := q2.2.1
  have a2 : s 14 1 ≤ 400 := q2.2.2.1
  exact ⟨(s 14 1).toNat, by omega, by omega⟩
/-- who can come next, by sets -/
theorem pz_findR {n : Nat} {tk : Int} {s z u : px_Z} (hW : pz_W n (pz_wo s) z) (h : pz_R0 n tk s u) : ∃ u', f_Least_findReady u = some u' ∧ pz_ag [149] u u' ∧ (∀ S, pz_hs (s 9) n ≤ S → S < 2 ^ n → ∃ R : Nat, R < 256 ∧ u' 149 S = (R : Int) ∧ ∀ i, i < n → R.testBit i = pz_can n (s 13) i S) := by
  have hn := hW.1
  have hpw := pz_pow_le hn
  have hlt : pz_hs (s 9) n < 2 ^ n := pz_hs_lt hn
  have b1 : s 6 1 = (n : Int) := hW.2.1.1
  have hn1 : ∀ v, pz_ag [149] u v → v 6 1 = (n : Int) := fun v hv => (hv 6 1 (by decide)).trans ((h.1 6 1 (by decide)).trans b1)
  have h13 : ∀ v, pz_ag [149] u v → v 13 = s 13 := fun v hv => funext (fun i => (hv 13 i (by decide)).trans (h.1 13 i (by decide)))
  have h6 : ∀ v, pz_ag [149] u v → v 145 6 = ((2 ^ n - 1 : Nat) : Int) := fun v hv => (hv 145 6 (by decide)).trans h.2.2.1
  have h11 : ∀ (K : px_Z → Int → Int → Option px_Z) (v : px_Z), pz_ag [149] u v → ∀ (S : Nat), S < 2 ^ n → ∀ (c fu i R : Nat), i + c = n → c < fu → R < 256 → (∀ j, R.testBit j = (decide (j < i) && pz_can n (s 13) j S)) → ∃ R' : Nat, l_Least_findReady_11 K fu v (S : Int) (R : Int) (i : Int) = K v (S : Int) (R' : Int) ∧ R' < 256 ∧ (∀ j, j < n → R'.testBit j = pz_can n (s 13) j S) := by
    intro K v hv S hS c
    induction c with
    | zero =>
      intro fu i R hi hf hR hb
      obtain ⟨f, rfl⟩ : ∃ f, fu = f + 1 := ⟨fu - 1, by omega⟩
      rw [l_Least_findReady_11, hn1 v hv, if_pos (by omega)]
      exact ⟨R, rfl, hR, fun j hj => by rw [hb j, decide_eq_true (show j < i by omega), Bool.true_and]⟩
    | succ c ih =>
      intro fu i R hi hf hR hb
      obtain ⟨f, rfl⟩ : ∃ f, fu = f + 1 := ⟨fu - 1, by omega⟩
      have hi8 : i < 8 := by omega
      have hskip : pz_can n (s 13) i S = false → ∀ j, R.testBit j = (decide (j < i + 1) && pz_can n (s 13) j S) := by
        intro hc j
        rw [hb j]
        by_cases hji : j = i
        · rw [hji, hc, Bool.and_false, Bool.and_false]
        · congr 1
          exact decide_eq_decide.mpr (by omega)
      rw [l_Least_findReady_11, hn1 v hv, if_neg (by omega), pz_wr_suc (i := i) (by omega)]
      cases hbit : S.testBit i with
      | true =>
        have hc : pz_can n (s 13) i S = false := by
          cases hq : pz_can n (s 13) i S with
          | false => rfl
          | true => rw [pz_canbit hq] at hbit; cases hbit
        rw [if_neg (fun q2 => by rw [(pz_bit0 (show S < 256 by omega) hi8).mp q2] at hbit; cases hbit)]
        exact ih f (i + 1) R (by omega) (by omega) hR (hskip hc)
      | false =>
        have w3 := hW.2.2.2.1 i (by omega)
        have a13 : s 13 i = z 167 i := w3.2.1
        have hrd := pz_readyR (s := v) hn (hn1 v hv) (show i < n by omega) hS (by rw [h13 v hv, a13]; exact w3.2.2) hbit
        rw [h13 v hv] at hrd
        rw [if_pos ((pz_bit0 (show S < 256 by omega) hi8).mpr hbit), hrd, Option.bind_some, pz_i1]
        cases hc : pz_can n (s 13) i S with
        | false =>
          simp only [Bool.false_eq_true, if_false]
          exact ih f (i + 1) R (by omega) (by omega) hR (hskip hc)
        | true =>
          simp only [if_true]
          rw [pz_add hR hi8]
          have hlt2 : R ||| 2 ^ i < 2 ^ 8 := Nat.or_lt_two_pow (by omega) (Nat.pow_lt_pow_right (by decide) hi8)
          refine ih f (i + 1) (R ||| 2 ^ i) (by omega) (by omega) (by omega) (fun j => ?_)
          rw [pz_or_bit, hb j]
          by_cases hji : j = i
          · rw [hji, hc]; simp
          · have h1 : decide (i = j) = false := decide_eq_false (fun q => hji q.symm)
            rw [h1, Bool.or_false]
            congr 1
            exact decide_eq_decide.mpr (by omega)
  have h3 : ∀ (c fu S : Nat) (v : px_Z), S + c = 2 ^ n → c < fu → pz_ag [149] u v → (∀ S', pz_hs (s 9) n ≤ S' → S' < S → ∃ R : Nat, R < 256 ∧ v 149 S' = (R : Int) ∧ ∀ i, i < n → R.testBit i = pz_can n (s 13) i S') → ∃ u', l_Least_findReady_3 fu v (S : Int) = some u' ∧ pz_ag [149] u u' ∧ (∀ S', pz_hs (s 9) n ≤ S' → S' < 2 ^ n → ∃ R : Nat, R < 256 ∧ u' 149 S' = (R : Int) ∧ ∀ i, i < n → R.testBit i = pz_can n (s 13) i S') := by
    intro c
    induction c with
    | zero =>
      intro fu S v hS hf hv hb
      obtain ⟨f, rfl⟩ : ∃ f, fu = f + 1 := ⟨fu - 1, by omega⟩
      rw [l_Least_findReady_3, h6 v hv, if_pos (by omega)]
      exact ⟨v, rfl, hv, fun S' h1 h2 => hb S' h1 (by omega)⟩
    | succ c ih =>
      intro fu S v hS hf hv hb
      obtain ⟨f, rfl⟩ : ∃ f, fu = f + 1 := ⟨fu - 1, by omega⟩
      have hS2 : S < 2 ^ n := by omega
      have hS256 : 0 ≤ (S : Int) ∧ (S : Int) < 256 := by omega
      obtain ⟨R, q1, q2, q3⟩ := h11 (fun s x1 x2 => if 0 ≤ (x1) ∧ (x1) < 256 then l_Least_findReady_3 f (px_up s 149 x1.toNat x2) (px_wr (x1 + 1)) else none) v hv S hS2 n px_big 0 0 (by omega) (pz_big_lt (by omega)) (by decide) (fun j => by rw [Nat.zero_testBit]; simp)
      rw [show ((0 : Nat) : Int) = 0 from rfl] at q1
      rw [l_Least_findReady_3, h6 v hv, if_neg (by omega), q1, if_pos hS256, Int.toNat_natCast, pz_wr_suc (by omega)]
      refine ih f (S + 1) _ (by omega) (by omega) (pz_ag_up hv (by decide)) (fun S' h1 h2 => ?_)
      rw [pz_up_same]
      by_cases he : S' = S
      · rw [if_pos he, he]
        exact ⟨R, q2, rfl, q3⟩
      · rw [if_neg he]
        exact hb S' h1 (by omega)
  unfold f_Least_findReady
  rw [h.2.1]
  exact h3 (2 ^ n - pz_hs (s 9) n) px_big (pz_hs (s 9) n) u (by omega) (pz_big_lt (by omega)) pz_ag_rf (fun S' h1 h2 => by omega)
/-- HOME is among the sets that come up -/
theorem pz_dom_hs {n : Nat} {s z : px_Z} (hW : pz_W n (pz_wo s) z) : pz_dom n (pz_hs (s 9) n) (pz_hs (s 9) n) := by
  have hn := hW.1
  have hlt : pz_hs (s 9) n < 2 ^ n := pz_hs_lt hn
  refine ⟨hlt, Nat.and_self _, ?_⟩
  by_cases h0 : n = 0
  · subst h0
    left
    have : (2 : Nat) ^ 0 = 1 := rfl
    omega
  · by_cases hb : s 9 (n - 1) = 1
    · right
      have hF := hW.2.2.1
      have hk : z 151 (16 + (n - 1)) = 1 := by
        have : s 9 (n - 1) = z 151 (16 + (n - 1)) := (hF.2.2.1 (n - 1) (by omega)).2.1
        rw [← this]; exact hb
      have hall := hF.2.2.2.2 (n - 1) (by omega) hk
      refine Nat.eq_of_testBit_eq (fun i => ?_)
      rw [pz_hs_bit, Nat.testBit_two_pow_sub_one]
      by_cases hi : i < n
      · have : s 9 i = z 151 (16 + i) := (hF.2.2.1 i (by omega)).2.1
        simp [hi, this, hall i hi]
      · simp [hi]
    · left
      refine Nat.lt_of_not_le (fun q => hb ?_)
      have hbit : (pz_hs (s 9) n).testBit (n - 1) = true := by
        have h2 : 2 ^ n = 2 * 2 ^ (n - 1) := by
          rw [← Nat.pow_succ', show (n - 1).succ = n by omega]
        rw [Nat.testBit_eq_decide_div_mod_eq, decide_eq_true_eq]
        have h3 : pz_hs (s 9) n / 2 ^ (n - 1) = 1 := by
          rw [Nat.div_eq_iff (Nat.two_pow_pos _)]
          omega
        rw [h3]
      rw [pz_hs_bit] at hbit
      simp only [Bool.and_eq_true, decide_eq_true_eq] at hbit
      exact hbit.2
theorem pz_solveR {n m mh : Nat} {tk : Int} {s z : px_Z} (hW : pz_W n (pz_wo s) z) (hm : s 14 0 = (m : Int)) (hmh : s 28 0 = (mh : Int)) (hne : s 145 10 ≠ tk) : ∃ u, j_Least_solve_j9 s tk = some u ∧ pz_R0 n tk s u ∧ (s 6 4 < s 7 4 → u 145 11 = 536870912) ∧ (s 7 4 ≤ s 6 4 → u 145 11 = pz_co 536870912 n (s 13) (pz_opc s mh) (s 6 4) (pz_prc s m tk) (s 6 4 - s 7 4 + 1).toNat (pz_hs (s 9) n) ((s 7 5 + 1).toNat) ∧ u 145 12 = pz_co 536870912 n (s 13) (pz_opc s mh) (s 6 4) (pz_prc s m tk) (s 6 4 - s 7 4).toNat (pz_hs (s 9) n) ((s 7 5 + 1).toNat) ∧ (pz_bl u = false → pz_nq (pz_prc s m tk)) ∧ (∀ r : Nat, (r : Int) ≤ s 6 4 - s 7 4 → ∀ S sl, pz_dom n (pz_hs (s 9) n) S → S < 2 ^ (n - 1) → pz_slot (pz_bl u) (pz_hs (s 9) n) S sl → pz_nib (u 147 (128 * (s 6 4 - r).toNat + S)) sl = (pz_ch 536870912 n (s 13) (pz_opc s mh) (s 6 4) (pz_prc s m tk) r S (pz_lq (pz_hs (s 9) n) ((s 7 5 + 1).toNat) S sl) : Int))) := by
  have hn := hW.1
  have hpw := pz_pow_le hn
  have hlt : pz_hs (s 9) n < 2 ^ n := pz_hs_lt hn
  have hdom := pz_dom_hs hW
  have b1 : s 6 1 = (n : Int) := hW.2.1.1
  obtain ⟨-, r1, r2, r3, r4⟩ := pz_W_nW hW
  have hall : ∀ v : px_Z, v 6 1 = (n : Int) → f_World_all v = ((2 ^ n - 1 : Nat) : Int) := by
    intro v hv
    unfold f_World_all
    rw [hv]; exact (pz_all hn).1
  have hhome : f_World_homeSet (px_up s 145 10 tk) = some ((pz_hs (s 9) n : Nat) : Int) := pz_homeR (s := px_up s 145 10 tk) hn b1
  unfold j_Least_solve_j9
  rw [if_neg hne, hhome, Option.bind_some, hall _ (by exact b1)]
  have hRB0 : pz_R0 n tk s (px_up (px_up (px_up (px_up (px_up s 145 10 tk) 145 5 ((pz_hs (s 9) n : Nat) : Int)) 145 6 ((2 ^ n - 1 : Nat) : Int)) 145 11 536870912) 145 12 536870912) := ⟨pz_ag_up (pz_ag_up (pz_ag_up (pz_ag_up (pz_ag_up pz_ag_rf (by decide)) (by decide)) (by decide)) (by decide)) (by decide), rfl, rfl, rfl, fun i hi => by rw [pz_up_i (by omega), pz_up_i (by omega), pz_up_i (by omega), pz_up_i (by omega), pz_up_i (by omega)]⟩
  have h08 : (px_up (px_up (px_up (px_up (px_up s 145 10 tk) 145 5 ((pz_hs (s 9) n : Nat) : Int)) 145 6 ((2 ^ n - 1 : Nat) : Int)) 145 11 536870912) 145 12 536870912) 145 11 = 536870912 := rfl
  generalize px_up (px_up (px_up (px_up (px_up s 145 10 tk) 145 5 ((pz_hs (s 9) n : Nat) : Int)) 145 6 ((2 ^ n - 1 : Nat) : Int)) 145 11 536870912) 145 12 536870912 = v0 at hRB0 h08 ⊢
  rw [hRB0.1 7 4 (by decide), hRB0.1 6 4 (by decide)]
  by_cases hle : s 7 4 ≤ s 6 4
  · rw [if_pos hle]
    obtain ⟨ks, hks, hks400⟩ := pz_W_size hW hm
    have hak : ∀ (v : px_Z) (x : Int), pz_ag [20, 46, 145, 146, 147, 148, 149] s v → f_Law_asksFor v x = some (if pz_aks s ks x then 1 else 0) := by
      intro v x hv
      have := pz_asksFor (u := v) hks400 ((hv 14 1 (by decide)).trans hks) x
      unfold pz_aks at this ⊢
      rw [show v 19 = s 19 from funext (fun i => hv 19 i (by decide))] at this
      exact this
    obtain ⟨bh, hbh⟩ : ∃ b, pz_aks s ks 263 = b := ⟨_, rfl⟩
    obtain ⟨bl, hbl⟩ : ∃ b, pz_aks s ks 264 = b := ⟨_, rfl⟩
    have hnc : bh = false → ∀ t w c c2 q, pz_prc s m tk t w c q = pz_prc s m tk t w c2 q := fun q t w c c2 q' => pz_prc_c hW hm (pz_aks_no hks (hbh.trans q)) tk t w c c2 q'
    have hnq : bl = false → pz_nq (pz_prc s m tk) := fun q t w c q1 q2 => pz_prc_q hW hm (pz_aks_no hks (hbl.trans q)) tk t w c q1 q2
    rw [hak v0 263 hRB0.1, Option.bind_some, hbh]
    simp only [if_pos (pz_ite01 (b := bh))]
    rw [hak (px_up v0 145 8 (if bh = true then 1 else 0)) 264 (pz_ag_up hRB0.1 (by decide)), Option.bind_some, hbl]
    simp only [if_pos (pz_ite01 (b := bl))]
    rw [hak (px_up (px_up v0 145 8 (if bh = true then 1 else 0)) 145 9 (if bl = true then 1 else 0)) 259 (pz_ag_up (pz_ag_up hRB0.1 (by decide)) (by decide)), Option.bind_some]
    have hR1 : pz_R0 n tk s (px_up (px_up v0 145 8 (if bh = true then 1 else 0)) 145 9 (if bl = true then 1 else 0)) := ⟨pz_ag_up (pz_ag_up hRB0.1 (by decide)) (by decide), hRB0.2.1, hRB0.2.2.1, hRB0.2.2.2.1, fun i hi => by rw [pz_up_i (by omega), pz_up_i (by omega)]; exact hRB0.2.2.2.2 i hi⟩
    have h18 : (px_up (px_up v0 145 8 (if bh = true then 1 else 0)) 145 9 (if bl = true then 1 else 0)) 145 8 = (if bh = true then 1 else 0) := rfl
    have h19 : (px_up (px_up v0 145 8 (if bh = true then 1 else 0)) 145 9 (if bl = true then 1 else 0)) 145 9 = (if bl = true then 1 else 0) := rfl
    generalize px_up (px_up v0 145 8 (if bh = true then 1 else 0)) 145 9 (if bl = true then 1 else 0) = v9 at hR1 h18 h19 ⊢
    obtain ⟨va, d1, d2, d3⟩ := pz_findR hW hR1
    have hRBa : pz_RB n bh bl tk s va := ⟨pz_R0_ag hR1 (pz_ag_mono d2 (by decide)), (d2 145 8 (by decide)).trans h18, (d2 145 9 (by decide)).trans h19, d3⟩
    rw [d1, Option.bind_some]
    obtain ⟨v1, f1, f2, f3⟩ := pz_fillA (u := va) 536870912
    have hRB1 := pz_RB_ag hRBa (pz_ag_mono f2 (M := [20, 46, 146, 147, 148]) (by decide))
    rw [f1, Option.bind_some, hRB1.1.2.2.1]
    obtain ⟨v2, g1, g2, g3⟩ := pz_fillB (u := v1) (show 2 ^ n - 1 < 256 by omega) 0
    have hRB2 := pz_RB_ag hRB1 (pz_ag_mono g2 (M := [20, 46, 146, 147, 148]) (by decide))
    rw [g1, Option.bind_some, hRB2.1.1 6 4 (by decide)]
    have hCL0 : pz_CL bl n (pz_hs (s 9) n) ((s 7 5 + 1).toNat) (pz_co 536870912 n (s 13) (pz_opc s mh) (s 6 4) (pz_prc s m tk)) 0 v2 := by
      intro S' sl' h1 h2
      have hs8 : sl' < 8 := by
        rcases h2 with h2 | h2
        · exact h2.1
        · exact h2.2
      have hS' := h1.1
      rw [g3, pz_co]
      by_cases he : S' = 2 ^ n - 1
      · rw [if_pos (by omega), if_pos he]
      · rw [if_neg (by omega), if_neg he, f3 _ (by omega)]
    -- the loop over the WEEKS
    have hloop : ∀ (pbw : Bool), (pbw = false → ∀ i : Nat, (i : Int) < s 14 1 → s 19 i ≠ 259) → ∀ (c fu r : Nat) (v : px_Z), (r : Int) + (c : Int) = s 6 4 - s 7 4 + 1 → c < fu → pz_RB n bh bl tk s v → pz_CL bl n (pz_hs (s 9) n) ((s 7 5 + 1).toNat) (pz_co 536870912 n (s 13) (pz_opc s mh) (s 6 4) (pz_prc s m tk)) r v → (0 < r → pbw = false → pz_PR n m bh bl tk (s 6 4) s n 0 0 v) → (0 < r → v 145 12 = pz_co 536870912 n (s 13) (pz_opc s mh) (s 6 4) (pz_prc s m tk) (r - 1) (pz_hs (s 9) n) ((s 7 5 + 1).toNat)) → (∀ r' : Nat, r' < r → ∀ S sl, pz_dom n (pz_hs (s 9) n) S → S < 2 ^ (n - 1) → pz_slot bl (pz_hs (s 9) n) S sl → pz_nib (v 147 (128 * (s 6 4 - r').toNat + S)) sl = (pz_ch 536870912 n (s 13) (pz_opc s mh) (s 6 4) (pz_prc s m tk) r' S (pz_lq (pz_hs (s 9) n) ((s 7 5 + 1).toNat) S sl) : Int)) → ∃ u, l_Least_solve_87 (fun s => if 0 ≤ (px_wr ((s 145 5) * 8)) ∧ (px_wr ((s 145 5) * 8)) < 2048 then some (px_up s 145 11 (s 146 (px_wr ((s 145 5) * 8)).toNat)) else none) fu v (if pbw then 1 else 0) (s 6 4 - (r : Int)) = some u ∧ pz_RB n bh bl tk s u ∧ u 145 11 = pz_co 536870912 n (s 13) (pz_opc s mh) (s 6 4) (pz_prc s m tk) (s 6 4 - s 7 4 + 1).toNat (pz_hs (s 9) n) ((s 7 5 + 1).toNat) ∧ (0 < r + c → u 145 12 = pz_co 536870912 n (s 13) (pz_opc s mh) (s 6 4) (pz_prc s m tk) (s 6 4 - s 7 4).toNat (pz_hs (s 9) n) ((s 7 5 + 1).toNat)) ∧ (∀ r' : Nat, (r' : Int) ≤ s 6 4 - s 7 4 → ∀ S sl, pz_dom n (pz_hs (s 9) n) S → S < 2 ^ (n - 1) → pz_slot bl (pz_hs (s 9) n) S sl → pz_nib (u 147 (128 * (s 6 4 - r').toNat + S)) sl = (pz_ch 536870912 n (s 13) (pz_opc s mh) (s 6 4) (pz_prc s m tk) r' S (pz_lq (pz_hs (s 9) n) ((s 7 5 + 1).toNat) S sl) : Int)) := by
      intro pbw hpbw c
      have hcost : ∀ (r : Nat) (v : px_Z), pz_CL bl n (pz_hs (s 9) n) ((s 7 5 + 1).toNat) (pz_co 536870912 n (s 13) (pz_opc s mh) (s 6 4) (pz_prc s m tk)) r v → v 146 (8 * pz_hs (s 9) n + 0) = pz_co 536870912 n (s 13) (pz_opc s mh) (s 6 4) (pz_prc s m tk) r (pz_hs (s 9) n) ((s 7 5 + 1).toNat) := by
        intro r v hv
        have := hv (pz_hs (s 9) n) 0 hdom (Or.inl ⟨by decide, Or.inl ⟨Or.inr rfl, rfl⟩⟩)
        unfold pz_lq at this
        rw [if_pos rfl] at this
        exact this
      have hix : 0 ≤ ((8 * pz_hs (s 9) n + 0 : Nat) : Int) ∧ ((8 * pz_hs (s 9) n + 0 : Nat) : Int) < 2048 := by omega
      have hw8 : ∀ v : px_Z, v 145 5 = ((pz_hs (s 9) n : Nat) : Int) → px_wr (v 145 5 * 8) = ((8 * pz_hs (s 9) n + 0 : Nat) : Int) := by
        intro v hv
        rw [hv, pz_wr_id (by omega) (by omega)]
        omega
      induction c with
      | zero =>
        intro fu r v hrc hf hRB hCL hPR h9 hCH
        obtain ⟨f, rfl⟩ : ∃ f, fu = f + 1 := ⟨fu - 1, by omega⟩
        rw [l_Least_solve_87, hRB.1.1 7 4 (by decide), if_pos (by omega), hw8 v hRB.1.2.1, if_pos hix, Int.toNat_natCast, hcost r v hCL]
        refine ⟨_, rfl, ⟨⟨pz_ag_up hRB.1.1 (by decide), hRB.1.2.1, hRB.1.2.2.1, hRB.1.2.2.2.1, fun i hi => (pz_up_i (by omega)).trans (hRB.1.2.2.2.2 i hi)⟩, hRB.2.1, hRB.2.2.1, hRB.2.2.2⟩, ?_, fun q => ?_, fun r' h1 S sl h2 h4 h3 => ?_⟩
        · rw [pz_up_s, show (s 6 4 - s 7 4 + 1).toNat = r by omega]
        · rw [pz_up_i (by decide), h9 (by omega), show (s 6 4 - s 7 4).toNat = r - 1 by omega]
        · exact hCH r' (by omega) S sl h2 h4 h3
      | succ c ih =>
        intro fu r v hrc hf hRB hCL hPR h9 hCH
        obtain ⟨f, rfl⟩ : ∃ f, fu = f + 1 := ⟨fu - 1, by omega⟩
        obtain ⟨w, hw⟩ : ∃ w : Nat, s 6 4 - (r : Int) = (w : Int) := ⟨(s 6 4 - (r : Int)).toNat, by omega⟩
        have hw60 : w ≤ 60 := by omega
        have hr60 : r ≤ 60 := by omega
        have hRBw : pz_RB n bh bl tk s (px_up (px_up v 145 7 (w : Int)) 145 12 (pz_co 536870912 n (s 13) (pz_opc s mh) (s 6 4) (pz_prc s m tk) r (pz_hs (s 9) n) ((s 7 5 + 1).toNat))) := ⟨⟨pz_ag_up (pz_ag_up hRB.1.1 (by decide)) (by decide), hRB.1.2.1, hRB.1.2.2.1, hRB.1.2.2.2.1, fun i hi => (pz_up_i (by omega)).trans ((pz_up_i (by omega)).trans (hRB.1.2.2.2.2 i hi))⟩, hRB.2.1, hRB.2.2.1, hRB.2.2.2⟩
        rw [l_Least_solve_87, hw, hRB.1.1 7 4 (by decide), if_neg (by omega), hw8 (px_up v 145 7 (w : Int)) hRB.1.2.1, if_pos hix, Int.toNat_natCast, show (px_up v 145 7 (w : Int)) 146 (8 * pz_hs (s 9) n + 0) = v 146 (8 * pz_hs (s 9) n + 0) from rfl, hcost r v hCL]
        -- prices, then the WEEK
        have hgo : ∀ x : px_Z, pz_RB n bh bl tk s x → x 145 7 = (w : Int) → x 145 12 = pz_co 536870912 n (s 13) (pz_opc s mh) (s 6 4) (pz_prc s m tk) r (pz_hs (s 9) n) ((s 7 5 + 1).toNat) → (∀ p, x 147 p = v 147 p) → pz_CL bl n (pz_hs (s 9) n) ((s 7 5 + 1).toNat) (pz_co 536870912 n (s 13) (pz_opc s mh) (s 6 4) (pz_prc s m tk)) r x → pz_PR n m bh bl tk (s 6 4 - (r : Int)) s n 0 0 x → ∃ u, (f_Least_settleWeek x).bind (fun q15 => l_Least_solve_87 (fun s => if 0 ≤ (px_wr ((s 145 5) * 8)) ∧ (px_wr ((s 145 5) * 8)) < 2048 then some (px_up s 145 11 (s 146 (px_wr ((s 145 5) * 8)).toNat)) else none) f q15 (if pbw then 1 else 0) (px_wr ((w : Int) + (-1)))) = some u ∧ pz_RB n bh bl tk s u ∧ u 145 11 = pz_co 536870912 n (s 13) (pz_opc s mh) (s 6 4) (pz_prc s m tk) (s 6 4 - s 7 4 + 1).toNat (pz_hs (s 9) n) ((s 7 5 + 1).toNat) ∧ (0 < r + (c + 1) → u 145 12 = pz_co 536870912 n (s 13) (pz_opc s mh) (s 6 4) (pz_prc s m tk) (s 6 4 - s 7 4).toNat (pz_hs (s 9) n) ((s 7 5 + 1).toNat)) ∧ (∀ r' : Nat, (r' : Int) ≤ s 6 4 - s 7 4 → ∀ S sl, pz_dom n (pz_hs (s 9) n) S → S < 2 ^ (n - 1) → pz_slot bl (pz_hs (s 9) n) S sl → pz_nib (u 147 (128 * (s 6 4 - r').toNat + S)) sl = (pz_ch 536870912 n (s 13) (pz_opc s mh) (s 6 4) (pz_prc s m tk) r' S (pz_lq (pz_hs (s 9) n) ((s 7 5 + 1).toNat) S sl) : Int)) := by
          intro x hRBx x6 x9 x147 hCLx hPRx
          obtain ⟨y, e1, e2, e3, e4, e5⟩ := pz_settleW (m := m) (mh := mh) hW hmh hRBx hnc hnq hr60 hw hw60 x6 hPRx hCLx
          rw [e1, Option.bind_some, pz_wr_id (x := (w : Int) + -1) (by omega) (by omega), show (w : Int) + -1 = s 6 4 - ((r + 1 : Nat) : Int) by omega]
          have hRBy := pz_RB_ag hRBx (pz_ag_mono e2 (M := [20, 46, 146, 147, 148]) (by decide))
          obtain ⟨u, q1, q2, q3, q4, q5⟩ := ih f (r + 1) y (by omega) (by omega) hRBy e3 (fun _ hpf => by
            intro t c' sl' h1 h2
            rw [e2 148 _ (by decide), hPRx t c' sl' h1 h2]
            exact pz_prc_wk hW hm (hpbw hpf) _ _ _ _ _ _) (fun _ => by
            rw [e2 145 12 (by decide), x9, show r + 1 - 1 = r by omega]) (fun r' h1 S sl h2 h4 h3 => by
            by_cases hrr : r' = r
            · subst hrr
              rw [hw, Int.toNat_natCast]
              exact e4 S sl h2 h4 h3
            · have hhf := pz_half_le hn
              rw [e5 _ (by omega), x147]
              exact hCH r' (by omega) S sl h2 h4 h3)
          exact ⟨u, q1, q2, q3, fun _ => q4 (by omega), q5⟩
        have hCLw : pz_CL bl n (pz_hs (s 9) n) ((s 7 5 + 1).toNat) (pz_co 536870912 n (s 13) (pz_opc s mh) (s 6 4) (pz_prc s m tk)) r (px_up (px_up v 145 7 (w : Int)) 145 12 (pz_co 536870912 n (s 13) (pz_opc s mh) (s 6 4) (pz_prc s m tk) r (pz_hs (s 9) n) ((s 7 5 + 1).toNat))) := hCL
        have hask : ∃ u, (f_Least_askPrices (px_up (px_up v 145 7 (w : Int)) 145 12 (pz_co 536870912 n (s 13) (pz_opc s mh) (s 6 4) (pz_prc s m tk) r (pz_hs (s 9) n) ((s 7 5 + 1).toNat)))).bind (fun q10 => (f_Least_settleWeek q10).bind (fun q15 => l_Least_solve_87 (fun s => if 0 ≤ (px_wr ((s 145 5) * 8)) ∧ (px_wr ((s 145 5) * 8)) < 2048 then some (px_up s 145 11 (s 146 (px_wr ((s 145 5) * 8)).toNat)) else none) f q15 (if pbw then 1 else 0) (px_wr ((w : Int) + (-1))))) = some u ∧ pz_RB n bh bl tk s u ∧ u 145 11 = pz_co 536870912 n (s 13) (pz_opc s mh) (s 6 4) (pz_prc s m tk) (s 6 4 - s 7 4 + 1).toNat (pz_hs (s 9) n) ((s 7 5 + 1).toNat) ∧ (0 < r + (c + 1) → u 145 12 = pz_co 536870912 n (s 13) (pz_opc s mh) (s 6 4) (pz_prc s m tk) (s 6 4 - s 7 4).toNat (pz_hs (s 9) n) ((s 7 5 + 1).toNat)) ∧ (∀ r' : Nat, (r' : Int) ≤ s 6 4 - s 7 4 → ∀ S sl, pz_dom n (pz_hs (s 9) n) S → S < 2 ^ (n - 1) → pz_slot bl (pz_hs (s 9) n) S sl → pz_nib (u 147 (128 * (s 6 4 - r').toNat + S)) sl = (pz_ch 536870912 n (s 13) (pz_opc s mh) (s 6 4) (pz_prc s m tk) r' S (pz_lq (pz_hs (s 9) n) ((s 7 5 + 1).toNat) S sl) : Int)) := by
          obtain ⟨x, a1, a2, a3⟩ := pz_askR (wk := s 6 4 - (r : Int)) hW hm hRBw (by rw [hw]; rfl)
          rw [a1, Option.bind_some]
          exact hgo x (pz_RB_ag hRBw (pz_ag_mono a2 (by decide))) (a2 145 7 (by decide)) (a2 145 12 (by decide)) (fun p => a2 147 p (by decide)) (fun S' sl' h1 h2 => by rw [a2 146 _ (by decide)]; exact hCLw S' sl' h1 h2) a3
        cases pbw with
        | true =>
          rw [if_neg (by decide)]
          exact hask
        | false =>
          rw [if_pos (show (if false = true then (1 : Int) else 0) = 0 by decide), show (px_up (px_up v 145 7 (w : Int)) 145 12 (pz_co 536870912 n (s 13) (pz_opc s mh) (s 6 4) (pz_prc s m tk) r (pz_hs (s 9) n) ((s 7 5 + 1).toNat))) 6 4 = v 6 4 from rfl, hRB.1.1 6 4 (by decide)]
          by_cases hw0 : (w : Int) = s 6 4
          · rw [if_pos hw0]
            exact hask
          · rw [if_neg hw0]
            refine hgo _ hRBw rfl rfl (fun _ => rfl) hCLw (fun t c' sl' h1 h2 => ?_)
            have := hPR (by omega) rfl t c' sl' h1 h2
            show v 148 _ = _
            rw [this]
            exact pz_prc_wk hW hm (hpbw rfl) _ _ _ _ _ _
    obtain ⟨u, q1, q2, q3, q4, q5⟩ := hloop (pz_aks s ks 259) (fun q => pz_aks_no hks q) (s 6 4 - s 7 4 + 1).toNat px_big 0 v2 (by omega) (pz_big_lt (by omega)) hRB2 hCL0 (fun q => absurd q (by omega)) (fun q => absurd q (by omega)) (fun r' h1 => absurd h1 (Nat.not_lt_zero _))
    rw [show s 6 4 - ((0 : Nat) : Int) = s 6 4 by omega] at q1
    have hbu : pz_bl u = bl := by
      unfold pz_bl
      rw [q2.2.2.1]
      cases bl <;> decide
    refine ⟨u, q1, q2.1, fun q => absurd q (by omega), fun _ => ?_⟩
    rw [hbu]
    exact ⟨q3, q4 (by omega), hnq, q5⟩
  · rw [if_neg hle]
    exact ⟨v0, rfl, hRB0, fun _ => h08, fun q => absurd q hle⟩
