/-! LEAST of the class: the whole -/
theorem pz_fillA {u : px_Z} (x : Int) : ∃ u', f_Arrays_fill_3 u x = some u' ∧ pz_ag [146] u u' ∧ (∀ p, p < 2048 → u' 146 p = x) := by
  have hl : ∀ (c fu i : Nat) (v : px_Z), i + c = 2048 → c < fu → pz_ag [146] u v → (∀ p, p < i → v 146 p = x) → ∃ u', l_Arrays_fill_3_5 fu v x (i : Int) 2048 = some u' ∧ pz_ag [146] u u' ∧ (∀ p, p < 2048 → u' 146 p = x) := by
    intro c
    induction c with
    | zero =>
      intro fu i v hi hf hv ht
      obtain ⟨f, rfl⟩ : ∃ f, fu = f + 1 := ⟨fu - 1, by omega⟩
      rw [l_Arrays_fill_3_5, if_pos (by omega)]
      exact ⟨v, rfl, hv, fun p hp => ht p (by omega)⟩
    | succ c ih =>
      intro fu i v hi hf hv ht
      obtain ⟨f, rfl⟩ : ∃ f, fu = f + 1 := ⟨fu - 1, by omega⟩
      rw [l_Arrays_fill_3_5, if_neg (by omega), if_pos (by omega), Int.toNat_natCast, pz_wr_suc (by omega)]
      refine ih f (i + 1) _ (by omega) (by omega) (pz_ag_up hv (by decide)) (fun p hp => ?_)
      rw [pz_up_same]
      split
      · rfl
      · exact ht p (by omega)
  exact hl 2048 px_big 0 u (by omega) (pz_big_lt (by omega)) pz_ag_rf (fun p hp => absurd hp (Nat.not_lt_zero _))
theorem pz_fillB {u : px_Z} {a : Nat} (ha : a < 256) (x : Int) : ∃ u', f_Arrays_fill3_2 u (px_wr ((a : Int) * 8)) (px_wr (px_wr ((a : Int) * 8) + 8)) x = some u' ∧ pz_ag [146] u u' ∧ (∀ p, u' 146 p = if 8 * a ≤ p ∧ p < 8 * a + 8 then x else u 146 p) := by
  have hl : ∀ (c fu i : Nat) (v : px_Z), i + c = 8 * a + 8 → c < fu → 8 * a ≤ i → pz_ag [146] u v → (∀ p, v 146 p = if 8 * a ≤ p ∧ p < i then x else u 146 p) → ∃ u', l_Arrays_fill3_2_7 fu v ((8 * a + 8 : Nat) : Int) x (i : Int) = some u' ∧ pz_ag [146] u u' ∧ (∀ p, u' 146 p = if 8 * a ≤ p ∧ p < 8 * a + 8 then x else u 146 p) := by
    intro c
    induction c with
    | zero =>
      intro fu i v hi hf hb hv ht
      obtain ⟨f, rfl⟩ : ∃ f, fu = f + 1 := ⟨fu - 1, by omega⟩
      rw [l_Arrays_fill3_2_7, if_pos (by omega)]
      have : i = 8 * a + 8 := by omega
      rw [this] at ht
      exact ⟨v, rfl, hv, ht⟩
    | succ c ih =>
      intro fu i v hi hf hb hv ht
      obtain ⟨f, rfl⟩ : ∃ f, fu = f + 1 := ⟨fu - 1, by omega⟩
      rw [l_Arrays_fill3_2_7, if_neg (by omega), if_pos (by omega), Int.toNat_natCast, pz_wr_suc (by omega)]
      refine ih f (i + 1) _ (by omega) (by omega) (by omega) (pz_ag_up hv (by decide)) (fun p => ?_)
      rw [pz_up_same]
      by_cases hp : p = i
      · rw [if_pos hp, if_pos (by omega)]
      · rw [if_neg hp, ht p]
        by_cases hq : 8 * a ≤ p ∧ p < i
        · rw [if_pos hq, if_pos (by omega)]
        · rw [if_neg hq, if_neg (by omega)]
  unfold f_Arrays_fill3_2 f_Arrays_rangeCheck
  rw [pz_wr_id (x := (a : Int) * 8) (by omega) (by omega), pz_wr_id (x := (a : Int) * 8 + 8) (by omega) (by omega), if_pos (by omega), if_pos (by omega), if_pos (by omega), Option.bind_some, show (a : Int) * 8 + 8 = ((8 * a + 8 : Nat) : Int) by omega, show (a : Int) * 8 = ((8 * a : Nat) : Int) by omega]
  exact hl 8 px_big (8 * a) u (by omega) (pz_big_lt (by omega)) (Nat.le_refl _) pz_ag_rf (fun p => by rw [if_neg (by omega)])
theorem pz_asksFor {u : px_Z} {k : Nat} (hk : k ≤ 400) (h1 : u 14 1 = (k : Int)) (x : Int) : f_Law_asksFor u x = some (if (pz_fi (fun i => decide (u 19 i = x)) k 0).isSome then 1 else 0) := by
  have hl : ∀ (r fu i : Nat), i + r = k → r < fu → l_Law_asksFor_2 u fu x (i : Int) = some (if (pz_fi (fun i => decide (u 19 i = x)) r i).isSome then 1 else 0) := by
    intro r
    induction r with
    | zero =>
      intro fu i hi hf
      obtain ⟨f, rfl⟩ : ∃ f, fu = f + 1 := ⟨fu - 1, by omega⟩
      rw [l_Law_asksFor_2, h1, if_pos (by omega)]
      rfl
    | succ r ih =>
      intro fu i hi hf
      obtain ⟨f, rfl⟩ : ∃ f, fu = f + 1 := ⟨fu - 1, by omega⟩
      rw [l_Law_asksFor_2, h1, if_neg (by omega), if_pos (by omega), Int.toNat_natCast, pz_wr_suc (by omega), pz_fi]
      by_cases hq : u 19 i = x
      · rw [if_pos hq, if_pos (decide_eq_true hq)]
        rfl
      · rw [if_neg hq]
        simp only [hq, decide_false, Bool.false_eq_true, if_false]
        exact ih f (i + 1) (by omega) (by omega)
  exact hl k px_big 0 (by omega) (pz_big_lt (by omega))
/-- prices that don't ask for the WEEK -/
theorem pz_prc_wk {n m : Nat} {tk : Int} {s z : px_Z} (hW : pz_W n (pz_wo s) z) (hm : s 14 0 = (m : Int)) (hno : ∀ i : Nat, (i : Int) < s 14 1 → s 19 i ≠ 259) (t : Nat) (wk wk2 : Int) (c q : Nat) : pz_prc s m tk t wk c q = pz_prc s m tk t wk2 c q := by
  obtain ⟨m2, w4a, w4b⟩ := hW.2.2.2.2.1.1
  have hmm : m = m2 := by
    have : s 14 0 = (m2 : Int) := w4a
    omega
  subst hmm
  unfold pz_prc pz_pr
  congr 1
  refine pz_lv_x (size := s 14 1) (fun i k h1 h2 h3 => ?_) m 0 (pz_WL_ln w4b)
  have h4 : k ≠ 3 := fun q => hno i h1 (by rw [h3, q]; rfl)
  rcases (show k = 0 ∨ k = 1 ∨ k = 2 ∨ k = 4 ∨ k = 5 ∨ k = 6 ∨ k = 7 ∨ k = 8 by omega) with rfl | rfl | rfl | rfl | rfl | rfl | rfl | rfl <;> rfl
/-- HOME is among the sets that come up -/
theorem pz_dom_hs {n : Nat} {s z : px_Z} (hW : pz_W n (pz_wo s) z) : pz_dom n (pz_hs (s 9) n) (pz_hs (s 9) n) := by
  have hn := hW.1
  have hlt : pz_hs (s 9) n < 2 ^ n := pz_hs_lt hn
  refine ⟨hlt, Nat.and_self _, ?_⟩
  by_cases h0 : n = 0
  · subst h0
    left
    have : (2 : Nat) ^ 0 = 1 := rfl
    omega
  · by_cases hb : s 9 (n - 1) = 1
    · right
      have hF := hW.2.2.1
      have hk : z 150 (16 + (n - 1)) = 1 := by
        have : s 9 (n - 1) = z 150 (16 + (n - 1)) := (hF.2.2.1 (n - 1) (by omega)).2.1
        rw [← this]; exact hb
      have hall := hF.2.2.2.2 (n - 1) (by omega) hk
      refine Nat.eq_of_testBit_eq (fun i => ?_)
      rw [pz_hs_bit, Nat.testBit_two_pow_sub_one]
      by_cases hi : i < n
      · have : s 9 i = z 150 (16 + i) := (hF.2.2.1 i (by omega)).2.1
        simp [hi, this, hall i hi]
      · simp [hi]
    · left
      refine Nat.lt_of_not_le (fun q => hb ?_)
      have hbit : (pz_hs (s 9) n).testBit (n - 1) = true := by
        have h2 : 2 ^ n = 2 * 2 ^ (n - 1) := by
          rw [← Nat.pow_succ', show (n - 1).succ = n by omega]
        rw [Nat.testBit_eq_decide_div_mod_eq, decide_eq_true_eq]
        have h3 : pz_hs (s 9) n / 2 ^ (n - 1) = 1 := by
          rw [Nat.div_eq_iff (Nat.two_pow_pos _)]
          omega
        rw [h3]
      rw [pz_hs_bit] at hbit
      simp only [Bool.and_eq_true, decide_eq_true_eq] at hbit
      exact hbit.2
theorem pz_solveR {n m mh : Nat} {tk : Int} {s z : px_Z} (hW : pz_W n (pz_wo s) z) (hm : s 14 0 = (m : Int)) (hmh : s 28 0 = (mh : Int)) (hne : s 145 7 ≠ tk) : ∃ u, f_Least_solve s tk = some u ∧ pz_RB n tk s u ∧ (s 6 4 < s 7 4 → u 145 8 = 536870912) ∧ (s 7 4 ≤ s 6 4 → u 145 8 = pz_co 536870912 n (s 13) (pz_opc s mh) (s 6 4) (pz_prc s m tk) (s 6 4 - s 7 4 + 1).toNat (pz_hs (s 9) n) ((s 7 5 + 1).toNat) ∧ u 145 9 = pz_co 536870912 n (s 13) (pz_opc s mh) (s 6 4) (pz_prc s m tk) (s 6 4 - s 7 4).toNat (pz_hs (s 9) n) ((s 7 5 + 1).toNat) ∧ (∀ r : Nat, (r : Int) ≤ s 6 4 - s 7 4 → ∀ S sl, pz_dom n (pz_hs (s 9) n) S → pz_slot (pz_hs (s 9) n) S sl → pz_nib (u 147 (256 * (s 6 4 - r).toNat + S)) sl = (pz_ch 536870912 n (s 13) (pz_opc s mh) (s 6 4) (pz_prc s m tk) r S (pz_lq (pz_hs (s 9) n) ((s 7 5 + 1).toNat) S sl) : Int))) := by
  have hn := hW.1
  have hpw := pz_pow_le hn
  have hlt : pz_hs (s 9) n < 2 ^ n := pz_hs_lt hn
  have hdom := pz_dom_hs hW
  have b1 : s 6 1 = (n : Int) := hW.2.1.1
  obtain ⟨-, r1, r2, r3, r4⟩ := pz_W_nW hW
  have hall : ∀ v : px_Z, v 6 1 = (n : Int) → f_World_all v = ((2 ^ n - 1 : Nat) : Int) := by
    intro v hv
    unfold f_World_all
    rw [hv]; exact (pz_all hn).1
  have hhome : f_World_homeSet (px_up s 145 7 tk) = some ((pz_hs (s 9) n : Nat) : Int) := pz_homeR (s := px_up s 145 7 tk) hn b1
  unfold f_Least_solve
  rw [if_neg hne, hhome, Option.bind_some, hall _ (by exact b1)]
  have hRB0 : pz_RB n tk s (px_up (px_up (px_up (px_up (px_up s 145 7 tk) 145 4 ((pz_hs (s 9) n : Nat) : Int)) 145 5 ((2 ^ n - 1 : Nat) : Int)) 145 8 536870912) 145 9 536870912) := ⟨pz_ag_up (pz_ag_up (pz_ag_up (pz_ag_up (pz_ag_up pz_ag_rf (by decide)) (by decide)) (by decide)) (by decide)) (by decide), rfl, rfl, rfl⟩
  have h08 : (px_up (px_up (px_up (px_up (px_up s 145 7 tk) 145 4 ((pz_hs (s 9) n : Nat) : Int)) 145 5 ((2 ^ n - 1 : Nat) : Int)) 145 8 536870912) 145 9 536870912) 145 8 = 536870912 := rfl
  generalize px_up (px_up (px_up (px_up (px_up s 145 7 tk) 145 4 ((pz_hs (s 9) n : Nat) : Int)) 145 5 ((2 ^ n - 1 : Nat) : Int)) 145 8 536870912) 145 9 536870912 = v0 at hRB0 h08 ⊢
  rw [hRB0.1 7 4 (by decide), hRB0.1 6 4 (by decide)]
  by_cases hle : s 7 4 ≤ s 6 4
  · rw [if_pos hle]
    obtain ⟨v1, f1, f2, f3⟩ := pz_fillA (u := v0) 536870912
    have hRB1 := pz_RB_ag hRB0 (pz_ag_mono f2 (M := [20, 46, 146, 147, 148]) (by decide))
    rw [f1, Option.bind_some, hRB1.2.2.1]
    obtain ⟨v2, g1, g2, g3⟩ := pz_fillB (u := v1) (show 2 ^ n - 1 < 256 by omega) 0
    have hRB2 := pz_RB_ag hRB1 (pz_ag_mono g2 (M := [20, 46, 146, 147, 148]) (by decide))
    obtain ⟨w4a, w4b⟩ : s 14 0 = (m : Int) ∧ pz_WL 0 m (s 14 1) (s 15) (s 16) (s 17) (s 18) (s 19) z := by
      obtain ⟨m2, q1, q2⟩ := hW.2.2.2.2.1.1
      have : m = m2 := by
        have : s 14 0 = (m2 : Int) := q1
        omega
      subst this
      exact ⟨q1, q2⟩
    obtain ⟨ks, hks⟩ : ∃ ks : Nat, s 14 1 = (ks : Int) := ⟨(s 14 1).toNat, by have := w4b.2.1; omega⟩
    have hks400 : ks ≤ 400 := by have := w4b.2.2.1; omega
    have v2s : ∀ c i, c ∉ [20, 46, 145, 146, 147, 148] → v2 c i = s c i := fun c i hc => hRB2.1 c i hc
    have hasks := pz_asksFor (u := v2) hks400 ((v2s 14 1 (by decide)).trans hks) 259
    rw [show v2 19 = s 19 from funext (fun i => v2s 19 i (by decide))] at hasks
    rw [g1, Option.bind_some, hasks, Option.bind_some, v2s 6 4 (by decide)]
    have hCL0 : pz_CL n (pz_hs (s 9) n) ((s 7 5 + 1).toNat) (pz_co 536870912 n (s 13) (pz_opc s mh) (s 6 4) (pz_prc s m tk)) 0 v2 := by
      intro S' sl' h1 h2
      have hs8 : sl' < 8 := by
        rcases h2 with h2 | h2
        · exact h2.1
        · exact h2.2
      have hS' := h1.1
      rw [g3, pz_co]
      by_cases he : S' = 2 ^ n - 1
      · rw [if_pos (by omega), if_pos he]
      · rw [if_neg (by omega), if_neg he, f3 _ (by omega)]
    -- the loop over the WEEKS
    have hloop : ∀ (pbw : Bool), (pbw = false → ∀ i : Nat, (i : Int) < s 14 1 → s 19 i ≠ 259) → ∀ (c fu r : Nat) (v : px_Z), (r : Int) + (c : Int) = s 6 4 - s 7 4 + 1 → c < fu → pz_RB n tk s v → pz_CL n (pz_hs (s 9) n) ((s 7 5 + 1).toNat) (pz_co 536870912 n (s 13) (pz_opc s mh) (s 6 4) (pz_prc s m tk)) r v → (0 < r → pbw = false → pz_PR n m tk (s 6 4) s n 0 0 v) → (0 < r → v 145 9 = pz_co 536870912 n (s 13) (pz_opc s mh) (s 6 4) (pz_prc s m tk) (r - 1) (pz_hs (s 9) n) ((s 7 5 + 1).toNat)) → (∀ r' : Nat, r' < r → ∀ S sl, pz_dom n (pz_hs (s 9) n) S → pz_slot (pz_hs (s 9) n) S sl → pz_nib (v 147 (256 * (s 6 4 - r').toNat + S)) sl = (pz_ch 536870912 n (s 13) (pz_opc s mh) (s 6 4) (pz_prc s m tk) r' S (pz_lq (pz_hs (s 9) n) ((s 7 5 + 1).toNat) S sl) : Int)) → ∃ u, l_Least_solve_61 (fun s => if 0 ≤ (px_wr ((s 145 4) * 8)) ∧ (px_wr ((s 145 4) * 8)) < 2048 then some (px_up s 145 8 (s 146 (px_wr ((s 145 4) * 8)).toNat)) else none) fu v (if pbw then 1 else 0) (s 6 4 - (r : Int)) = some u ∧ pz_RB n tk s u ∧ u 145 8 = pz_co 536870912 n (s 13) (pz_opc s mh) (s 6 4) (pz_prc s m tk) (s 6 4 - s 7 4 + 1).toNat (pz_hs (s 9) n) ((s 7 5 + 1).toNat) ∧ (0 < r + c → u 145 9 = pz_co 536870912 n (s 13) (pz_opc s mh) (s 6 4) (pz_prc s m tk) (s 6 4 - s 7 4).toNat (pz_hs (s 9) n) ((s 7 5 + 1).toNat)) ∧ (∀ r' : Nat, (r' : Int) ≤ s 6 4 - s 7 4 → ∀ S sl, pz_dom n (pz_hs (s 9) n) S → pz_slot (pz_hs (s 9) n) S sl → pz_nib (u 147 (256 * (s 6 4 - r').toNat + S)) sl = (pz_ch 536870912 n (s 13) (pz_opc s mh) (s 6 4) (pz_prc s m tk) r' S (pz_lq (pz_hs (s 9) n) ((s 7 5 + 1).toNat) S sl) : Int)) := by
      intro pbw hpbw c
      have hcost : ∀ (r : Nat) (v : px_Z), pz_CL n (pz_hs (s 9) n) ((s 7 5 + 1).toNat) (pz_co 536870912 n (s 13) (pz_opc s mh) (s 6 4) (pz_prc s m tk)) r v → v 146 (8 * pz_hs (s 9) n + 0) = pz_co 536870912 n (s 13) (pz_opc s mh) (s 6 4) (pz_prc s m tk) r (pz_hs (s 9) n) ((s 7 5 + 1).toNat) := by
        intro r v hv
        have := hv (pz_hs (s 9) n) 0 hdom (Or.inl ⟨by decide, Or.inl ⟨rfl, rfl⟩⟩)
        unfold pz_lq at this
        rw [if_pos rfl] at this
        exact this
      have hix : 0 ≤ ((8 * pz_hs (s 9) n + 0 : Nat) : Int) ∧ ((8 * pz_hs (s 9) n + 0 : Nat) : Int) < 2048 := by omega
      have hw8 : ∀ v : px_Z, v 145 4 = ((pz_hs (s 9) n : Nat) : Int) → px_wr (v 145 4 * 8) = ((8 * pz_hs (s 9) n + 0 : Nat) : Int) := by
        intro v hv
        rw [hv, pz_wr_id (by omega) (by omega)]
        omega
      induction c with
      | zero =>
        intro fu r v hrc hf hRB hCL hPR h9 hCH
        obtain ⟨f, rfl⟩ : ∃ f, fu = f + 1 := ⟨fu - 1, by omega⟩
        rw [l_Least_solve_61, hRB.1 7 4 (by decide), if_pos (by omega), hw8 v hRB.2.1, if_pos hix, Int.toNat_natCast, hcost r v hCL]
        refine ⟨_, rfl, ⟨pz_ag_up hRB.1 (by decide), hRB.2.1, hRB.2.2.1, hRB.2.2.2⟩, ?_, fun q => ?_, fun r' h1 S sl h2 h3 => ?_⟩
        · rw [pz_up_s, show (s 6 4 - s 7 4 + 1).toNat = r by omega]
        · rw [pz_up_i (by decide), h9 (by omega), show (s 6 4 - s 7 4).toNat = r - 1 by omega]
        · exact hCH r' (by omega) S sl h2 h3
      | succ c ih =>
        intro fu r v hrc hf hRB hCL hPR h9 hCH
        obtain ⟨f, rfl⟩ : ∃ f, fu = f + 1 := ⟨fu - 1, by omega⟩
        obtain ⟨w, hw⟩ : ∃ w : Nat, s 6 4 - (r : Int) = (w : Int) := ⟨(s 6 4 - (r : Int)).toNat, by omega⟩
        have hw60 : w ≤ 60 := by omega
        have hr60 : r ≤ 60 := by omega
        have hRBw : pz_RB n tk s (px_up (px_up v 145 6 (w : Int)) 145 9 (pz_co 536870912 n (s 13) (pz_opc s mh) (s 6 4) (pz_prc s m tk) r (pz_hs (s 9) n) ((s 7 5 + 1).toNat))) := ⟨pz_ag_up (pz_ag_up hRB.1 (by decide)) (by decide), hRB.2.1, hRB.2.2.1, hRB.2.2.2⟩
        rw [l_Least_solve_61, hw, hRB.1 7 4 (by decide), if_neg (by omega), hw8 (px_up v 145 6 (w : Int)) hRB.2.1, if_pos hix, Int.toNat_natCast, show (px_up v 145 6 (w : Int)) 146 (8 * pz_hs (s 9) n + 0) = v 146 (8 * pz_hs (s 9) n + 0) from rfl, hcost r v hCL]
        -- prices, then the WEEK
        have hgo : ∀ x : px_Z, pz_RB n tk s x → x 145 6 = (w : Int) → x 145 9 = pz_co 536870912 n (s 13) (pz_opc s mh) (s 6 4) (pz_prc s m tk) r (pz_hs (s 9) n) ((s 7 5 + 1).toNat) → (∀ p, x 147 p = v 147 p) → pz_CL n (pz_hs (s 9) n) ((s 7 5 + 1).toNat) (pz_co 536870912 n (s 13) (pz_opc s mh) (s 6 4) (pz_prc s m tk)) r x → pz_PR n m tk (s 6 4 - (r : Int)) s n 0 0 x → ∃ u, (f_Least_settleWeek x).bind (fun q15 => l_Least_solve_61 (fun s => if 0 ≤ (px_wr ((s 145 4) * 8)) ∧ (px_wr ((s 145 4) * 8)) < 2048 then some (px_up s 145 8 (s 146 (px_wr ((s 145 4) * 8)).toNat)) else none) f q15 (if pbw then 1 else 0) (px_wr ((w : Int) + (-1)))) = some u ∧ pz_RB n tk s u ∧ u 145 8 = pz_co 536870912 n (s 13) (pz_opc s mh) (s 6 4) (pz_prc s m tk) (s 6 4 - s 7 4 + 1).toNat (pz_hs (s 9) n) ((s 7 5 + 1).toNat) ∧ (0 < r + (c + 1) → u 145 9 = pz_co 536870912 n (s 13) (pz_opc s mh) (s 6 4) (pz_prc s m tk) (s 6 4 - s 7 4).toNat (pz_hs (s 9) n) ((s 7 5 + 1).toNat)) ∧ (∀ r' : Nat, (r' : Int) ≤ s 6 4 - s 7 4 → ∀ S sl, pz_dom n (pz_hs (s 9) n) S → pz_slot (pz_hs (s 9) n) S sl → pz_nib (u 147 (256 * (s 6 4 - r').toNat + S)) sl = (pz_ch 536870912 n (s 13) (pz_opc s mh) (s 6 4) (pz_prc s m tk) r' S (pz_lq (pz_hs (s 9) n) ((s 7 5 + 1).toNat) S sl) : Int)) := by
          intro x hRBx x6 x9 x147 hCLx hPRx
          obtain ⟨y, e1, e2, e3, e4, e5⟩ := pz_settleW (m := m) (mh := mh) hW hmh hRBx hr60 hw hw60 x6 hPRx hCLx
          rw [e1, Option.bind_some, pz_wr_id (x := (w : Int) + -1) (by omega) (by omega), show (w : Int) + -1 = s 6 4 - ((r + 1 : Nat) : Int) by omega]
          have hRBy := pz_RB_ag hRBx (pz_ag_mono e2 (M := [20, 46, 146, 147, 148]) (by decide))
          obtain ⟨u, q1, q2, q3, q4, q5⟩ := ih f (r + 1) y (by omega) (by omega) hRBy e3 (fun _ hpf => by
            intro t c' sl' h1 h2
            rw [e2 148 _ (by decide), hPRx t c' sl' h1 h2]
            exact pz_prc_wk hW hm (hpbw hpf) _ _ _ _ _) (fun _ => by
            rw [e2 145 9 (by decide), x9, show r + 1 - 1 = r by omega]) (fun r' h1 S sl h2 h3 => by
            by_cases hrr : r' = r
            · subst hrr
              rw [hw, Int.toNat_natCast]
              exact e4 S sl h2 h3
            · have hSb := h2.1
              rw [e5 _ (by omega), x147]
              exact hCH r' (by omega) S sl h2 h3)
          exact ⟨u, q1, q2, q3, fun _ => q4 (by omega), q5⟩
        have hCLw : pz_CL n (pz_hs (s 9) n) ((s 7 5 + 1).toNat) (pz_co 536870912 n (s 13) (pz_opc s mh) (s 6 4) (pz_prc s m tk)) r (px_up (px_up v 145 6 (w : Int)) 145 9 (pz_co 536870912 n (s 13) (pz_opc s mh) (s 6 4) (pz_prc s m tk) r (pz_hs (s 9) n) ((s 7 5 + 1).toNat))) := hCL
        have hask : ∃ u, (f_Least_askPrices (px_up (px_up v 145 6 (w : Int)) 145 9 (pz_co 536870912 n (s 13) (pz_opc s mh) (s 6 4) (pz_prc s m tk) r (pz_hs (s 9) n) ((s 7 5 + 1).toNat)))).bind (fun q10 => (f_Least_settleWeek q10).bind (fun q15 => l_Least_solve_61 (fun s => if 0 ≤ (px_wr ((s 145 4) * 8)) ∧ (px_wr ((s 145 4) * 8)) < 2048 then some (px_up s 145 8 (s 146 (px_wr ((s 145 4) * 8)).toNat)) else none) f q15 (if pbw then 1 else 0) (px_wr ((w : Int) + (-1))))) = some u ∧ pz_RB n tk s u ∧ u 145 8 = pz_co 536870912 n (s 13) (pz_opc s mh) (s 6 4) (pz_prc s m tk) (s 6 4 - s 7 4 + 1).toNat (pz_hs (s 9) n) ((s 7 5 + 1).toNat) ∧ (0 < r + (c + 1) → u 145 9 = pz_co 536870912 n (s 13) (pz_opc s mh) (s 6 4) (pz_prc s m tk) (s 6 4 - s 7 4).toNat (pz_hs (s 9) n) ((s 7 5 + 1).toNat)) ∧ (∀ r' : Nat, (r' : Int) ≤ s 6 4 - s 7 4 → ∀ S sl, pz_dom n (pz_hs (s 9) n) S → pz_slot (pz_hs (s 9) n) S sl → pz_nib (u 147 (256 * (s 6 4 - r').toNat + S)) sl = (pz_ch 536870912 n (s 13) (pz_opc s mh) (s 6 4) (pz_prc s m tk) r' S (pz_lq (pz_hs (s 9) n) ((s 7 5 + 1).toNat) S sl) : Int)) := by
          obtain ⟨x, a1, a2, a3⟩ := pz_askR (wk := s 6 4 - (r : Int)) hW hm hRBw (by rw [hw]; rfl)
          rw [a1, Option.bind_some]
          exact hgo x (pz_RB_ag hRBw (pz_ag_mono a2 (by decide))) (a2 145 6 (by decide)) (a2 145 9 (by decide)) (fun p => a2 147 p (by decide)) (fun S' sl' h1 h2 => by rw [a2 146 _ (by decide)]; exact hCLw S' sl' h1 h2) a3
        cases pbw with
        | true =>
          rw [if_neg (by decide)]
          exact hask
        | false =>
          rw [if_pos (show (if false = true then (1 : Int) else 0) = 0 by decide), show (px_up (px_up v 145 6 (w : Int)) 145 9 (pz_co 536870912 n (s 13) (pz_opc s mh) (s 6 4) (pz_prc s m tk) r (pz_hs (s 9) n) ((s 7 5 + 1).toNat))) 6 4 = v 6 4 from rfl, hRB.1 6 4 (by decide)]
          by_cases hw0 : (w : Int) = s 6 4
          · rw [if_pos hw0]
            exact hask
          · rw [if_neg hw0]
            refine hgo _ hRBw rfl rfl (fun _ => rfl) hCLw (fun t c' sl' h1 h2 => ?_)
            have := hPR (by omega) rfl t c' sl' h1 h2
            show v 148 _ = _
            rw [this]
            exact pz_prc_wk hW hm (hpbw rfl) _ _ _ _ _
    have hpb : ((pz_fi (fun i => decide (s 19 i = 259)) ks 0).isSome = false → ∀ i : Nat, (i : Int) < s 14 1 → s 19 i ≠ 259) := by
      intro hq i hi he
      cases hq2 : pz_fi (fun i => decide (s 19 i = 259)) ks 0 with
      | some k => rw [hq2] at hq; cases hq
      | none =>
        have := pz_fi_none _ _ hq2 i (Nat.zero_le _) (by omega)
        rw [decide_eq_true he] at this
        cases this
    obtain ⟨u, q1, q2, q3, q4, q5⟩ := hloop (pz_fi (fun i => decide (s 19 i = 259)) ks 0).isSome hpb (s 6 4 - s 7 4 + 1).toNat px_big 0 v2 (by omega) (pz_big_lt (by omega)) hRB2 hCL0 (fun q => absurd q (by omega)) (fun q => absurd q (by omega)) (fun r' h1 => absurd h1 (Nat.not_lt_zero _))
    rw [show s 6 4 - ((0 : Nat) : Int) = s 6 4 by omega] at q1
    exact ⟨u, q1, q2, fun q => absurd q (by omega), fun _ => ⟨q3, q4 (by omega), q5⟩⟩
  · rw [if_neg hle]
    exact ⟨v0, rfl, hRB0, fun _ => h08, fun q => absurd q hle⟩
