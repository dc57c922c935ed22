/-! A PLAN gone through; how long CREDIT lasts -/
theorem pz_waitP {n A : Nat} {K : px_Z → Int → Option (Int × px_Z)} {x4 was : Int} (hx : x4 = 0 ∨ x4 = 1) (hA : A ≤ 20) : ∀ (r fu gu i : Nat) (s z : px_Z), i + r = A → r < fu → r < gu → pz_W n (pz_wo s) z → z 150 5 = 0 → ∃ s' z', l_World_doDeed_36 fu s (A : Int) x4 (i : Int) = some (x4, s') ∧ l_M_goesWeeks_7 K gu z (A : Int) was (i : Int) = K z' was ∧ pz_W n (pz_wo s') z' ∧ pz_ag [7, 8, 9, 10, 11, 45, 20, 27, 46] s s' ∧ pz_ag [151, 155, 174, 175] z z' ∧ z 151 0 ≤ z' 151 0 ∧ (0 < r → z 151 0 < 60 → z 151 0 < z' 151 0) ∧ (60 ≤ z 151 0 → z' 151 0 = z 151 0) := by
  intro r
  induction r with
  | zero =>
    intro fu gu i s z hi hf hg hW h5
    obtain ⟨f, rfl⟩ : ∃ f, fu = f + 1 := ⟨fu - 1, by omega⟩
    obtain ⟨g, rfl⟩ : ∃ g, gu = g + 1 := ⟨gu - 1, by omega⟩
    rw [l_World_doDeed_36, l_M_goesWeeks_7, if_pos (by omega), if_pos hx, if_pos (by omega)]
    exact ⟨s, z, rfl, rfl, hW, pz_ag_rf, pz_ag_rf, Int.le_refl _, fun q => absurd q (by omega), fun _ => rfl⟩
  | succ r ih =>
    intro fu gu i s z hi hf hg hW h5
    obtain ⟨f, rfl⟩ : ∃ f, fu = f + 1 := ⟨fu - 1, by omega⟩
    obtain ⟨g, rfl⟩ : ∃ g, gu = g + 1 := ⟨gu - 1, by omega⟩
    have e4 : s 7 4 = z 151 0 := hW.2.2.1.1.2.2.2.2.1
    rw [l_World_doDeed_36, l_M_goesWeeks_7, e4]
    simp only [if_neg (show ¬ ((A : Int) ≤ (i : Int)) by omega)]
    by_cases hw : 60 ≤ z 151 0
    · rw [if_pos hw, if_pos hw, if_pos hx]
      exact ⟨s, z, rfl, rfl, hW, pz_ag_rf, pz_ag_rf, Int.le_refl _, fun _ q => absurd q (by omega), fun _ => rfl⟩
    · rw [if_neg hw, if_neg hw]
      obtain ⟨b, s2, z2, p1, p2, hW2, p3, p4, p5⟩ := pz_passP hW h5 (by omega)
      rw [p1, p2, Option.bind_some, Option.bind_some, pz_wr_suc (by omega)]
      obtain ⟨s', z', q1, q2, q3, q4, q5, q6, q7, q8⟩ := ih f g (i + 1) s2 z2 (by omega) (by omega) (by omega) hW2 ((p4 150 5 (by decide)).trans h5)
      exact ⟨s', z', q1, q2, q3, pz_ag_tr p3 q4, pz_ag_tr p4 q5, by omega, fun _ _ => by omega, fun q => absurd q hw⟩
theorem pz_doP {n : Nat} {s z : px_Z} (h : pz_W n (pz_wo s) z) (h5 : z 150 5 = 0) {md : Nat} (hm : s 34 0 = (md : Int)) {k : Nat} (hk : k < md) : ∃ (b : Bool) (s' z' : px_Z), f_World_doDeed s (s 35 k) (s 36 k) (s 37 k) = some (if b then 1 else 0, s') ∧ f_M_does z ((3 * k : Nat) : Int) = some (if b then 1 else 0, z') ∧ pz_W n (pz_wo s') z' ∧ pz_ag [7, 8, 9, 10, 11, 45, 20, 27, 46] s s' ∧ pz_ag [151, 155, 174, 175] z z' := by
  have h' := h
  obtain ⟨hn, w1, wF, w3, w4, w5, ⟨md2, w6a, w6b, w6c, w6d⟩, w7, w8⟩ := h
  have hmd : md2 = md := by
    have : s 34 0 = (md2 : Int) := w6b
    omega
  subst hmd
  obtain ⟨d1, d2, d3⟩ := w6d k hk
  have d1' : s 35 k = 280 + z 171 (3 * k) := d1
  have d2' : s 36 k = z 171 (3 * k + 1) := d2
  have k60 : k < 60 := by omega
  have y1 : ((3 * k : Nat) : Int) + 1 = ((3 * k + 1 : Nat) : Int) := by omega
  have y2 : ((3 * k : Nat) : Int) + 2 = ((3 * k + 2 : Nat) : Int) := by omega
  have c0 : 0 ≤ ((3 * k : Nat) : Int) ∧ ((3 * k : Nat) : Int) < 360 := by omega
  have c1 : 0 ≤ ((3 * k + 1 : Nat) : Int) ∧ ((3 * k + 1 : Nat) : Int) < 360 := by omega
  have c2 : 0 ≤ ((3 * k + 2 : Nat) : Int) ∧ ((3 * k + 2 : Nat) : Int) < 360 := by omega
  have eM : f_M_does z ((3 * k : Nat) : Int) = if z 171 (3 * k) = 2 then (f_M_goesWeeks z (z 171 (3 * k + 1))).bind (fun q12 => if q12.1 = 0 ∨ q12.1 = 1 then some (q12.1, q12.2) else none) else (if z 171 (3 * k) = 1 then (f_M_cries z (z 171 (3 * k + 1))).bind (fun q11 => some (1, q11)) else (f_M_canPay z (z 171 (3 * k + 1)) (z 171 (3 * k + 2))).bind (fun q7 => if q7.1 = 0 then some (0, q7.2) else (f_M_pays q7.2 (z 171 (3 * k + 1)) (q7.2 171 (3 * k + 2))).bind (fun q10 => some (1, q10.2)))) := by
    unfold f_M_does
    rw [pz_wr_id (x := ((3 * k : Nat) : Int) + 1) (by omega) (by omega), pz_wr_id (x := ((3 * k : Nat) : Int) + 2) (by omega) (by omega), y1, y2]
    simp only [if_pos c0, if_pos c1, if_pos c2, Int.toNat_natCast]
  rw [eM, d1']
  rcases d3 with ⟨o, d4, d5, d6, d7, d8⟩ | ⟨o, d5, d6⟩
  · -- pay
    have d4' : s 37 k = z 171 (3 * k + 2) := d4
    have d5' : 0 ≤ s 36 k := d5
    have d6' : s 36 k < (n : Int) := d6
    obtain ⟨t, ht⟩ : ∃ t : Nat, s 36 k = (t : Int) := ⟨(s 36 k).toNat, by omega⟩
    have ht' : z 171 (3 * k + 1) = (t : Int) := d2'.symm.trans ht
    have htn : t < n := by omega
    rw [o, if_neg (by decide), if_neg (by decide), ht, ht', ← d4']
    unfold f_World_doDeed
    rw [if_neg (by decide), if_pos (by decide)]
    obtain ⟨b, u, y, g1, g2, hu, hy, hb⟩ := pz_canP h' htn (s 37 k)
    have hu' : pz_ag [7, 8, 9, 10, 11, 45, 20, 27, 46] s u := pz_ag_mono hu (by decide)
    have hy' : pz_ag [151, 155, 174, 175] z y := pz_ag_mono hy (by decide)
    have hW1 := pz_W_price h' hu hy
    rw [g1, g2, Option.bind_some, Option.bind_some]
    cases b with
    | false => exact ⟨false, u, y, rfl, rfl, hW1, hu', hy'⟩
    | true =>
      obtain ⟨hc, hp⟩ := hb rfl
      simp only [if_true]
      rw [if_neg (by decide), if_neg (by decide)]
      have k13 : u 13 = s 13 := funext (fun i => hu 13 i (by decide))
      have k9 : u 9 = s 9 := funext (fun i => hu 9 i (by decide))
      obtain ⟨x, s2, z2, e3, e4, hW3, q1, q2⟩ := pz_payP hW1 ((hy 150 5 (by decide)).trans h5) htn hp (by rw [k13, k9]; exact hc)
      have hy170 : y 171 (3 * k + 2) = s 37 k := (hy 171 _ (by decide)).trans d4'.symm
      rw [e3, hy170, e4, Option.bind_some, Option.bind_some]
      exact ⟨true, s2, z2, rfl, rfl, hW3, pz_ag_tr hu' q1, pz_ag_tr hy' q2⟩
  · have d5' : 1 ≤ s 36 k := d5
    have d6' : s 36 k ≤ 20 := d6
    rcases o with o | o
    · -- cry
      rw [o, if_neg (by decide), if_pos (by decide), ← d2']
      unfold f_World_doDeed
      rw [if_pos (by decide)]
      obtain ⟨s', z', e1, e2, hW2, q1, q2⟩ := pz_cryP h' h5 (b := s 36 k) ⟨d5', d6'⟩
      rw [e1, e2, Option.bind_some, Option.bind_some]
      exact ⟨true, s', z', rfl, rfl, hW2, pz_ag_mono q1 (by decide), pz_ag_mono q2 (by decide)⟩
    · -- wait
      rw [o, if_pos (by decide), ← d2']
      unfold f_World_doDeed j_World_doDeed_j33 f_M_goesWeeks
      rw [if_neg (by decide), if_neg (by decide)]
      have e4 : s 7 4 = z 151 0 := wF.1.2.2.2.2.1
      obtain ⟨A, hA⟩ : ∃ A : Nat, s 36 k = (A : Int) := ⟨(s 36 k).toNat, by omega⟩
      have hA20 : A ≤ 20 := by omega
      rw [hA, e4]
      by_cases hw : 60 ≤ z 151 0
      · rw [if_pos hw]
        obtain ⟨s', z', q1, q2, q3, q4, q5, q6, q7, q8⟩ := pz_waitP (n := n) (K := fun s x2 => if (s 151 0) ≤ (x2) then some (0, s) else some (1, s)) (x4 := 0) (was := z 151 0) (Or.inl rfl) hA20 A px_big px_big 0 s z (by omega) (pz_big_lt (by omega)) (pz_big_lt (by omega)) h' h5
        rw [show ((0 : Nat) : Int) = 0 from rfl] at q1 q2
        rw [q1, q2]
        rw [if_pos (show z' 151 0 ≤ z 151 0 by rw [q8 hw]; exact Int.le_refl _)]
        exact ⟨false, s', z', rfl, rfl, q3, q4, q5⟩
      · rw [if_neg hw]
        obtain ⟨s', z', q1, q2, q3, q4, q5, q6, q7, q8⟩ := pz_waitP (n := n) (K := fun s x2 => if (s 151 0) ≤ (x2) then some (0, s) else some (1, s)) (x4 := 1) (was := z 151 0) (Or.inr rfl) hA20 A px_big px_big 0 s z (by omega) (pz_big_lt (by omega)) (pz_big_lt (by omega)) h' h5
        rw [show ((0 : Nat) : Int) = 0 from rfl] at q1 q2
        rw [q1, q2]
        have := q7 (by omega) (by omega)
        rw [if_neg (show ¬ (z' 151 0 ≤ z 151 0) by omega)]
        exact ⟨true, s', z', rfl, rfl, q3, q4, q5⟩
theorem pz_w3 {k : Nat} (h : k < 100) : px_wr (3 * (k : Int)) = ((3 * k : Nat) : Int) := by rw [pz_wr_id (by omega) (by omega)]; omega
theorem pz_goesP {n md : Nat} (hmd : md ≤ 60) : ∀ (r fu gu i c : Nat) (s z : px_Z), i + r = md → c ≤ i → r < fu → r < gu → s 34 0 = (md : Int) → z 150 43 = (md : Int) → pz_W n (pz_wo s) z → z 150 5 = 0 → ∃ a s' z', l_R_goes_6 fu s (c : Int) (i : Int) = some (a, s') ∧ l_M_goes_9 gu z (c : Int) (i : Int) = some (a, z') ∧ pz_W n (pz_wo s') z' ∧ pz_ag [7, 8, 9, 10, 11, 45, 20, 27, 46] s s' ∧ pz_ag [151, 155, 174, 175] z z' := by
  intro r
  induction r with
  | zero =>
    intro fu gu i c s z hi hc hf hg h1 h2 hW h5
    obtain ⟨f, rfl⟩ : ∃ f, fu = f + 1 := ⟨fu - 1, by omega⟩
    obtain ⟨g, rfl⟩ : ∃ g, gu = g + 1 := ⟨gu - 1, by omega⟩
    rw [l_R_goes_6, l_M_goes_9, h1, h2, if_pos (by omega), if_pos (by omega)]
    exact ⟨_, s, z, rfl, rfl, hW, pz_ag_rf, pz_ag_rf⟩
  | succ r ih =>
    intro fu gu i c s z hi hc hf hg h1 h2 hW h5
    obtain ⟨f, rfl⟩ : ∃ f, fu = f + 1 := ⟨fu - 1, by omega⟩
    obtain ⟨g, rfl⟩ : ∃ g, gu = g + 1 := ⟨gu - 1, by omega⟩
    obtain ⟨b, s2, z2, p1, p2, hW2, p3, p4⟩ := pz_doP hW h5 h1 (k := i) (by omega)
    rw [l_R_goes_6, l_M_goes_9, h1, h2, pz_w3 (by omega), p2, Int.toNat_natCast, p1]
    simp only [if_neg (show ¬ ((md : Int) ≤ (i : Int)) by omega), if_neg (show ¬ ((60 : Int) ≤ (i : Int)) by omega), if_pos (show 0 ≤ (i : Int) ∧ (i : Int) < 60 by omega), Option.bind_some]
    rw [pz_wr_suc (i := i) (by omega), pz_wr_suc (i := c) (by omega)]
    have hgo : ∀ c' : Nat, c' ≤ i + 1 → ∃ a s' z', l_R_goes_6 f s2 (c' : Int) ((i + 1 : Nat) : Int) = some (a, s') ∧ l_M_goes_9 g z2 (c' : Int) ((i + 1 : Nat) : Int) = some (a, z') ∧ pz_W n (pz_wo s') z' ∧ pz_ag [7, 8, 9, 10, 11, 45, 20, 27, 46] s s' ∧ pz_ag [151, 155, 174, 175] z z' := by
      intro c' hc'
      obtain ⟨a, s', z', q1, q2, q3, q4, q5⟩ := ih f g (i + 1) c' s2 z2 (by omega) hc' (by omega) (by omega) ((p3 34 0 (by decide)).trans h1) ((p4 150 43 (by decide)).trans h2) hW2 ((p4 150 5 (by decide)).trans h5)
      exact ⟨a, s', z', q1, q2, q3, pz_ag_tr p3 q4, pz_ag_tr p4 q5⟩
    cases b with
    | false => exact hgo c (by omega)
    | true => exact hgo (c + 1) (by omega)
theorem po_goes {s : px_Z} (h : pz_I s) : pz_op (f_R_goes s) (fun u => f_M_goes u) := by
  refine pz_deed (R := fun s => f_R_goes s) h (fun n z hD => ?_)
  have hD0 := pz_D_told hD
  show ∃ a s' z', f_R_goes s = _ ∧ f_M_goes z = _ ∧ _
  obtain ⟨s1, z1, e1, e2, hW1, hU1, h7, f1, f2⟩ := pz_remP hD0.1 hD0.2.1
  have h5 : z1 150 5 = 0 := (f2 150 5 (by decide) (by decide)).trans hD0.2.2
  obtain ⟨md, w6a, w6b, w6c, w6d⟩ := hW1.2.2.2.2.2.2.1
  obtain ⟨a, s', z', q1, q2, q3, q4, q5⟩ := pz_goesP w6a md px_big px_big 0 0 s1 z1 (by omega) (by omega) (pz_big_lt (by omega)) (pz_big_lt (by omega)) w6b w6c hW1 h5
  unfold f_R_goes f_M_goes
  rw [e1, e2, Option.bind_some, Option.bind_some]
  exact ⟨a, s', z', q1, q2, q3, pz_ag_U2 hU1 q4 q5, Or.inl (pz_fg_of (q4 145 10 (by decide)) (q4 145 13 (by decide)) h7), pz_ek_tr (pz_rem_DR f1) (pz_ag_DR q4), pz_ek_tr pz_kDM_told (pz_ek_tr (pz_rem_DM f2) (pz_ag_DM q5))⟩
/-! how long CREDIT lasts -/
theorem pz_wearsM {n m : Nat} {ln : Nat → Nat → Int} {code : Nat → Int} (hn : n ≤ 8) : ∀ (r gu i : Nat) (z : px_Z), i + r = n → r < gu → z 150 6 = (n : Int) → 0 ≤ z 151 6 ∧ z 151 6 ≤ 8 → pz_LR 1 m ln code z → (∀ t, t < 8 → 0 ≤ z 151 (8 + t) ∧ z 151 (8 + t) ≤ 99) → ∃ z', l_M_wears_2 gu z (i : Int) = some z' ∧ pz_ag [151, 174, 175] z z' ∧ (∀ j, j < 8 ∨ 16 ≤ j → z' 151 j = z 151 j) ∧ (∀ t, t < 8 → 0 ≤ z' 151 (8 + t) ∧ z' 151 (8 + t) ≤ 99) := by
  intro r
  induction r with
  | zero =>
    intro gu i z hi hg b2 hla hLR hw
    obtain ⟨g, rfl⟩ : ∃ g, gu = g + 1 := ⟨gu - 1, by omega⟩
    rw [l_M_wears_2, b2, if_pos (by omega)]
    exact ⟨z, rfl, pz_ag_rf, fun _ _ => rfl, hw⟩
  | succ r ih =>
    intro gu i z hi hg b2 hla hLR hw
    obtain ⟨g, rfl⟩ : ∃ g, gu = g + 1 := ⟨gu - 1, by omega⟩
    have hi8 : i < 8 := by omega
    have hhome : f_M_isHome z (i : Int) = some (if z 151 (16 + i) = 1 then 1 else 0) := by
      unfold f_M_isHome
      rw [pz_wr_id (by omega) (by omega), if_pos (by omega), show (16 + (i : Int)).toNat = 16 + i by omega]
      split <;> rfl
    rw [l_M_wears_2, b2, if_neg (by omega), hhome, Option.bind_some, pz_i1, pz_wr_suc (by omega)]
    by_cases h1 : z 151 (16 + i) = 1
    · rw [if_pos h1]
      exact ih g (i + 1) z (by omega) (by omega) b2 hla hLR hw
    · rw [if_neg h1]
      obtain ⟨y1, a1, a2, a3⟩ := pz_asks (s := z) (n := n) (t := i) hn b2 hla hi8
      have hLR' : pz_LR 1 m ln code y1 := pz_LR_ag hLR a2 (fun c hc' => by rw [List.mem_singleton] at hc'; omega)
      obtain ⟨y, y2, y3⟩ := pz_tells (s := y1) (j := 1) (by decide) hLR' a3 1 1 0 20
      have y2' : f_M_lawTells y1 1 1 1 0 20 = _ := y2
      have hy' : pz_ag [174, 175] z y := pz_ag_tr (pz_ag_mono a2 (by decide)) (pz_ag_mono y3 (by decide))
      have p40 : 0 ≤ ((8 + i : Nat) : Int) ∧ ((8 + i : Nat) : Int) < 40 := by omega
      rw [a1, Option.bind_some, y2', Option.bind_some]
      simp only [pz_w8 hi8, if_pos p40, Int.toNat_natCast]
      rw [pz_heldM]
      have hrg : ∀ x : Int, 0 ≤ pz_cl x 0 99 ∧ pz_cl x 0 99 ≤ 99 := by
        intro x
        unfold pz_cl
        repeat' split
        all_goals omega
      suffices hh : ∀ X : Int, 0 ≤ X ∧ X ≤ 99 → ∃ z', l_M_wears_2 g (px_up y 151 (8 + i) X) ((i + 1 : Nat) : Int) = some z' ∧ pz_ag [151, 174, 175] z z' ∧ (∀ j, j < 8 ∨ 16 ≤ j → z' 151 j = z 151 j) ∧ (∀ t, t < 8 → 0 ≤ z' 151 (8 + t) ∧ z' 151 (8 + t) ≤ 99) from hh _ (hrg _)
      intro X hX
      have e6 : px_up y 151 (8 + i) X 151 6 = z 151 6 := (pz_up_i (by omega)).trans (hy' 151 6 (by decide))
      obtain ⟨z', q1, q2, q3, q4⟩ := ih g (i + 1) (px_up y 151 (8 + i) X) (by omega) (by omega) ((hy' 150 6 (by decide)).trans b2) (by rw [e6]; exact hla) (pz_LR_ag hLR (pz_ag_up (pz_ag_mono hy' (M := [151, 174, 175]) (by decide)) (by decide)) (fun c hc' => by simp only [List.mem_cons, List.not_mem_nil, or_false] at hc'; omega)) (fun t ht => by
        rw [pz_up_same]
        split
        · exact hX
        · rw [hy' 151 _ (by decide)]; exact hw t ht)
      refine ⟨z', q1, pz_ag_tr (pz_ag_up (pz_ag_mono hy' (by decide)) (by decide)) q2, fun j hj => ?_, q4⟩
      rw [q3 j hj, pz_up_i (by omega)]
      exact hy' 151 j (by decide)
/-- a WEEK in thought -/
theorem pz_thinkW {z : px_Z} {n m : Nat} {ln : Nat → Nat → Int} {code : Nat → Int} (hn : n ≤ 8) (h1 : z 150 6 = (n : Int)) (hla : 0 ≤ z 151 6 ∧ z 151 6 ≤ 8) (h5 : z 150 5 = 1) (hLR : pz_LR 1 m ln code z) (ht : ∀ (z' : px_Z) (wd wo : Int), pz_ag [151, 155, 174, 175] z z' → (∀ a, a ≤ 8 → a ≠ 4 → a ≠ 6 → z' 174 a = pz_gv 0 0 0 (z' 174 3) (z' 174 5) 0 (z' 174 8) 0 0 (pz_pm a)) → ∃ y, f_M_lawTells z' 1 wd wo 0 99 = some (pz_ea m ln code (265 + wd) wo (z' 174 3) (z' 174 5) (z' 174 8), y) ∧ pz_ag [175] z' y) (hw : ∀ t, t < 8 → 0 ≤ z 151 (8 + t) ∧ z 151 (8 + t) ≤ 99) (hcr : 0 ≤ z 151 4 ∧ z 151 4 ≤ 9999) (hcs : 0 ≤ z 151 5 ∧ z 151 5 ≤ 99) (hwk : 0 ≤ z 151 0 ∧ z 151 0 ≤ 1000) : ∃ z', f_M_goesBy z = some (0, z') ∧ pz_ag [151, 174, 175] z z' ∧ z' 151 0 = z 151 0 + 1 ∧ z' 151 4 = pz_cl (z 151 4 - pz_ea m ln code 267 1 (z 151 0) (z 151 5) (z 151 4)) 0 9999 ∧ z' 151 5 = pz_cl (z 151 5 - 1) 0 99 ∧ z' 151 6 = z 151 6 ∧ (∀ t, t < 8 → 0 ≤ z' 151 (8 + t) ∧ z' 151 (8 + t) ≤ 99) := by
  obtain ⟨z1, a1, a2, a3, a4⟩ := pz_wearsM hn n px_big 0 z (by omega) (pz_big_lt (by omega)) h1 hla hLR hw
  have a1' : f_M_wears z = some z1 := a1
  have k0 := a3 0 (Or.inl (by decide))
  have k4 := a3 4 (Or.inl (by decide))
  have k5 := a3 5 (Or.inl (by decide))
  have k6 := a3 6 (Or.inl (by decide))
  obtain ⟨y1, y2, m1, m2, m3, m4⟩ := pz_eatM (z := z1) hn ((a2 150 6 (by decide)).trans h1) (by rw [k6]; exact hla) (fun z' wd wo hz hg => ht z' wd wo (pz_ag_tr (pz_ag_mono a2 (by decide)) hz) hg) 2 1
  have hea := pz_ea_rg (m := m) (ln := ln) (code := code) (wd := 267) (wo := 1) (w := z 151 0) (c := z 151 5) (cr := z 151 4)
  rw [k0, k5, k4] at m3
  have m3' : f_M_lawTells y1 1 2 1 0 99 = some (pz_ea m ln code 267 1 (z 151 0) (z 151 5) (z 151 4), y2) := m3
  generalize pz_ea m ln code 267 1 (z 151 0) (z 151 5) (z 151 4) = ea at m3' hea ⊢
  have y14 : y1 151 4 = z 151 4 := (m2 151 4 (by decide)).trans k4
  have y25 : y2 150 5 = 1 := (m4 150 5 (by decide)).trans ((a2 150 5 (by decide)).trans h5)
  have y2c : y2 151 5 = z 151 5 := (m4 151 5 (by decide)).trans k5
  have y20 : y2 151 0 = z 151 0 := (m4 151 0 (by decide)).trans k0
  have eE : f_M_eats z1 = some (px_up y2 151 4 (pz_cl (z 151 4 - ea) 0 9999)) := by
    unfold f_M_eats
    rw [m1, Option.bind_some, m3', Option.bind_some]
    dsimp only
    rw [pz_heldM, y14, pz_wr_id (by omega) (by omega), if_neg (show ¬ ((px_up y2 151 4 (pz_cl (z 151 4 - ea) 0 9999)) 150 5 = 0) by
      rw [show (px_up y2 151 4 (pz_cl (z 151 4 - ea) 0 9999)) 150 5 = y2 150 5 from rfl, y25]; decide)]
  have eR : f_M_isRobbed (px_up y2 151 4 (pz_cl (z 151 4 - ea) 0 9999)) = some (0, px_up y2 151 4 (pz_cl (z 151 4 - ea) 0 9999)) := by
    unfold f_M_isRobbed
    rw [if_neg (show ¬ ((px_up y2 151 4 (pz_cl (z 151 4 - ea) 0 9999)) 150 5 = 0) by
      rw [show (px_up y2 151 4 (pz_cl (z 151 4 - ea) 0 9999)) 150 5 = y2 150 5 from rfl, y25]; decide)]
  refine ⟨px_up (px_up (px_up y2 151 4 (pz_cl (z 151 4 - ea) 0 9999)) 151 5 (pz_cl (z 151 5 - 1) 0 99)) 151 0 (z 151 0 + 1), ?_, ?_, rfl, rfl, rfl, ?_, fun t ht' => ?_⟩
  · unfold f_M_goesBy
    rw [a1', Option.bind_some, eE, Option.bind_some, eR, Option.bind_some]
    dsimp only
    rw [if_pos (Or.inl rfl), pz_heldM, show (px_up y2 151 4 (pz_cl (z 151 4 - ea) 0 9999)) 151 5 = y2 151 5 from rfl, y2c, pz_wr_id (x := z 151 5 - 1) (by omega) (by omega), show (px_up (px_up y2 151 4 (pz_cl (z 151 4 - ea) 0 9999)) 151 5 (pz_cl (z 151 5 - 1) 0 99)) 151 0 = y2 151 0 from rfl, y20, pz_wr_id (by omega) (by omega)]
  · exact pz_ag_up (pz_ag_up (pz_ag_up (pz_ag_tr a2 (pz_ag_mono m4 (by decide))) (by decide)) (by decide)) (by decide)
  · exact (m4 151 6 (by decide)).trans k6
  · rw [pz_up_i (by omega), pz_up_i (by omega), pz_up_i (by omega), m4 151 _ (by decide)]
    exact a4 t ht'
theorem pz_thinks {z : px_Z} : ∃ y, f_M_thinks z = some y ∧ y 150 5 = 1 ∧ (∀ c i, c ≠ 153 → ¬ (c = 150 ∧ i = 5) → y c i = z c i) ∧ (∀ i, i < 40 → y 153 i = z 151 i) := by
  have hl : ∀ (m fu i : Nat) (z1 : px_Z), i + m = 40 → m < fu → pz_ag [153] z z1 → (∀ j, j < i → z1 153 j = z 151 j) → ∃ y, l_M_thinks_2 fu z1 (i : Int) = some y ∧ y 150 5 = 1 ∧ (∀ c i, c ≠ 153 → ¬ (c = 150 ∧ i = 5) → y c i = z c i) ∧ (∀ i, i < 40 → y 153 i = z 151 i) := by
    intro m
    induction m with
    | zero =>
      intro fu i z1 hi hf hz ha
      obtain ⟨f, rfl⟩ : ∃ f, fu = f + 1 := ⟨fu - 1, by omega⟩
      rw [l_M_thinks_2, if_pos (by omega)]
      refine ⟨_, rfl, rfl, fun c j h1 h2 => ?_, fun j hj => ha j (by omega)⟩
      rw [pz_up_get, if_neg h2]
      exact hz c j (by simp only [List.mem_singleton]; exact h1)
    | succ m ih =>
      intro fu i z1 hi hf hz ha
      obtain ⟨f, rfl⟩ : ∃ f, fu = f + 1 := ⟨fu - 1, by omega⟩
      rw [l_M_thinks_2, if_neg (by omega), if_pos (by omega), if_pos (by omega), Int.toNat_natCast, pz_wr_suc (by omega), hz 151 i (by decide)]
      refine ih f (i + 1) _ (by omega) (by omega) (pz_ag_up hz (by decide)) (fun j hj => ?_)
      rw [pz_up_same]
      by_cases hji : j = i
      · subst hji; rw [if_pos rfl]
      · rw [if_neg hji]; exact ha j (by omega)
  exact hl 40 px_big 0 z (by omega) (pz_big_lt (by omega)) pz_ag_rf (fun j hj => by omega)
theorem pz_ends {z : px_Z} : ∃ y, f_M_endsThought z = some y ∧ y 150 5 = 0 ∧ (∀ c i, c ≠ 151 → ¬ (c = 150 ∧ i = 5) → y c i = z c i) ∧ (∀ i, i < 40 → y 151 i = z 153 i) := by
  have hl : ∀ (m fu i : Nat) (z1 : px_Z), i + m = 40 → m < fu → pz_ag [151] z z1 → (∀ j, j < i → z1 151 j = z 153 j) → ∃ y, l_M_endsThought_2 fu z1 (i : Int) = some y ∧ y 150 5 = 0 ∧ (∀ c i, c ≠ 151 → ¬ (c = 150 ∧ i = 5) → y c i = z c i) ∧ (∀ i, i < 40 → y 151 i = z 153 i) := by
    intro m
    induction m with
    | zero =>
      intro fu i z1 hi hf hz ha
      obtain ⟨f, rfl⟩ : ∃ f, fu = f + 1 := ⟨fu - 1, by omega⟩
      rw [l_M_endsThought_2, if_pos (by omega)]
      refine ⟨_, rfl, rfl, fun c j h1 h2 => ?_, fun j hj => ha j (by omega)⟩
      rw [pz_up_get, if_neg h2]
      exact hz c j (by simp only [List.mem_singleton]; exact h1)
    | succ m ih =>
      intro fu i z1 hi hf hz ha
      obtain ⟨f, rfl⟩ : ∃ f, fu = f + 1 := ⟨fu - 1, by omega⟩
      rw [l_M_endsThought_2, if_neg (by omega), if_pos (by omega), if_pos (by omega), Int.toNat_natCast, pz_wr_suc (by omega), hz 153 i (by decide)]
      refine ih f (i + 1) _ (by omega) (by omega) (pz_ag_up hz (by decide)) (fun j hj => ?_)
      rw [pz_up_same]
      by_cases hji : j = i
      · subst hji; rw [if_pos rfl]
      · rw [if_neg hji]; exact ha j (by omega)
  exact hl 40 px_big 0 z (by omega) (pz_big_lt (by omega)) pz_ag_rf (fun j hj => by omega)
theorem po_lasts {s : px_Z} (h : pz_I s) : pz_op (f_R_lasts s) (fun u => f_M_lasts u) := by
  have h' := h
  obtain ⟨n, hW, hU, hM, hT, hX, hC⟩ := h
  have hn := hW.1
  have hF := hW.2.2.1
  have hg := hF.2.1
  have e4 : s 7 4 = s 151 0 := hF.1.2.2.2.2.1
  have e3 : s 7 3 = s 151 5 := hF.1.2.2.2.1
  have e2 : s 7 2 = s 151 4 := hF.1.2.2.1
  have g4 : 0 ≤ s 151 4 ∧ s 151 4 ≤ 9999 := ⟨hg.1, hg.2.1⟩
  have g5 : 0 ≤ s 151 5 ∧ s 151 5 ≤ 99 := ⟨hg.2.2.1, hg.2.2.2.1⟩
  have g0 : 0 ≤ s 151 0 ∧ s 151 0 ≤ 60 := ⟨hg.2.2.2.2.1, hg.2.2.2.2.2.1⟩
  have g6 : 0 ≤ s 151 6 ∧ s 151 6 ≤ 8 := by omega
  -- both loops, for any state of the reference that starts alike
  have hpair : ∀ z : px_Z, pz_W n (pz_wo s) z → (∀ i, i < 40 → z 151 i = s 151 i) → ∃ a s', pz_ag [27, 46] s s' ∧ f_R_lasts s = some (a, s') ∧ ∃ z', f_M_lasts z = some (a, z') ∧ z' 150 5 = 0 ∧ (∀ i, i < 40 → z' 151 i = z 151 i) ∧ (∀ c i, c ≠ 151 → c ≠ 153 → c ≠ 174 → c ≠ 175 → ¬ (c = 150 ∧ (i = 0 ∨ i = 5)) → z' c i = z c i) := by
    intro z hWz hz
    obtain ⟨y, t1, t2, t3, t4⟩ := pz_thinks (z := px_up z 150 0 0)
    have hWy : pz_W n (pz_wo s) y := by
      refine pz_W_ek hWz pz_ek_rf (fun c i hk => ?_)
      rw [t3 c i (fun q => by rw [q] at hk; cases hk) (fun q => by rw [q.1, q.2] at hk; cases hk), pz_up_get, if_neg (fun q => by rw [q.1, q.2] at hk; cases hk)]
    have hy150 : ∀ i, i < 40 → y 151 i = s 151 i := fun i hi => (t3 151 i (by decide) (by omega)).trans (hz i hi)
    obtain ⟨m, ln, code, hLR, hR, hMt⟩ := pz_second hWy
    have hloop : ∀ (r fu gu i : Nat) (u w : px_Z) (cr : Int), i + r = 61 → r < fu → r < gu → pz_ag [27, 46] s u → pz_ag [151, 174, 175] y w → 0 ≤ cr ∧ cr ≤ 9999 → w 151 4 = cr → w 151 5 = pz_cl (s 151 5 - (i : Int)) 0 99 → w 151 0 = s 151 0 + (i : Int) → w 151 6 = s 151 6 → (∀ t, t < 8 → 0 ≤ w 151 (8 + t) ∧ w 151 (8 + t) ≤ 99) → ∃ (a : Int) (u' w' : px_Z) (k : Nat), l_World_creditLasts_6 fu u cr (i : Int) = some (a, u') ∧ l_M_lasts_7 (fun s x1 => (f_M_endsThought s).bind (fun q5 => if (x1) ≤ (60) then some (x1, q5) else some (((-1), q5)))) gu w (i : Int) = (f_M_endsThought w').bind (fun q5 => if ((k : Int)) ≤ (60) then some ((k : Int), q5) else some (((-1), q5))) ∧ (a = if ((k : Int)) ≤ 60 then (k : Int) else -1) ∧ pz_ag [27, 46] s u' ∧ pz_ag [151, 174, 175] y w' := by
      intro r
      induction r with
      | zero =>
        intro fu gu i u w cr hi hf hg' hu hw hcr q4 q5 q0 q6 qw
        obtain ⟨f, rfl⟩ : ∃ f, fu = f + 1 := ⟨fu - 1, by omega⟩
        obtain ⟨g, rfl⟩ : ∃ g, gu = g + 1 := ⟨gu - 1, by omega⟩
        rw [l_World_creditLasts_6, if_pos (by omega), l_M_lasts_7]
        refine ⟨-1, u, w, i, rfl, ?_, by rw [if_neg (by omega)], hu, hw⟩
        by_cases c1 : w 151 4 ≤ 0
        · rw [if_pos c1]
        · rw [if_neg c1, if_pos (by omega)]
      | succ r ih =>
        intro fu gu i u w cr hi hf hg' hu hw hcr q4 q5 q0 q6 qw
        obtain ⟨f, rfl⟩ : ∃ f, fu = f + 1 := ⟨fu - 1, by omega⟩
        obtain ⟨g, rfl⟩ : ∃ g, gu = g + 1 := ⟨gu - 1, by omega⟩
        rw [l_World_creditLasts_6, if_neg (by omega), l_M_lasts_7, q4]
        by_cases c1 : cr = 0
        · rw [if_pos c1, if_pos (by omega)]
          exact ⟨(i : Int), u, w, i, rfl, rfl, by rw [if_pos (by omega)], hu, hw⟩
        · rw [if_neg c1, if_neg (by omega), if_neg (by omega)]
          have hcl : 0 ≤ pz_cl (s 151 5 - (i : Int)) 0 99 ∧ pz_cl (s 151 5 - (i : Int)) 0 99 ≤ 99 := by
            unfold pz_cl
            repeat' split
            all_goals omega
          obtain ⟨w2, p1, p2, p3, p4, p5, p6, p7⟩ := pz_thinkW (z := w) (m := m) (ln := ln) (code := code) hn ((hw 150 6 (by decide)).trans hWy.2.1.2.1) (by rw [q6]; exact g6) ((hw 150 5 (by decide)).trans t2) (pz_LR_ag hLR hw (fun c hc' => by simp only [List.mem_cons, List.not_mem_nil, or_false] at hc'; omega)) (fun z' wd wo hz' hgg => hMt z' wd wo (pz_ag_tr (pz_ag_mono hw (by decide)) hz') hgg) qw (by rw [q4]; exact hcr) (by rw [q5]; exact hcl) (by rw [q0]; omega)
          have u4 : u 7 4 = s 151 0 := (hu 7 4 (by decide)).trans e4
          have u3 : u 7 3 = s 151 5 := (hu 7 3 (by decide)).trans e3
          have hmx : f_Math_max u 0 (px_wr (u 7 3 - (i : Int))) = pz_cl (s 151 5 - (i : Int)) 0 99 := by
            unfold f_Math_max pz_cl
            rw [u3, pz_wr_id (by omega) (by omega)]
            repeat' split
            all_goals omega
          obtain ⟨u2, r1, r2⟩ := hR u (px_wr (u 7 4 + (i : Int))) (f_Math_max u 0 (px_wr (u 7 3 - (i : Int)))) cr 267 1 (pz_ag_mono hu (by decide))
          have eR := pz_eatR r1
          rw [hmx, u4, pz_wr_id (x := s 151 0 + (i : Int)) (by omega) (by omega)] at eR
          rw [hmx, u4, pz_wr_id (x := s 151 0 + (i : Int)) (by omega) (by omega), eR, p1, Option.bind_some, Option.bind_some]
          dsimp only
          have hea := pz_ea_rg (m := m) (ln := ln) (code := code) (wd := 267) (wo := 1) (w := s 151 0 + (i : Int)) (c := pz_cl (s 151 5 - (i : Int)) 0 99) (cr := cr)
          rw [q4, q5, q0] at p4
          clear hmx
          generalize pz_ea m ln code 267 1 (s 151 0 + (i : Int)) (pz_cl (s 151 5 - (i : Int)) 0 99) cr = ea at hea p4 ⊢
          have hnx : f_Math_max u2 0 (px_wr (cr - ea)) = pz_cl (cr - ea) 0 9999 := by
            unfold f_Math_max pz_cl
            rw [pz_wr_id (by omega) (by omega)]
            repeat' split
            all_goals omega
          rw [hnx, pz_wr_suc (by omega)]
          clear hnx
          have hcl2 : 0 ≤ pz_cl (cr - ea) 0 9999 ∧ pz_cl (cr - ea) 0 9999 ≤ 9999 := by
            unfold pz_cl
            repeat' split
            all_goals omega
          refine ih f g (i + 1) u2 w2 _ (by omega) (by omega) (by omega) (pz_ag_tr hu r2) (pz_ag_tr hw p2) hcl2 p4 ?_ ?_ (p6.trans q6) p7
          · rw [p5, q5]
            unfold pz_cl
            repeat' split
            all_goals omega
          · rw [p3, q0]; omega
    obtain ⟨a, u', w', k, l1, l2, l3, l4, l5⟩ := hloop 61 px_big px_big 0 s y (s 7 2) (by omega) (pz_big_lt (by omega)) (pz_big_lt (by omega)) pz_ag_rf pz_ag_rf (by rw [e2]; exact g4) (by rw [e2]; exact hy150 4 (by decide)) (by
      rw [hy150 5 (by decide)]
      unfold pz_cl
      repeat' split
      all_goals omega) (by rw [hy150 0 (by decide)]; omega) (hy150 6 (by decide)) (fun t ht => by
      rw [hy150 _ (by omega)]
      have := hF.2.2.1 t ht
      exact ⟨this.2.2.2.2.1, this.2.2.2.2.2.1⟩)
    obtain ⟨x, d1, d2, d3, d4⟩ := pz_ends (z := w')
    refine ⟨a, u', l4, ?_, x, ?_, d2, fun i hi => ?_, fun c i c0 c2 c3 c4 c5 => ?_⟩
    · unfold f_R_lasts f_World_creditLasts
      rw [show l_World_creditLasts_6 px_big s (s 7 2) 0 = some (a, u') from l1]
      rfl
    · unfold f_M_lasts
      rw [t1, Option.bind_some]
      rw [show ((0 : Nat) : Int) = 0 from rfl] at l2
      rw [l2, d1, Option.bind_some, l3]
      split <;> rfl
    · rw [d4 i hi, l5 153 i (by decide), t4 i hi]
      rfl
    · rw [d3 c i c0 (by omega), l5 c i (by simp only [List.mem_cons, List.not_mem_nil, or_false]; omega), t3 c i c2 (by omega), pz_up_get, if_neg (by omega)]
  obtain ⟨a, s', f1, r1, -, -, -, -, -⟩ := hpair s hW (fun _ _ => rfl)
  have hWs' : pz_W n (pz_wo s) s' := pz_W_ek hW pz_ek_rf (pz_ek_ag (L := [27, 46]) ⟨fun _ => rfl, fun _ => rfl, trivial⟩ f1 pz_ek_rf)
  obtain ⟨a2, s2, f2, r2, z', m1, m2, m3, m4⟩ := hpair s' hWs' (fun i _ => f1 151 i (by decide))
  rw [r1] at r2
  cases r2
  refine ⟨a, s', z', r1, m1, ?_⟩
  refine pz_I_ek h' (fun c i hk => ?_)
  by_cases c150 : c = 151
  · subst c150
    by_cases hi : i < 40
    · rw [m3 i hi]; exact f1 151 i (by decide)
    · exfalso
      have : pz_kI 151 i = decide (i < 40) := by
        show (_ || _ || _ || _ || _ || _ || _) = _
        simp [pz_kR, pz_ku, pz_kc, pz_kp, pz_kb, pz_kU, pz_kM, pz_kT, pz_kX, pz_kC]
      rw [this] at hk
      exact hi (of_decide_eq_true hk)
  · by_cases c5 : c = 150 ∧ i = 5
    · rw [c5.1, c5.2, m2]
      exact hX.2.2.1.symm
    · have c0 : ¬ (c = 150 ∧ i = 0) := fun q => by rw [q.1, q.2] at hk; cases hk
      have c2 : c ≠ 153 := fun q => by rw [q] at hk; cases hk
      have c3 : c ≠ 174 := fun q => by rw [q] at hk; cases hk
      have c4 : c ≠ 175 := fun q => by rw [q] at hk; cases hk
      have c27 : c ≠ 27 := fun q => by rw [q] at hk; cases hk
      have c46 : c ≠ 46 := fun q => by rw [q] at hk; cases hk
      rw [m4 c i c150 c2 c3 c4 (by omega)]
      exact f1 c i (by simp only [List.mem_cons, List.not_mem_nil, or_false]; omega)
