/-! TO PAY -/
theorem pz_F_pay {n t : Nat} {pr p : Int} {f0 f1 f2 f3 f4 q g0 g2 g3 g4 r : Nat → Int} (h : pz_F n f0 f1 f2 f3 f4 q) (hn : n ≤ 8) (ht : t < n) (hp : 0 ≤ p ∧ p ≤ 5) (him : t + 1 = n → ∀ i, i < n → i ≠ t → q (16 + i) = 1) (e0 : ∀ i, i ≠ 1 → i ≠ 5 → i ≠ 6 → g0 i = f0 i) (e01 : g0 1 = px_wr (f0 1 - pr)) (e05 : g0 5 = (t : Int)) (e06 : g0 6 = 1) (e2 : ∀ i, g2 i = if i = t then 1 else f2 i) (e3 : ∀ i, g3 i = if i = t then pr else f3 i) (e4 : ∀ i, g4 i = if i = t then p else f4 i) (q3 : r 3 = px_wr (q 3 - pr)) (q6 : r 6 = (t : Int) + 1) (q7 : r 7 = q 0 + 1) (q24 : r (24 + t) = pr) (q16 : r (16 + t) = 1) (q32 : r (32 + t) = p + 1) (qe : ∀ i, i ≠ 3 → i ≠ 6 → i ≠ 7 → i ≠ 24 + t → i ≠ 16 + t → i ≠ 32 + t → r i = q i) : pz_F n g0 f1 g2 g3 g4 r := by
  obtain ⟨⟨a1, a2, a3, a4, a5, a6, a7⟩, ⟨r1, r2, r3, r4, r5, r6, r7, r8, r9, r10, r11, r12, r13⟩, c, d, e⟩ := h
  have z0 : r 0 = q 0 := qe 0 (by decide) (by decide) (by decide) (by omega) (by omega) (by omega)
  have z1 : r 1 = q 1 := qe 1 (by decide) (by decide) (by decide) (by omega) (by omega) (by omega)
  have z2 : r 2 = q 2 := qe 2 (by decide) (by decide) (by decide) (by omega) (by omega) (by omega)
  have z4 : r 4 = q 4 := qe 4 (by decide) (by decide) (by decide) (by omega) (by omega) (by omega)
  have z5 : r 5 = q 5 := qe 5 (by decide) (by decide) (by decide) (by omega) (by omega) (by omega)
  refine ⟨⟨?_, ?_, ?_, ?_, ?_, ?_, ?_⟩, ⟨?_, ?_, ?_, ?_, ?_, ?_, ?_, ?_, ?_, ?_, ?_, ?_, ?_⟩, fun i h8 => ?_, fun i h8 hni => ?_, fun k hk hk1 i hi => ?_⟩
  · rw [e0 0 (by decide) (by decide) (by decide), z1]; exact a1
  · rw [e01, q3, a2]
  · rw [e0 2 (by decide) (by decide) (by decide), z4]; exact a3
  · rw [e0 3 (by decide) (by decide) (by decide), z5]; exact a4
  · rw [e0 4 (by decide) (by decide) (by decide), z0]; exact a5
  · rw [e05, q6]; omega
  · rw [e0 7 (by decide) (by decide) (by decide), z2]; exact a7
  · rw [z4]; exact r1
  · rw [z4]; exact r2
  · rw [z5]; exact r3
  · rw [z5]; exact r4
  · rw [z0]; exact r5
  · rw [z0]; exact r6
  · rw [q6]; omega
  · rw [q6]; omega
  · rw [z2]; exact r9
  · rw [z2]; exact r10
  · rw [q7]; omega
  · rw [q7, z0]; omega
  · exact Or.inr ⟨e06, by rw [q7, z0]⟩
  · obtain ⟨c1, c2, c3, c4, c5, c6, c7, c8, c9⟩ := c i h8
    have w8 : r (8 + i) = q (8 + i) := qe _ (by omega) (by omega) (by omega) (by omega) (by omega) (by omega)
    rw [w8, e2, e3, e4]
    by_cases hit : i = t
    · subst hit
      rw [if_pos rfl, if_pos rfl, if_pos rfl, q16, q24, q32]
      exact ⟨c1, rfl, rfl, by omega, c5, c6, by omega, by omega, fun _ => by omega⟩
    · rw [if_neg hit, if_neg hit, if_neg hit, qe (16 + i) (by omega) (by omega) (by omega) (by omega) (by omega) (by omega), qe (24 + i) (by omega) (by omega) (by omega) (by omega) (by omega) (by omega), qe (32 + i) (by omega) (by omega) (by omega) (by omega) (by omega) (by omega)]
      exact ⟨c1, c2, c3, c4, c5, c6, c7, c8, c9⟩
  · rw [qe (8 + i) (by omega) (by omega) (by omega) (by omega) (by omega) (by omega), qe (16 + i) (by omega) (by omega) (by omega) (by omega) (by omega) (by omega), qe (24 + i) (by omega) (by omega) (by omega) (by omega) (by omega) (by omega), qe (32 + i) (by omega) (by omega) (by omega) (by omega) (by omega) (by omega)]
    exact d i h8 hni
  · by_cases hit : i = t
    · rw [hit]; exact q16
    · rw [qe (16 + i) (by omega) (by omega) (by omega) (by omega) (by omega) (by omega)]
      by_cases hkt : k = t
      · exact him (by omega) i hi hit
      · rw [qe (16 + k) (by omega) (by omega) (by omega) (by omega) (by omega) (by omega)] at hk1
        exact e k hk hk1 i hi
theorem pz_mud_rg {n : Nat} {s z : px_Z} (h : pz_W n (pz_wo s) z) (p w : Int) : ∃ x, f_Hills_mudIn s p w = some x ∧ f_M_mudOf z p w = some x ∧ (x ≠ -1 → 0 ≤ p ∧ p ≤ 5) := by
  obtain ⟨hn, w1, wF, w3, w4, ⟨mh, w5a, w5b, w5c, w5d, w5e⟩, -⟩ := h
  have hR := pz_mudR (s := s) w5a w5b p w
  have hM := pz_mudM (s := z) w5a w5c p w
  have he : pz_md (pz_hlv (s 29) (s 30) (s 31) (s 32) (s 33)) mh p w = pz_md (fun i k => z 166 (5 * i + k)) mh p w := pz_md_congr w5d p w
  rw [← he] at hM
  refine ⟨_, hR, hM, fun hx => ?_⟩
  unfold pz_md at hx
  cases hq : pz_fi (pz_mdp (pz_hlv (s 29) (s 30) (s 31) (s 32) (s 33)) p w) mh 0 with
  | none => rw [hq] at hx; exact absurd rfl hx
  | some i =>
    obtain ⟨_, h5, h6⟩ := pz_fi_some _ _ _ hq
    rw [pz_mdp_s] at h6
    simp only [Bool.and_eq_true, decide_eq_true_eq] at h6
    have h7 : -1 ≤ s 29 i ∧ s 29 i ≤ 7 ∧ 0 ≤ s 30 i ∧ s 30 i ≤ 5 ∧ (s 29 i = -1 → 0 ≤ s 31 i ∧ s 32 i ≤ 60 ∧ 0 ≤ s 33 i ∧ s 33 i ≤ 5) := w5e i (by omega)
    omega
theorem pz_W_price {n : Nat} {s z u y : px_Z} (h : pz_W n (pz_wo s) z) (hu : pz_ag [20, 46] s u) (hy : pz_ag [174, 175] z y) : pz_W n (pz_wo u) y := pz_W_ek h (pz_ek_ag (L := [20, 46]) ⟨fun _ => rfl, fun _ => rfl, trivial⟩ hu pz_ek_rf) (pz_ek_ag (L := [174, 175]) ⟨fun _ => rfl, fun _ => rfl, trivial⟩ hy pz_ek_rf)
theorem pz_canP {n : Nat} {s z : px_Z} (h : pz_W n (pz_wo s) z) {t : Nat} (ht : t < n) (p : Int) : ∃ (b : Bool) (u y : px_Z), f_World_canPay s (t : Int) p = some (if b then 1 else 0, u) ∧ f_M_canPay z (t : Int) p = some (if b then 1 else 0, y) ∧ pz_ag [20, 46] s u ∧ pz_ag [174, 175] z y ∧ (b = true → pz_can n (s 13) t (pz_hs (s 9) n) = true ∧ 0 ≤ p ∧ p ≤ 5) := by
  have hn := h.1
  have b1' : s 6 1 = (n : Int) := h.2.1.1
  have e4 : s 7 4 = z 151 0 := h.2.2.1.1.2.2.2.2.1
  have e1 : s 7 1 = z 151 3 := h.2.2.1.1.2.1
  unfold f_World_canPay f_M_canPay
  rw [b1', pz_wr_pred (by omega), pz_within, pz_i1, if_pos (by omega)]
  obtain ⟨b, m1, m2, m3⟩ := pz_may h ht
  rw [m1, m2, Option.bind_some, Option.bind_some]
  cases b with
  | false => exact ⟨false, s, z, rfl, rfl, pz_ag_rf, pz_ag_rf, fun q => by cases q⟩
  | true =>
    have hc := m3 rfl
    simp only [if_true]
    rw [if_neg (by decide), if_neg (by decide), e4]
    obtain ⟨x, x1, x2, x3⟩ := pz_mud_rg h p (z 151 0)
    rw [x1, x2, Option.bind_some, Option.bind_some]
    by_cases hx : x = -1
    · rw [if_pos hx, if_pos hx]
      exact ⟨false, s, z, rfl, rfl, pz_ag_rf, pz_ag_rf, fun q => by cases q⟩
    · rw [if_neg hx, if_neg hx]
      obtain ⟨pr, u, y, p1, hu, p2, hy, p3, p4⟩ := pz_prc2 h (t := t) (by omega)
      rw [p1, p2, Option.bind_some, Option.bind_some]
      dsimp only
      have hgu : u 7 1 = z 151 3 := (hu 7 1 (by decide)).trans e1
      by_cases hg : z 151 3 < pr
      · rw [if_pos (show u 7 1 < pr by omega), if_pos hg]
        exact ⟨false, u, y, rfl, rfl, hu, hy, fun q => by cases q⟩
      · rw [if_neg (show ¬ (u 7 1 < pr) by omega), if_neg hg]
        exact ⟨true, u, y, rfl, rfl, hu, hy, fun _ => ⟨hc.1, x3 hx⟩⟩
theorem pz_payP {n : Nat} {s z : px_Z} (h : pz_W n (pz_wo s) z) (h5 : z 150 5 = 0) {t : Nat} (ht : t < n) {p : Int} (hp : 0 ≤ p ∧ p ≤ 5) (hc : pz_can n (s 13) t (pz_hs (s 9) n) = true) : ∃ a s' z', f_World_payFor s (t : Int) p = some (a, s') ∧ f_M_pays z (t : Int) p = some (a, z') ∧ pz_W n (pz_wo s') z' ∧ pz_ag [7, 8, 9, 10, 11, 45, 20, 27, 46] s s' ∧ pz_ag [151, 155, 174, 175] z z' := by
  have hn := h.1
  obtain ⟨pr, u, y, p1, hu, p2, hy, p3, p4⟩ := pz_prc2 h (t := t) (by omega)
  have hW1 := pz_W_price h hu hy
  have hF := hW1.2.2.1
  have y0 : y 151 0 = z 151 0 := hy 151 0 (by decide)
  have g := hF.2.1
  have hWk : pz_W n (pz_wo (px_up (px_up (px_up (px_up (px_up (px_up u 7 1 (px_wr (u 7 1 - pr))) 10 t pr) 9 t 1) 11 t p) 7 5 (t : Int)) 7 6 1)) (px_up (px_up (px_up (px_up (px_up (px_up y 151 3 (px_wr (y 151 3 - pr))) 151 (24 + t) pr) 151 (16 + t) 1) 151 (32 + t) (p + 1)) 151 6 ((t : Int) + 1)) 151 7 (y 151 0 + 1)) := by
    refine pz_W_F8 hW1 (pz_ag_up (pz_ag_up (pz_ag_up (pz_ag_up (pz_ag_up (pz_ag_up pz_ag_rf (by decide)) (by decide)) (by decide)) (by decide)) (by decide)) (by decide)) (pz_ag_up (pz_ag_up (pz_ag_up (pz_ag_up (pz_ag_up (pz_ag_up pz_ag_rf (by decide)) (by decide)) (by decide)) (by decide)) (by decide)) (by decide)) ?_ hW1.2.2.2.2.2.2.2.2
    refine pz_F_pay (t := t) (pr := pr) (p := p) hF hn ht hp ?_ ?_ ?_ ?_ ?_ ?_ ?_ ?_ ?_ ?_ ?_ ?_ ?_ ?_ ?_
    · intro htn i hi hit
      have hlt : pz_hs (s 9) n < 2 ^ n := pz_hs_lt hn
      unfold pz_can at hc
      simp only [Bool.and_eq_true, Bool.or_eq_true, decide_eq_true_eq, Bool.not_eq_true'] at hc
      have hb := hc.1.1
      have hcnt : pz_cnt (pz_hs (s 9) n) + 1 = n := by
        rcases hc.2 with q | q
        · omega
        · exact q
      have hor := ((pz_him hn hlt ht hb).2).mpr hcnt
      have hbit : (pz_hs (s 9) n ||| 2 ^ t).testBit i = true := by
        rw [hor, Nat.testBit_two_pow_sub_one]
        exact decide_eq_true hi
      rw [Nat.testBit_or, Nat.testBit_two_pow, pz_hs_bit] at hbit
      have hti : ¬ (t = i) := fun q => hit q.symm
      simp only [hti, decide_false, Bool.or_false, Bool.and_eq_true, decide_eq_true_eq] at hbit
      have k1 : s 9 i = z 151 (16 + i) := (h.2.2.1.2.2.1 i (by omega)).2.1
      rw [hy 151 _ (by decide), ← k1]
      exact hbit.2
    · intro i i1 i5 i6
      show px_up (px_up (px_up (px_up (px_up (px_up u 7 1 (px_wr (u 7 1 - pr))) 10 t pr) 9 t 1) 11 t p) 7 5 (t : Int)) 7 6 1 7 i = u 7 i
      rw [pz_up_i i6, pz_up_i i5, pz_up_c (by decide), pz_up_c (by decide), pz_up_c (by decide), pz_up_i i1]
    · rfl
    · rfl
    · rfl
    · intro i
      exact pz_up_same u 9 t i 1
    · intro i
      exact pz_up_same u 10 t i pr
    · intro i
      exact pz_up_same u 11 t i p
    · rw [pz_up_i (by omega), pz_up_i (by omega), pz_up_i (by omega), pz_up_i (by omega), pz_up_i (by omega), pz_up_s]
    · rw [pz_up_i (by omega), pz_up_s]
    · rw [pz_up_s]
    · rw [pz_up_i (by omega), pz_up_i (by omega), pz_up_i (by omega), pz_up_i (by omega), pz_up_s]
    · rw [pz_up_i (by omega), pz_up_i (by omega), pz_up_i (by omega), pz_up_s]
    · rw [pz_up_i (by omega), pz_up_i (by omega), pz_up_s]
    · intro i i3 i6 i7 i24 i16 i32
      rw [pz_up_i i7, pz_up_i i6, pz_up_i i32, pz_up_i i16, pz_up_i i24, pz_up_i i3]
  have h5' : (px_up (px_up (px_up (px_up (px_up (px_up y 151 3 (px_wr (y 151 3 - pr))) 151 (24 + t) pr) 151 (16 + t) 1) 151 (32 + t) (p + 1)) 151 6 ((t : Int) + 1)) 151 7 (y 151 0 + 1)) 150 5 = 0 := (hy 150 5 (by decide)).trans h5
  obtain ⟨s', z', l1, l2, hW2, k1, k2, -, -⟩ := pz_line hWk h5' 0 (t : Int) pr p
  refine ⟨pr, s', z', ?_, ?_, hW2, ?_, ?_⟩
  · unfold f_World_payFor
    rw [p1, Option.bind_some]
    have p8 : 0 ≤ (t : Int) ∧ (t : Int) < 8 := by omega
    simp only [if_pos p8, Int.toNat_natCast]
    rw [l1]; rfl
  · unfold f_M_pays
    rw [p2, Option.bind_some]
    dsimp only
    rw [pz_wr_id (x := 24 + (t : Int)) (by omega) (by omega), pz_wr_id (x := 16 + (t : Int)) (by omega) (by omega), pz_wr_id (x := 32 + (t : Int)) (by omega) (by omega), if_pos (by omega), if_pos (by omega), if_pos (by omega), show (24 + (t : Int)).toNat = 24 + t by omega, show (16 + (t : Int)).toNat = 16 + t by omega, show (32 + (t : Int)).toNat = 32 + t by omega, pz_wr_id (x := p + 1) (by omega) (by omega), pz_wr_id (x := (t : Int) + 1) (by omega) (by omega)]
    rw [show (px_up (px_up (px_up (px_up (px_up y 151 3 (px_wr (y 151 3 - pr))) 151 (24 + t) pr) 151 (16 + t) 1) 151 (32 + t) (p + 1)) 151 6 ((t : Int) + 1)) 151 0 = y 151 0 by rw [pz_up_i (by omega), pz_up_i (by omega), pz_up_i (by omega), pz_up_i (by omega), pz_up_i (by omega)], pz_wr_id (x := y 151 0 + 1) (by omega) (by omega), l2]
    rfl
  · refine pz_ag_tr (pz_ag_mono hu (by decide)) (pz_ag_tr ?_ (pz_ag_mono k1 (by decide)))
    exact pz_ag_up (pz_ag_up (pz_ag_up (pz_ag_up (pz_ag_up (pz_ag_up pz_ag_rf (by decide)) (by decide)) (by decide)) (by decide)) (by decide)) (by decide)
  · refine pz_ag_tr (pz_ag_mono hy (by decide)) (pz_ag_tr ?_ (pz_ag_mono k2 (by decide)))
    exact pz_ag_up (pz_ag_up (pz_ag_up (pz_ag_up (pz_ag_up (pz_ag_up pz_ag_rf (by decide)) (by decide)) (by decide)) (by decide)) (by decide)) (by decide)
theorem pz_kC_price {s u : px_Z} (h : pz_ag [20, 46] s u) : pz_ek pz_kC s u := pz_ek_ag (L := [20, 46]) ⟨fun _ => rfl, fun _ => rfl, trivial⟩ h pz_ek_rf
theorem po_pay {s : px_Z} (h : pz_I s) (a p : Int) : pz_op (f_R_pay s a p) (fun u => f_M_pay u a p) := by
  refine pz_deed (R := fun s => f_R_pay s a p) h (fun n z hD => ?_)
  have hD0 := pz_D_told hD
  have hn := hD.1.1
  show ∃ x s' z', f_R_pay s a p = _ ∧ f_M_pay z a p = _ ∧ _
  have b1' : s 6 1 = (n : Int) := hD0.1.2.1.1
  unfold f_R_pay f_M_pay
  rw [pz_isThing (s := px_up z 150 0 0) hD0.1.2.1.2.1, pz_isIn, pz_i1, pz_i1]
  by_cases ha : 0 ≤ a ∧ a ≤ (n : Int) - 1
  · obtain ⟨t, rfl⟩ : ∃ t : Nat, a = (t : Int) := ⟨a.toNat, by omega⟩
    have ht : t < n := by omega
    obtain ⟨b, u, y, c1, c2, hu, hy, hb⟩ := pz_canP hD0.1 ht p
    have hW1 := pz_W_price hD0.1 hu hy
    have hu' : pz_ag [7, 8, 9, 10, 11, 45, 20, 27, 46] s u := pz_ag_mono hu (by decide)
    have hy' : pz_ag [151, 155, 174, 175] (px_up z 150 0 0) y := pz_ag_mono hy (by decide)
    have hU1 := pz_ag_U2 hD0.2.1 hu' hy'
    rw [c1, c2, Option.bind_some, if_pos ha]
    cases b with
    | false =>
      by_cases hp : 0 ≤ p ∧ p ≤ 5
      · rw [if_pos hp, Option.bind_some]
        exact ⟨-1, u, y, rfl, rfl, hW1, hU1, Or.inr (pz_kC_price hu), pz_ag_DR hu', pz_ek_tr pz_kDM_told (pz_ag_DM hy')⟩
      · rw [if_neg hp]
        refine ⟨-1, u, px_up z 150 0 0, rfl, rfl, pz_W_price hD0.1 hu pz_ag_rf, ?_, Or.inr (pz_kC_price hu), pz_ag_DR hu', pz_kDM_told⟩
        exact pz_ag_U2 hD0.2.1 hu' pz_ag_rf
    | true =>
      obtain ⟨hc, hp⟩ := hb rfl
      rw [if_pos hp, Option.bind_some]
      simp only [if_true]
      rw [if_neg (by decide), if_neg (by decide)]
      obtain ⟨s1, z1, e1, e2, hW2, hU2, h7, f1, f2⟩ := pz_remP hW1 hU1
      have h5 : z1 150 5 = 0 := (f2 150 5 (by decide) (by decide)).trans ((hy 150 5 (by decide)).trans hD0.2.2)
      have k13 : s1 13 = s 13 := funext (fun i => (f1 13 i (by decide) (by omega) (by decide)).trans (hu 13 i (by decide)))
      have k9 : s1 9 = s 9 := funext (fun i => (f1 9 i (by decide) (by omega) (by decide)).trans (hu 9 i (by decide)))
      obtain ⟨x, s2, z2, e3, e4, hW3, g1, g2⟩ := pz_payP hW2 h5 ht hp (by rw [k13, k9]; exact hc)
      rw [e1, e2, Option.bind_some, Option.bind_some, e3, e4, Option.bind_some, Option.bind_some]
      exact ⟨x, s2, z2, rfl, rfl, hW3, pz_ag_U2 hU2 g1 g2, Or.inl (pz_fg_of (g1 145 10 (by decide)) (g1 145 13 (by decide)) h7), pz_ek_tr (pz_ag_DR hu') (pz_ek_tr (pz_rem_DR f1) (pz_ag_DR g1)), pz_ek_tr pz_kDM_told (pz_ek_tr (pz_ag_DM hy') (pz_ek_tr (pz_rem_DM f2) (pz_ag_DM g2)))⟩
  · rw [if_neg ha]
    have e1 : f_World_canPay s a p = some (0, s) := by
      unfold f_World_canPay
      rw [b1', pz_wr_pred (by omega), pz_within, pz_i1, if_neg ha]
    rw [e1]
    exact ⟨-1, s, px_up z 150 0 0, rfl, rfl, hD0.1, hD0.2.1, Or.inr pz_ek_rf, pz_ek_rf, pz_kDM_told⟩
