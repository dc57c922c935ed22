/-! TEXT: again, and the whole of A PLAN -/
theorem pt_costR {A c x W W' : Nat} (hW : W = 9 * W') (h1 : 1 ≤ W') (hc : c ≤ A * W') (hx : x ≤ 9) : 1 + x * (c + 1) ≤ (A + 2) * W := by
  have e1 : x * (c + 1) ≤ 9 * (c + 1) := Nat.mul_le_mul_right (c + 1) hx
  have e2 : (A + 2) * W = A * W + 2 * W := Nat.add_mul A 2 W
  have e3 : A * W = 9 * (A * W') := by rw [hW, Nat.mul_left_comm]
  omega
set_option maxHeartbeats 4000000 in
theorem pt_stepA {b : Nat → Int} {L T nt n : Nat} (hD : pt_DD b L T nt n) : pt_AA b L T nt (n + 1) := by
  intro o t k N F fm u z hn ho h283 hV hfm
  obtain ⟨k100, N10⟩ := pt_k100 hV
  obtain ⟨hA, hB, h0, h5, h6, h8, h28, h42, hst, hPD, hN6⟩ := hV
  obtain ⟨htT, hT⟩ := pt_T4 hA
  obtain ⟨fm, rfl⟩ : ∃ q, fm = q + 1 := ⟨fm - 1, by omega⟩
  have ht := pt_A_end hA (by rw [h283]; decide)
  have nd : ¬ (280 ≤ pt_ck b L (pt_st b L t) ∧ pt_ck b L (pt_st b L t) ≤ 282) := by omega
  have hlen := (pt_wlen (j := 27) (pt_st_le b L t) (by rw [h283]; rfl)).1 rfl
  have hse := pt_stE (b := b) (L := L) (t := t)
  have R0 := pt_sA (n := fm) (pt_isD0 hB nd) (pt_isW1 hB (j := 27) (by decide) (k := 283) (m := 27) rfl rfl h283)
  rw [g_1]
  unfold f_M_readAgain at R0
  rw [h28] at R0
  by_cases o4 : o < 4
  · rw [if_pos (show (o : Int) < 4 by omega)]
    rw [if_neg (show ¬ (o : Int) = 4 by omega), pt_wsuc8 (show o ≤ 8 by omega)] at R0
    have hB0 : pt_B (px_up z 150 28 ((o + 1 : Nat) : Int)) b L (pt_st b L t) := pt_B_up hB (by omega) (by omega)
    obtain ⟨v1, w1, a1, a2, a3, a4, a5, a6, a7⟩ := pt_good hA hB0 h0 ht
    have a4' : ∀ q j, ¬ (q = 150 ∧ ((14 ≤ j ∧ j ≤ 17) ∨ j = 28 ∨ j = 31 ∨ j = 32)) → w1 q j = z q j := fun q j g => (a4 q j (by omega)).trans (pt_upn (by omega))
    rw [a1, Option.bind_some]
    rw [a2, Option.bind_some] at R0
    obtain ⟨v2, w2, r2, x2, b1, b2, b3, b4, b5, b6⟩ := pt_numbO a5 a6 a7 (lo := 1) (hi := 9) (by decide)
    rw [b1, Option.bind_some]
    rw [b2, Option.bind_some] at R0
    dsimp only
    dsimp only at R0
    rcases b5 with ⟨h72, hA2, hB2, hr2⟩ | ⟨h72, hA2, hr2, e31, e32⟩
    · obtain ⟨x2e, lo2, hi2⟩ := b6 h72
      subst x2e
      rw [if_neg hr2] at R0
      obtain ⟨x, rfl⟩ : ∃ x : Nat, x2 = ((x + 1 : Nat) : Int) := ⟨(x2 - 1).toNat, by omega⟩
      obtain ⟨v3, w3, r3, c1, c2, c3, c4, c5⟩ := pt_markO hA2 hB2 h72 (c := 40) rfl
      rw [c1, Option.bind_some]
      rw [c2, Option.bind_some] at R0
      dsimp only at R0
      rcases c5 with ⟨h73, hA3, hB3, hr3⟩ | ⟨h73, hA3, hr3, e31, e32⟩
      · rw [if_neg hr3] at R0
        rw [if_pos h73, pt_wsuc8 (show o ≤ 8 by omega)]
        have k3 : w3 150 42 = (k : Int) := (c4 150 42 (by omega)).trans ((b4 150 42 (by omega)).trans ((a4' 150 42 (by omega)).trans h42))
        obtain ⟨w4, d1, d2, d3, d4, d5, d6⟩ := pt_es k3 (by omega) 3 ((x + 1 : Nat) : Int) 0
        rw [d1, Option.bind_some, Option.bind_some] at R0
        dsimp only at R0
        rw [if_neg pt_0n1] at R0
        have f3 : ∀ q j, ¬ (q = 121 ∧ (j = 4 ∨ j = 7 ∨ j = 8)) → v3 q j = u q j := fun q j g => (c3 q j g).trans ((b3 q j g).trans (a3 q j g))
        have g4 : ∀ q j, ¬ (q = 150 ∧ ((14 ≤ j ∧ j ≤ 17) ∨ j = 28 ∨ j = 31 ∨ j = 32 ∨ j = 42)) → ¬ (168 ≤ q ∧ q ≤ 170 ∧ j = k) → w4 q j = z q j := fun q j q1 q2 => (d6 q j (by omega) q2).trans ((c4 q j (by omega)).trans ((b4 q j (by omega)).trans (a4' q j (by omega))))
        have e28 : w4 150 28 = ((o + 1 : Nat) : Int) := by rw [d6 150 28 (by omega) (by omega), c4 150 28 (by omega), b4 150 28 (by omega), a4 150 28 (by omega), pt_upi]
        have hT3 := hA3.2.2.1
        have s1 := pt_st1 hA3 (show t + 1 < T by omega)
        have s2 := pt_st1 hA3 (show t + 1 + 1 < T by omega)
        have PD4 : pt_PD nt N (k + 1) F v3 w4 := by
          refine ⟨(f3 138 0 (by omega)).trans hPD.1, fun i hi => by have := hPD.2.1 i hi; omega, fun i hi hi6 => ?_⟩
          have hlt := hPD.2.1 i hi
          rw [f3 139 i (by omega), f3 140 i (by omega), f3 141 i (by omega), g4 168 _ (by omega) (by omega), g4 169 _ (by omega) (by omega), g4 170 _ (by omega) (by omega)]
          exact hPD.2.2 i hi hi6
        have V4 : pt_V b L T nt (t + 1 + 1 + 1) (o + 1) (k + 1) N F v3 w4 := ⟨hA3, pt_B_of hB3 (fun j q1 q2 => d6 150 j (by omega) (by omega)) (fun j => d6 156 j (by omega) (by omega)) (fun j => d6 157 j (by omega) (by omega)), h73, (f3 121 5 (by omega)).trans h5, (g4 150 6 (by omega) (by omega)).trans h6, h8, e28, d2, by omega, PD4, by omega⟩
        obtain ⟨v5, w5, i1, i2, i3, i4⟩ := hD (o + 1) (t + 1 + 1 + 1) (k + 1) N F fm v3 w4 (by omega) (by omega) V4 (by omega)
        rw [i1, Option.bind_some, (f3 138 0 (by omega)).trans hPD.1]
        have fq5 : pt_fq u v5 := fun q j q1 q2 => (i2 q j q1 q2).trans (f3 q j q1)
        have gp5 : pt_gp k z w5 := fun q j q1 q2 => (i3 q j q1 (by omega)).trans (g4 q j q1 (by omega))
        rcases i4 with ⟨t', k', N', F', c, fm', ⟨j1, j2, j3, j4, j5, j6, j7, j8, j9⟩, j10⟩ | ⟨j1, j2⟩
        · obtain ⟨k100', N10'⟩ := pt_k100 j4
          obtain ⟨m1, m2, m3, m4, m5, m6, m7, m8, m9, m10, m11⟩ := j4
          obtain ⟨y1, y2, y3, y4⟩ := pt_A_tok m1
          obtain ⟨htT', _⟩ := pt_T4 m1
          obtain ⟨fm', rfl⟩ : ∃ q, fm' = q + 1 := ⟨fm' - 1, by omega⟩
          have nd' : ¬ (280 ≤ pt_ck b L (pt_st b L t') ∧ pt_ck b L (pt_st b L t') ≤ 282) ∧ pt_ck b L (pt_st b L t') ≠ 283 := by
            rcases j10 with ⟨q, _⟩ | q
            · rw [q]; decide
            · have : pt_ck b L (pt_st b L t') = 0 := by rw [q, pt_ck, if_neg (by omega)]
              rw [this]; decide
          have n27 : f_M_isWord w5 27 = 0 := pt_isW0 m2 (j := 27) (by decide) (k := 283) (m := 27) rfl rfl nd'.2
          by_cases h41 : pt_ck b L (pt_st b L t') = 41
          · have ht' := pt_A_end m1 (by rw [h41]; decide)
            have R1 := pt_sE (n := fm') (pt_isD0 m2 nd'.1) n27 (show ¬ w5 150 28 ≤ 0 by omega) (pt_isS1 m2 (c := 41) rfl h41)
            unfold f_M_readAgainEnd at R1
            rw [m7, pt_wm1 (show o < 1000 by omega)] at R1
            have hB5 : pt_B (px_up w5 150 28 (o : Int)) b L (pt_st b L t') := pt_B_up m2 (by omega) (by omega)
            obtain ⟨v6, w6, p1, p2, p3, p4, p5, p6, p7⟩ := pt_good m1 hB5 m3 ht'
            obtain ⟨w7, q1, q2, q3, q4, q5, q6⟩ := pt_es (z := w6) (k := k') ((p4 150 42 (by omega)).trans ((pt_upn (by omega)).trans m8)) (by omega) 4 0 0
            rw [p2, Option.bind_some, q1, Option.bind_some, Option.bind_some] at R1
            dsimp only at R1
            rw [if_neg pt_0n1] at R1
            have ex : f_Reader_expect v5 41 = some v6 := by
              unfold f_Reader_expect
              rw [if_pos y1, if_pos (y2.trans h41), p1, Option.bind_some]
            have g7 : ∀ q j, ¬ (q = 150 ∧ ((14 ≤ j ∧ j ≤ 17) ∨ j = 28 ∨ j = 31 ∨ j = 32 ∨ j = 42)) → ¬ (168 ≤ q ∧ q ≤ 170 ∧ j = k') → w7 q j = w5 q j := fun q j r1 r2 => (q6 q j (by omega) r2).trans ((p4 q j (by omega)).trans (pt_upn (by omega)))
            have PD6 : pt_PD nt N' (k' + 1) F' v6 w7 := by
              refine ⟨(p3 138 0 (by omega)).trans m10.1, fun i hi => by have := m10.2.1 i hi; omega, fun i hi hi6 => ?_⟩
              have hlt := m10.2.1 i hi
              rw [p3 139 i (by omega), p3 140 i (by omega), p3 141 i (by omega), g7 168 _ (by omega) (by omega), g7 169 _ (by omega) (by omega), g7 170 _ (by omega) (by omega)]
              exact m10.2.2 i hi hi6
            obtain ⟨v8, r1, r2, r3⟩ := pt_rep (x := x + 1) PD6 j6 (by omega) (by omega) (by omega)
            rw [ex, Option.bind_some, if_pos p7, r1, Option.bind_some]
            have e3 : w7 168 k = 3 := by rw [g7 168 k (by omega) (by omega), i3 168 k (by omega) (by omega)]; exact d3
            have e8 : w7 169 k = ((x + 1 : Nat) : Int) := by rw [g7 169 k (by omega) (by omega), i3 169 k (by omega) (by omega)]; exact d4
            have L5 : pt_Lay w7 (k + 1) k' (o + 1) (fun i => F' (N + i)) (N' - N) c := pt_LayZ j8 (fun j j1 j2 => ⟨g7 168 j (by omega) (by omega), g7 169 j (by omega) (by omega)⟩)
            have L6 := pt_LayR (j := x) o4 (show k < k' by omega) L5 e3 e8 (by omega) q3
            have L7 : pt_Lay w7 k (k' + 1) o (fun i => pt_RF N (N' - N) F' (N + i)) (N + (N' - N) * (x + 1) - N) (1 + (x + 1) * (c + 1)) := by
              have L8 := pt_LayF (g := fun i => pt_RF N (N' - N) F' (N + i)) L6 (fun i hi => by
                show pt_RF N (N' - N) F' (N + i) = F' (N + i % (N' - N))
                unfold pt_RF
                rw [if_neg (by omega), show N + i - N = i by omega])
              rw [show N + (N' - N) * (x + 1) - N = (N' - N) * (x + 1) by omega]
              exact L8
            have cost : 1 + (x + 1) * (c + 1) ≤ (k' + 1 - k) * pt_W o := by
              have := pt_costR (A := k' - (k + 1)) (c := c) (x := x + 1) (pt_Ws o4) (pt_Wp (o + 1)) j9 (by omega)
              rw [show k' - (k + 1) + 2 = k' + 1 - k by omega] at this
              exact this
            have hNN : N + (N' - N) * (x + 1) ≤ 6561 * (k' + 1) := by
              have c1 := L6.1
              have c2 : (k' + 1 - k) * pt_W o ≤ (k' + 1 - k) * 6561 := Nat.mul_le_mul_left _ (pt_Wl o)
              omega
            have s3 := pt_st1 m1 ht'
            have f8 : ∀ q j, ¬ (q = 121 ∧ (j = 4 ∨ j = 7 ∨ j = 8)) → ¬ (138 ≤ q ∧ q ≤ 141) → v8 q j = u q j := fun q j t1 t2 => (r3 q j (by omega) (by omega)).trans ((p3 q j t1).trans (fq5 q j t1 t2))
            have gp7 : pt_gp k z w7 := fun q j t1 t2 => (g7 q j t1 (by omega)).trans (gp5 q j t1 t2)
            refine ⟨v8, w7, rfl, f8, gp7, Or.inl ⟨t' + 1, k' + 1, N + (N' - N) * (x + 1), pt_RF N (N' - N) F', 1 + (x + 1) * (c + 1), fm', by omega, ⟨R0.trans (j1.trans R1), by omega, by omega, ⟨pt_A_of p5 (fun j hj => r3 121 j (by omega) (by omega)) (fun q j t1 t2 => r3 q j (by omega) (by omega)), pt_B_of p6 (fun j t1 t2 => q6 150 j (by omega) (by omega)) (fun j => q6 156 j (by omega) (by omega)) (fun j => q6 157 j (by omega) (by omega)), (r3 121 7 (by omega) (by omega)).trans p7, (f8 121 5 (by omega) (by omega)).trans h5, (gp7 150 6 (by omega) (by omega)).trans h6, h8, by rw [q6 150 28 (by omega) (by omega), p4 150 28 (by omega), pt_upi], q2, by omega, r2, hNN⟩, by omega, by omega, fun i hi => ?_, L7, cost⟩⟩⟩
            unfold pt_RF
            rw [if_pos hi]
            exact j7 i hi
          · obtain ⟨v6, w6, p1, p2, p3, p4, p5, p6, p7, p8, p9⟩ := pt_bad m1 m2 m3 1
            have R1 := pt_sX (n := fm') (pt_isD0 m2 nd'.1) n27 (Or.inr (pt_isS0 m2 (c := 41) rfl h41))
            unfold j_M_readSteps_j39 at R1
            rw [if_neg (show ¬ w5 150 28 = 0 by omega), p2, Option.bind_some] at R1
            have ex : f_Reader_expect v5 41 = some v6 := by
              unfold f_Reader_expect
              rw [if_pos y1, if_neg (fun hh => h41 (y2.symm.trans hh)), p1, Option.bind_some]
            rw [ex, Option.bind_some, if_neg (show ¬ v6 121 7 = 0 by rw [p6]; decide)]
            exact ⟨v6, w6, rfl, fun q j q1 q2 => (p3 q j q1).trans (fq5 q j q1 q2), fun q j q1 q2 => (p4 q j (by omega)).trans (gp5 q j q1 q2), Or.inr ⟨R0.trans (j1.trans R1), by rw [p6]; decide, ⟨_, p5⟩, by rw [p8, p6], by rw [p9, p7]⟩⟩
        · obtain ⟨tx, hx⟩ := j2.2.1
          obtain ⟨v6, p1, p2, p3⟩ := pt_expectD hx j2.1 41
          have e7 : v6 121 7 ≠ 0 := by rw [p3 121 7 (by omega)]; exact j2.1
          rw [p1, Option.bind_some, if_neg e7]
          exact ⟨v6, w5, rfl, fun q j q1 q2 => (p3 q j (by omega)).trans (fq5 q j q1 q2), gp5, Or.inr ⟨R0.trans j1, e7, p2, by rw [p3 121 7 (by omega)]; exact j2.2.2.1, by rw [p3 121 8 (by omega)]; exact j2.2.2.2⟩⟩
      · rw [if_pos hr3, Option.bind_some] at R0
        rw [if_neg h73]
        obtain ⟨tx, hx⟩ := hA3
        obtain ⟨v6, p1, p2, p3⟩ := pt_expectD hx h73 41
        have e7 : v6 121 7 ≠ 0 := by rw [p3 121 7 (by omega)]; exact h73
        rw [p1, Option.bind_some, if_neg e7]
        exact ⟨v6, w3, rfl, fun q j q1 q2 => (p3 q j (by omega)).trans ((c3 q j q1).trans ((b3 q j q1).trans (a3 q j q1))), fun q j q1 q2 => (c4 q j (by omega)).trans ((b4 q j (by omega)).trans (a4' q j (by omega))), Or.inr ⟨R0, e7, p2, by rw [p3 121 7 (by omega)]; exact e31, by rw [p3 121 8 (by omega)]; exact e32⟩⟩
    · rw [if_pos hr2, Option.bind_some] at R0
      obtain ⟨tx, hx⟩ := hA2
      obtain ⟨v5, d1, ⟨t5, d2⟩, d3⟩ := pt_expectD hx h72 40
      have e5 : v5 121 7 ≠ 0 := by rw [d3 121 7 (by omega)]; exact h72
      obtain ⟨v6, p1, p2, p3⟩ := pt_expectD d2 e5 41
      have e7 : v6 121 7 ≠ 0 := by rw [p3 121 7 (by omega)]; exact e5
      rw [d1, Option.bind_some, if_neg e5, p1, Option.bind_some, if_neg e7]
      exact ⟨v6, w2, rfl, fun q j q1 q2 => (p3 q j (by omega)).trans ((d3 q j (by omega)).trans ((b3 q j q1).trans (a3 q j q1))), fun q j q1 q2 => (b4 q j (by omega)).trans (a4' q j (by omega)), Or.inr ⟨R0, e7, p2, by rw [p3 121 7 (by omega), d3 121 7 (by omega)]; exact e31, by rw [p3 121 8 (by omega), d3 121 8 (by omega)]; exact e32⟩⟩
  · obtain ⟨v, w, a1, a2, a3, a4, a5, a6, a7, a8, a9⟩ := pt_bad hA hB h0 3
    rw [if_pos (show (o : Int) = 4 by omega), a2, Option.bind_some, Option.bind_some] at R0
    rw [if_neg (show ¬ (o : Int) < 4 by omega), a1, Option.bind_some]
    exact ⟨v, w, rfl, fun q j q1 q2 => a3 q j q1, fun q j q1 q2 => a4 q j (by omega), Or.inr ⟨R0, by rw [a6]; decide, ⟨t, a5⟩, by rw [a8, a6], by rw [a9, a7]⟩⟩
