/-! TEXT: THE HILLS side by side -/
theorem pt_wA {A k : Nat} (h : A + k < 2147483648) : px_wr ((A : Int) + (k : Int)) = ((A + k : Nat) : Int) := by rw [pz_wr_id (by omega) (by omega)]; omega
theorem pt_rdPass {A : Nat} (h : A + 4 < 240) (z : px_Z) : f_M_readPass z (A : Int) = (f_M_readTold (px_up z 166 A (-1)) 17 0 5).bind (fun q2 => if q2.1 = (-1) then some (-1, px_up q2.2 166 (A + 1) q2.1) else (f_M_readTold (px_up q2.2 166 (A + 1) q2.1) 18 0 60).bind (fun q6 => if q6.1 = (-1) then some (-1, px_up q6.2 166 (A + 2) q6.1) else (f_M_readTold (px_up q6.2 166 (A + 2) q6.1) 19 q6.1 60).bind (fun q11 => if q11.1 = (-1) then some (-1, px_up q11.2 166 (A + 3) q11.1) else (f_M_readTold (px_up q11.2 166 (A + 3) q11.1) 20 0 5).bind (fun q15 => if q15.1 = (-1) then some (-1, px_up q15.2 166 (A + 4) q15.1) else (f_M_readMark (px_up q15.2 166 (A + 4) q15.1) 59).bind (fun q19 => some (q19.1, q19.2)))))) := by
  have w0 : px_wr ((A : Int) + 0) = (A : Int) := pt_wA (k := 0) (by omega)
  have w1 : px_wr ((A : Int) + 1) = ((A + 1 : Nat) : Int) := pt_wA (k := 1) (by omega)
  have w2 : px_wr ((A : Int) + 2) = ((A + 2 : Nat) : Int) := pt_wA (k := 2) (by omega)
  have w3 : px_wr ((A : Int) + 3) = ((A + 3 : Nat) : Int) := pt_wA (k := 3) (by omega)
  have w4 : px_wr ((A : Int) + 4) = ((A + 4 : Nat) : Int) := pt_wA (k := 4) (by omega)
  have g : ∀ k : Nat, k < 240 → 0 ≤ (k : Int) ∧ (k : Int) < 240 := fun k hk => ⟨Int.natCast_nonneg _, by omega⟩
  unfold f_M_readPass
  simp only [w0, w1, w2, w3, w4, Int.toNat_natCast, pt_upi, if_pos (g A (Nat.lt_of_le_of_lt (Nat.le_add_right A 4) h)), if_pos (g (A + 1) (Nat.lt_of_le_of_lt (Nat.add_le_add_left (by decide : 1 ≤ 4) A) h)), if_pos (g (A + 2) (Nat.lt_of_le_of_lt (Nat.add_le_add_left (by decide : 2 ≤ 4) A) h)), if_pos (g (A + 3) (Nat.lt_of_le_of_lt (Nat.add_le_add_left (by decide : 3 ≤ 4) A) h)), if_pos (g (A + 4) h)]
theorem pt_rdCave {A : Nat} (h : A + 4 < 240) (z : px_Z) : f_M_readCave z (A : Int) = (f_M_readTold z 21 0 7).bind (fun q1 => if q1.1 = (-1) then some (-1, px_up q1.2 166 A q1.1) else (f_M_readTold (px_up q1.2 166 A q1.1) 22 0 5).bind (fun q5 => if q5.1 = (-1) then some (-1, px_up q5.2 166 (A + 1) q5.1) else (f_M_readMark (px_up q5.2 166 (A + 1) q5.1) 59).bind (fun q9 => some (q9.1, q9.2)))) := by
  have w0 : px_wr ((A : Int) + 0) = (A : Int) := pt_wA (k := 0) (by omega)
  have w1 : px_wr ((A : Int) + 1) = ((A + 1 : Nat) : Int) := pt_wA (k := 1) (by omega)
  have g : ∀ k : Nat, k < 240 → 0 ≤ (k : Int) ∧ (k : Int) < 240 := fun k hk => ⟨Int.natCast_nonneg _, by omega⟩
  unfold f_M_readCave
  simp only [w0, w1, Int.toNat_natCast, pt_upi, if_pos (g A (Nat.lt_of_le_of_lt (Nat.le_add_right A 4) h)), if_pos (g (A + 1) (Nat.lt_of_le_of_lt (Nat.add_le_add_left (by decide : 1 ≤ 4) A) h))]
/-- a new line of both -/
def pt_ro (n : Nat) (v w : px_Z) : Prop := (v 133 n = w 166 (120 + 5 * n) ∧ v 134 n = w 166 (121 + 5 * n) ∧ (v 133 n = -1 → v 135 n = w 166 (122 + 5 * n) ∧ v 136 n = w 166 (123 + 5 * n) ∧ v 137 n = w 166 (124 + 5 * n))) ∧ (-1 ≤ v 133 n ∧ v 133 n ≤ 7 ∧ 0 ≤ v 134 n ∧ v 134 n ≤ 5 ∧ (v 133 n = -1 → 0 ≤ v 135 n ∧ v 136 n ≤ 60 ∧ 0 ≤ v 137 n ∧ v 137 n ≤ 5))
def pt_row (n : Nat) (v w : px_Z) : Prop := v 132 0 = ((n + 1 : Nat) : Int) ∧ pt_ro n v w
theorem pt_outR {b : Nat → Int} {L T t : Nat} {u w : px_Z} (h : u 121 7 ≠ 0) (hA : ∃ t, pt_A u b L T t) (h1 : w 150 31 = u 121 7) (h2 : w 150 32 = u 121 8) : pt_out b L T t u w (-1) := Or.inr ⟨h, hA, rfl, h1, h2⟩
/-- the line's mark: both -/
theorem pt_markO {u z : px_Z} {b : Nat → Int} {L T t : Nat} (hA : pt_A u b L T t) (hB : pt_B z b L (pt_st b L t)) (h0 : u 121 7 = 0) {c : Int} (hc : pt_sg c = true) : ∃ v w r, f_Reader_expect u c = some v ∧ f_M_readMark z c = some (r, w) ∧ pt_fa u v ∧ pt_fb z w ∧ pt_out b L T (t + 1) v w r := by
  obtain ⟨v, w, r, a1, a2, a3, a4, a5⟩ := pt_mark hA hB h0 hc
  refine ⟨v, w, r, a1, a2, a3, a4, ?_⟩
  rcases a5 with ⟨ok, ht, hA1, hB1, h1, hr⟩ | ⟨nok, hA1, h7, h8, hr, g1, g2⟩
  · exact Or.inl ⟨h1, hA1, hB1, by omega⟩
  · exact Or.inr ⟨by omega, ⟨_, hA1⟩, hr, by rw [g1, h7], by rw [g2, h8]⟩
theorem pt_h5 {u z : px_Z} {b : Nat → Int} {L T t n : Nat} (hA : pt_A u b L T t) (hB : pt_B z b L (pt_st b L t)) (h0 : u 121 7 = 0) (hn : u 132 0 = (n : Int)) (hn4 : n < 24) (x1 x2 x3 x4 : Int) : ∃ v w r, pt_p5 x1 x2 x3 x4 u = some v ∧ f_M_readMark z 59 = some (r, w) ∧ pt_fhn n u v ∧ pt_fb z w ∧ pt_out b L T (t + 1) v w r ∧ v 132 0 = ((n + 1 : Nat) : Int) ∧ v 133 n = -1 ∧ v 134 n = x1 ∧ v 135 n = x2 ∧ v 136 n = x3 ∧ v 137 n = x4 := by
  obtain ⟨s, e1, k0, k1, k2, k3, k4, k5, e2⟩ := pt_addPass hn hn4 x1 x2 x3 x4
  have hs : pt_A s b L T t := pt_A_of hA (fun j hj => e2 121 j (by omega) (by omega)) (fun c j h1 h2 => e2 c j (by omega) (by omega))
  obtain ⟨v, w, r, a1, a2, a3, a4, a5⟩ := pt_markO hs hB ((e2 121 7 (by omega) (by omega)).trans h0) (c := 59) rfl
  unfold pt_p5
  rw [e1, Option.bind_some, a1, Option.bind_some]
  exact ⟨v, w, r, rfl, a2, fun c j g1 g2 g3 => (a3 c j g1).trans (e2 c j g2 g3), a4, a5, (a3 132 0 (by omega)).trans k0, (a3 133 n (by omega)).trans k1, (a3 134 n (by omega)).trans k2, (a3 135 n (by omega)).trans k3, (a3 136 n (by omega)).trans k4, (a3 137 n (by omega)).trans k5⟩
theorem pt_hc3 {u z : px_Z} {b : Nat → Int} {L T t n : Nat} (hA : pt_A u b L T t) (hB : pt_B z b L (pt_st b L t)) (h0 : u 121 7 = 0) (hn : u 132 0 = (n : Int)) (hn4 : n < 24) (x1 x2 : Int) : ∃ v w r, pt_c3 x1 x2 u = some v ∧ f_M_readMark z 59 = some (r, w) ∧ pt_fhn n u v ∧ pt_fb z w ∧ pt_out b L T (t + 1) v w r ∧ v 132 0 = ((n + 1 : Nat) : Int) ∧ v 133 n = x1 ∧ v 134 n = x2 := by
  obtain ⟨s, e1, k0, k1, k2, e2⟩ := pt_addCave hn hn4 x1 x2
  have hs : pt_A s b L T t := pt_A_of hA (fun j hj => e2 121 j (by omega) (by omega)) (fun c j h1 h2 => e2 c j (by omega) (by omega))
  obtain ⟨v, w, r, a1, a2, a3, a4, a5⟩ := pt_markO hs hB ((e2 121 7 (by omega) (by omega)).trans h0) (c := 59) rfl
  unfold pt_c3
  rw [e1, Option.bind_some, a1, Option.bind_some]
  exact ⟨v, w, r, rfl, a2, fun c j g1 g2 g3 => (a3 c j g1).trans (e2 c j g2 g3), a4, a5, (a3 132 0 (by omega)).trans k0, (a3 133 n (by omega)).trans k1, (a3 134 n (by omega)).trans k2⟩
/-- a token that is a WORD of the line: to step is to expect it -/
theorem pt_stepE {u : px_Z} {b : Nat → Int} {L T t : Nat} (hA : pt_A u b L T t) {k : Int} (h : pt_ck b L (pt_st b L t) = k) {v : px_Z} (he : f_Reader_expect u k = some v) : f_Reader_step u = some v := by
  obtain ⟨g1, g2, g3, g4⟩ := pt_A_tok hA
  unfold f_Reader_expect at he
  rw [if_pos g1, if_pos (g2.trans h), pz_ifu] at he
  exact he
set_option maxHeartbeats 1000000 in
theorem pt_pass {u z : px_Z} {b : Nat → Int} {L T t n : Nat} (hA : pt_A u b L T t) (hB : pt_B z b L (pt_st b L t)) (h0 : u 121 7 = 0) (hw : pt_ck b L (pt_st b L t) = 273) (hn : u 132 0 = (n : Int)) (hn4 : n < 24) : ∃ v1 v w r, f_Reader_step u = some v1 ∧ f_Reader_readHill v1 0 = some v ∧ f_M_readPass z ((120 + 5 * n : Nat) : Int) = some (r, w) ∧ pt_fhn n u v ∧ pt_ghn n z w ∧ pt_out b L T (t + 9) v w r ∧ (v 121 7 = 0 → pt_row n v w) := by
  rw [pt_rdPass (by omega)]
  obtain ⟨v1, v, w, r, x, a1, a2, a3, a4, a5, a6, a7⟩ := pt_tol (z := px_up z 166 (120 + 5 * n) (-1)) hA (pt_B_up hB (by omega) (by omega)) h0 (j := 17) (by decide) (k := 273) (m := 17) rfl rfl (lo := 0) (hi := 5) (by decide)
  refine ⟨v1, ?_⟩
  rw [pt_hill0, a2, a3, Option.bind_some, Option.bind_some]
  dsimp only
  have s1 := pt_stepE hA hw a1
  have p1 : pt_ghn n z (px_up w 166 (120 + 5 * n + 1) r) := fun c j g1 g2 => by rw [pt_upn (by omega), a5 c j g1, pt_upn (by omega)]
  rcases a6 with ⟨h7, hA1, hB1, hr⟩ | ⟨h7, hA1, hr, e31, e32⟩
  · rw [if_neg hr]
    have n1 := (a4 132 0 (by omega)).trans hn
    obtain ⟨v2, y, w2, r2, x2, b1, b2, b3, b4, b5, b6, b7⟩ := pt_tol (z := px_up w 166 (120 + 5 * n + 1) r) hA1 (pt_B_up hB1 (by omega) (by omega)) h7 (j := 18) (by decide) (k := 274) (m := 18) rfl rfl (lo := 0) (hi := 60) (by decide)
    rw [pt_p2, b1, Option.bind_some, b2, b3, Option.bind_some, Option.bind_some]
    dsimp only
    have p2 : pt_ghn n z (px_up w2 166 (120 + 5 * n + 2) r2) := fun c j g1 g2 => by rw [pt_upn (by omega), b5 c j g1]; exact p1 c j g1 g2
    rcases b6 with ⟨h7', hA2, hB2, hr2⟩ | ⟨h7', hA2, hr2, e31, e32⟩
    · rw [if_neg hr2]
      have n2 := (b4 132 0 (by omega)).trans n1
      obtain ⟨x2e, lo2, hi2⟩ := b7 h7'
      subst x2e
      obtain ⟨v3, y3, w3, r3, x3, c1, c2, c3, c4, c5, c6, c7⟩ := pt_tol (z := px_up w2 166 (120 + 5 * n + 2) x2) hA2 (pt_B_up hB2 (by omega) (by omega)) h7' (j := 19) (by decide) (k := 275) (m := 19) rfl rfl (lo := x2) (hi := 60) lo2
      rw [pt_p3, c1, Option.bind_some, c2, c3, Option.bind_some, Option.bind_some]
      dsimp only
      have p3 : pt_ghn n z (px_up w3 166 (120 + 5 * n + 3) r3) := fun c j g1 g2 => by rw [pt_upn (by omega), c5 c j g1]; exact p2 c j g1 g2
      rcases c6 with ⟨h73, hA3, hB3, hr3⟩ | ⟨h73, hA3, hr3, e31, e32⟩
      · rw [if_neg hr3]
        have n3 := (c4 132 0 (by omega)).trans n2
        obtain ⟨v4, y4, w4, r4, x4, d1, d2, d3, d4, d5, d6, d7⟩ := pt_tol (z := px_up w3 166 (120 + 5 * n + 3) r3) hA3 (pt_B_up hB3 (by omega) (by omega)) h73 (j := 20) (by decide) (k := 276) (m := 20) rfl rfl (lo := 0) (hi := 5) (by decide)
        rw [pt_p4, d1, Option.bind_some, d2, d3, Option.bind_some, Option.bind_some]
        dsimp only
        have p4 : pt_ghn n z (px_up w4 166 (120 + 5 * n + 4) r4) := fun c j g1 g2 => by rw [pt_upn (by omega), d5 c j g1]; exact p3 c j g1 g2
        rcases d6 with ⟨h74, hA4, hB4, hr4⟩ | ⟨h74, hA4, hr4, e31, e32⟩
        · rw [if_neg hr4]
          obtain ⟨v5, w5, r5, f1, f2, f3, f4, f5, q0, q1, q2, q3, q4, q5⟩ := pt_h5 (z := px_up w4 166 (120 + 5 * n + 4) r4) hA4 (pt_B_up hB4 (by omega) (by omega)) h74 ((d4 132 0 (by omega)).trans n3) hn4 x x2 x3 x4
          rw [f1, f2, Option.bind_some]
          refine ⟨v5, w5, r5, s1, rfl, rfl, fun c j g1 g2 g3 => (f3 c j g1 g2 g3).trans ((d4 c j g1).trans ((c4 c j g1).trans ((b4 c j g1).trans (a4 c j g1)))), fun c j g1 g2 => (f4 c j g1).trans (p4 c j g1 g2), f5, fun _ => ?_⟩
          obtain ⟨xe, lo1, hi1⟩ := a7 h7
          obtain ⟨x3e, lo3, hi3⟩ := c7 h73
          obtain ⟨x4e, lo4, hi4⟩ := d7 h74
          have i0 : w5 166 (120 + 5 * n) = -1 := by rw [f4 166 _ (by omega), pt_upn (by omega), d5 166 _ (by omega), pt_upn (by omega), c5 166 _ (by omega), pt_upn (by omega), b5 166 _ (by omega), pt_upn (by omega), a5 166 _ (by omega), pt_upi]
          have i1 : w5 166 (121 + 5 * n) = r := by rw [show 121 + 5 * n = 120 + 5 * n + 1 by omega, f4 166 _ (by omega), pt_upn (by omega), d5 166 _ (by omega), pt_upn (by omega), c5 166 _ (by omega), pt_upn (by omega), b5 166 _ (by omega), pt_upi]
          have i2 : w5 166 (122 + 5 * n) = x2 := by rw [show 122 + 5 * n = 120 + 5 * n + 2 by omega, f4 166 _ (by omega), pt_upn (by omega), d5 166 _ (by omega), pt_upn (by omega), c5 166 _ (by omega), pt_upi]
          have i3 : w5 166 (123 + 5 * n) = r3 := by rw [show 123 + 5 * n = 120 + 5 * n + 3 by omega, f4 166 _ (by omega), pt_upn (by omega), d5 166 _ (by omega), pt_upi]
          have i4 : w5 166 (124 + 5 * n) = r4 := by rw [show 124 + 5 * n = 120 + 5 * n + 4 by omega, f4 166 _ (by omega), pt_upi]
          unfold pt_row pt_ro
          rw [i0, i1, i2, i3, i4, q0, q1, q2, q3, q4, q5]
          exact ⟨rfl, ⟨rfl, xe, fun _ => ⟨rfl, x3e, x4e⟩⟩, by omega, by omega, by omega, by omega, fun _ => ⟨by omega, by omega, by omega, by omega⟩⟩
        · rw [if_pos hr4]
          obtain ⟨v5, f1, f2, f3⟩ := pt_d5 hA4 h74 ((d4 132 0 (by omega)).trans n3) hn4 x x2 x3 x4
          rw [f1]
          exact ⟨v5, _, _, s1, rfl, rfl, fun c j g1 g2 g3 => (f3 c j g1 g2 g3).trans ((d4 c j g1).trans ((c4 c j g1).trans ((b4 c j g1).trans (a4 c j g1)))), p4, pt_outR (by rw [f2.1]; exact h74) f2.2.2 (by rw [pt_upn (by omega), f2.1]; exact e31) (by rw [pt_upn (by omega), f2.2.1]; exact e32), fun h => absurd (f2.1.symm.trans h) h74⟩
      · rw [if_pos hr3]
        obtain ⟨v5, f1, f2, f3⟩ := pt_d4 hA3 h73 ((c4 132 0 (by omega)).trans n2) hn4 x x2 x3
        rw [f1]
        exact ⟨v5, _, _, s1, rfl, rfl, fun c j g1 g2 g3 => (f3 c j g1 g2 g3).trans ((c4 c j g1).trans ((b4 c j g1).trans (a4 c j g1))), p3, pt_outR (by rw [f2.1]; exact h73) f2.2.2 (by rw [pt_upn (by omega), f2.1]; exact e31) (by rw [pt_upn (by omega), f2.2.1]; exact e32), fun h => absurd (f2.1.symm.trans h) h73⟩
    · rw [if_pos hr2]
      obtain ⟨v5, f1, f2, f3⟩ := pt_d3 hA2 h7' ((b4 132 0 (by omega)).trans n1) hn4 x x2
      rw [f1]
      exact ⟨v5, _, _, s1, rfl, rfl, fun c j g1 g2 g3 => (f3 c j g1 g2 g3).trans ((b4 c j g1).trans (a4 c j g1)), p2, pt_outR (by rw [f2.1]; exact h7') f2.2.2 (by rw [pt_upn (by omega), f2.1]; exact e31) (by rw [pt_upn (by omega), f2.2.1]; exact e32), fun h => absurd (f2.1.symm.trans h) h7'⟩
  · rw [if_pos hr]
    obtain ⟨v5, f1, f2, f3⟩ := pt_d2 hA1 h7 ((a4 132 0 (by omega)).trans hn) hn4 x
    rw [f1]
    exact ⟨v5, _, _, s1, rfl, rfl, fun c j g1 g2 g3 => (f3 c j g1 g2 g3).trans (a4 c j g1), p1, pt_outR (by rw [f2.1]; exact h7) f2.2.2 (by rw [pt_upn (by omega), f2.1]; exact e31) (by rw [pt_upn (by omega), f2.2.1]; exact e32), fun h => absurd (f2.1.symm.trans h) h7⟩
theorem pt_cave {u z : px_Z} {b : Nat → Int} {L T t n : Nat} (hA : pt_A u b L T t) (hB : pt_B z b L (pt_st b L t)) (h0 : u 121 7 = 0) (hw : pt_ck b L (pt_st b L t) = 277) (hn : u 132 0 = (n : Int)) (hn4 : n < 24) : ∃ v1 v w r, f_Reader_step u = some v1 ∧ f_Reader_readHill v1 1 = some v ∧ f_M_readCave z ((120 + 5 * n : Nat) : Int) = some (r, w) ∧ pt_fhn n u v ∧ pt_ghn n z w ∧ pt_out b L T (t + 5) v w r ∧ (v 121 7 = 0 → pt_row n v w) := by
  rw [pt_rdCave (by omega)]
  obtain ⟨v1, v, w, r, x, a1, a2, a3, a4, a5, a6, a7⟩ := pt_tol (z := z) hA hB h0 (j := 21) (by decide) (k := 277) (m := 21) rfl rfl (lo := 0) (hi := 7) (by decide)
  refine ⟨v1, ?_⟩
  rw [pt_hill1, a2, a3, Option.bind_some, Option.bind_some]
  dsimp only
  have s1 := pt_stepE hA hw a1
  have p1 : pt_ghn n z (px_up w 166 (120 + 5 * n) r) := fun c j g1 g2 => by rw [pt_upn (by omega), a5 c j g1]
  rcases a6 with ⟨h7, hA1, hB1, hr⟩ | ⟨h7, hA1, hr, e31, e32⟩
  · rw [if_neg hr]
    have n1 := (a4 132 0 (by omega)).trans hn
    obtain ⟨v2, y, w2, r2, x2, b1, b2, b3, b4, b5, b6, b7⟩ := pt_tol (z := px_up w 166 (120 + 5 * n) r) hA1 (pt_B_up hB1 (by omega) (by omega)) h7 (j := 22) (by decide) (k := 278) (m := 22) rfl rfl (lo := 0) (hi := 5) (by decide)
    rw [pt_c2, b1, Option.bind_some, b2, b3, Option.bind_some, Option.bind_some]
    dsimp only
    have p2 : pt_ghn n z (px_up w2 166 (120 + 5 * n + 1) r2) := fun c j g1 g2 => by rw [pt_upn (by omega), b5 c j g1]; exact p1 c j g1 g2
    rcases b6 with ⟨h7', hA2, hB2, hr2⟩ | ⟨h7', hA2, hr2, e31, e32⟩
    · rw [if_neg hr2]
      obtain ⟨v5, w5, r5, f1, f2, f3, f4, f5, q0, q1, q2⟩ := pt_hc3 (z := px_up w2 166 (120 + 5 * n + 1) r2) hA2 (pt_B_up hB2 (by omega) (by omega)) h7' ((b4 132 0 (by omega)).trans n1) hn4 x x2
      rw [f1, f2, Option.bind_some]
      refine ⟨v5, w5, r5, s1, rfl, rfl, fun c j g1 g2 g3 => (f3 c j g1 g2 g3).trans ((b4 c j g1).trans (a4 c j g1)), fun c j g1 g2 => (f4 c j g1).trans (p2 c j g1 g2), f5, fun _ => ?_⟩
      obtain ⟨xe, lo1, hi1⟩ := a7 h7
      obtain ⟨x2e, lo2, hi2⟩ := b7 h7'
      have i0 : w5 166 (120 + 5 * n) = r := by rw [f4 166 _ (by omega), pt_upn (by omega), b5 166 _ (by omega), pt_upi]
      have i1 : w5 166 (121 + 5 * n) = r2 := by rw [show 121 + 5 * n = 120 + 5 * n + 1 by omega, f4 166 _ (by omega), pt_upi]
      unfold pt_row pt_ro
      rw [i0, i1, q0, q1, q2]
      exact ⟨rfl, ⟨xe, x2e, fun h => by omega⟩, by omega, by omega, by omega, by omega, fun h => by omega⟩
    · rw [if_pos hr2]
      obtain ⟨v5, f1, f2, f3⟩ := pt_dc3 hA2 h7' ((b4 132 0 (by omega)).trans n1) hn4 x x2
      rw [f1]
      exact ⟨v5, _, _, s1, rfl, rfl, fun c j g1 g2 g3 => (f3 c j g1 g2 g3).trans ((b4 c j g1).trans (a4 c j g1)), p2, pt_outR (by rw [f2.1]; exact h7') f2.2.2 (by rw [pt_upn (by omega), f2.1]; exact e31) (by rw [pt_upn (by omega), f2.2.1]; exact e32), fun h => absurd (f2.1.symm.trans h) h7'⟩
  · rw [if_pos hr]
    obtain ⟨v5, f1, f2, f3⟩ := pt_dc2 hA1 h7 ((a4 132 0 (by omega)).trans hn) hn4 x
    rw [f1]
    exact ⟨v5, _, _, s1, rfl, rfl, fun c j g1 g2 g3 => (f3 c j g1 g2 g3).trans (a4 c j g1), p1, pt_outR (by rw [f2.1]; exact h7) f2.2.2 (by rw [pt_upn (by omega), f2.1]; exact e31) (by rw [pt_upn (by omega), f2.2.1]; exact e32), fun h => absurd (f2.1.symm.trans h) h7⟩
