/-! TEXT: conditions, the induction -/
set_option maxHeartbeats 4000000 in
theorem pt_stepE2 {b : Nat → Int} {L T k0 n : Nat} (hC : pt_CC b L T k0 n) : pt_EE b L T k0 (n + 1) := by
  intro h o t m fm e ts u z br hn ho he hS hP hl hme hfm h30 hh hb h28 hb0 hb1
  have hbig : px_big = 1000000 := rfl
  obtain ⟨v, w, a1, a2, a3⟩ := hC 0 h o t m fm e ts u z br (by omega) ho (Nat.zero_le _) he hS hP (by omega) (by omega) hfm h30 (by omega) (fun i i1 i2 => by omega) (fun q hq => (hb q hq).1) h28 hb0 hb1
  rw [g_0, a1, Option.bind_some]
  rcases a3 with ⟨v', t', m', fm', c1, c2, c3, c4, c5, c6, c7, c8, c9, c10, c11⟩ | ⟨c1, c2, c3⟩
  · have ev : v = v' := by injection c1
    subst ev
    obtain ⟨htT, hT⟩ := pt_T4 c7.1
    obtain ⟨v2, w2, i1, i2, i3, i4⟩ := pt_eiL hC (h := h) (o := o) (e := e) (ts := ts) (br := br) (by omega) ho he hl hh hb0 hb1 (T - t') px_big fm' 0 0 t' m' v w w rfl (by omega) (by omega) c3 (by omega) (pt_sett0' c9 (by omega) (fun q hq => by rw [c11 q (by omega)]; exact (hb q hq).2.1)) (fun _ _ _ _ => rfl) c7.2.1 c7 (pt_Pfc hP c8 a2) c9 (fun w1 => by omega) (fun q hq => by rw [c11 q (by omega)]; exact (hb q hq).2) (c10.trans (by rw [Nat.sub_zero])) (by omega)
    refine ⟨v2, w2, i1, pt_flT c8 i2 (by omega), pt_gcT a2 i3, ?_⟩
    rcases i4 with ⟨t2, m2, fm2, j1, j2, j3, j4, j5, j6, j7, j8, j9⟩ | ⟨j1, j2⟩
    · exact Or.inl ⟨t2, m2, fm2, c2.trans j1, j2, by omega, by omega, j5, j6, j7, j8, fun i hi => (j9 i hi).trans (c11 i hi)⟩
    · exact Or.inr ⟨c2.trans j1, pt_Xmo j2 (by omega)⟩
  · have e1 : l_Reader_readEither_7 (g_0 n) px_big v (o : Int) 0 0 = some v := pt_eiD c2.1 999999 _ _ _
    exact ⟨v, w, e1, c3, a2, Or.inr ⟨c1, c2⟩⟩
theorem pt_SB {b : Nat → Int} {L T k0 t m : Nat} {ts : List Nat} {u z w : px_Z} (hS : pt_S b L T k0 t m ts u z) (h : ∀ c j, ¬ (c = 150 ∧ (j = 28 ∨ j = 30)) → w c j = z c j) : pt_S b L T k0 t m ts u w := by
  obtain ⟨hA, hB, h0, hQ⟩ := hS
  refine ⟨hA, pt_B_of hB (fun j g1 g2 => h 150 j (by omega)) (fun j => h 156 j (by omega)) (fun j => h 157 j (by omega)), h0, ?_⟩
  obtain ⟨c1, c2, c3, c4, c5⟩ := hQ
  refine ⟨c1, (h 150 27 (by omega)).trans c2, c3, c4, fun i hi => ?_⟩
  rw [h 163 _ (by omega), h 164 _ (by omega), h 150 26 (by omega)]
  exact c5 i hi
theorem pt_XD {b : Nat → Int} {L T m : Nat} {u w : px_Z} (h : pt_X b L T m u w) (k : Int) : ∃ v, f_Reader_expect u k = some v ∧ pt_X b L T m v w ∧ pt_fa u v := by
  obtain ⟨h1, ⟨t, h2⟩, h3, h4, h5⟩ := h
  obtain ⟨v, a1, a2, a3⟩ := pt_expectD h2 h1 k
  exact ⟨v, a1, ⟨by rw [a3 121 7 (by omega)]; exact h1, a2, by rw [a3 125 1 (by omega)]; exact h3, by rw [a3 121 7 (by omega)]; exact h4, by rw [a3 121 8 (by omega)]; exact h5⟩, fun c j g => a3 c j (by omega)⟩
theorem pt_wsuc8 {o : Nat} (h : o ≤ 8) : px_wr ((o : Int) + 1) = ((o + 1 : Nat) : Int) := pz_wr_suc (by omega)
set_option maxHeartbeats 4000000 in
theorem pt_stepC {b : Nat → Int} {L T k0 n : Nat} (hC : pt_CC b L T k0 n) (hE : pt_EE b L T k0 n) : pt_CC b L T k0 (n + 1) := by
  intro k p o t m fm e ts u z br hn ho hko he hS hP hl hme hfm h30 hh h9 hb h28 hb0 hb1
  obtain ⟨htT, hT⟩ := pt_T4 hS.1
  obtain ⟨fm, rfl⟩ : ∃ q, fm = q + 1 := ⟨fm - 1, by omega⟩
  obtain ⟨g1, g2, g3, g4⟩ := pt_A_tok hS.1
  by_cases h272 : pt_ck b L (pt_st b L t) = 272
  · rw [pt_anyN (pt_isW1 hS.2.1 (j := 16) (by decide) (k := 272) (m := 7) rfl rfl h272), h28]
    by_cases o8 : o < 8
    · have ht := pt_A_end hS.1 (by rw [h272]; decide)
      rw [pt_gN g1 (g2.trans h272) (show (o : Int) < 8 by omega), if_neg (show ¬ (o : Int) = 8 by omega), pt_wsuc8 ho]
      have S1 : pt_S b L T k0 t m ts u (px_up z 150 28 ((o + 1 : Nat) : Int)) := pt_SB hS (fun c j g => pt_upn (by omega))
      obtain ⟨v1, w1, w2, a1, a2, a3, a4, a5, a6, a7, a8, a9, a10⟩ := pt_push S1 ht (p := p + k) (by rw [pt_upn (by omega)]; exact h30) (by omega) 9
      have G1 : pt_gc z w2 := fun c j q1 q2 q3 => (a6 c j q1 q2 q3).trans (pt_upn (by omega))
      have z9 : ∀ j, j ≠ p + k → w2 165 j = z 165 j := fun j hj => (a9 j hj).trans (pt_upn (by omega))
      rw [a1, Option.bind_some, a2, Option.bind_some, a3, Option.bind_some]
      obtain ⟨v2, w3, b1, b2, b3⟩ := hC (k + 1) p (o + 1) (t + 1) m fm e ts v1 w2 br (by omega) (by omega) (by omega) he a4 (pt_Pfc hP (pt_flA (m := m) a5) G1) (by omega) (by omega) (by omega) a7 (by omega) (fun i i1 i2 => by
        by_cases ei : i = p + k
        · rw [ei]; exact a8
        · rw [z9 i ei]; exact h9 i i1 (by omega)) (fun q hq => by rw [z9 q (by omega)]; exact hb q hq) (a10.trans pt_upi) hb0 (by omega)
      rw [b1, Option.bind_some]
      have G3 : pt_gc z w3 := pt_gcT G1 b2
      rcases b3 with ⟨v2', t', m', fm', c1, c2, c3, c4, c5, c6, c7, c8, c9, c10, c11⟩ | ⟨c1, c2, c3⟩
      · rw [pt_nots] at c1
        cases hpq : f_Law_put v2 272 with
        | none => rw [hpq] at c1; cases c1
        | some v3 =>
          rw [hpq, Option.bind_some] at c1
          refine ⟨v3, w3, rfl, G3, Or.inl ⟨v2', t', m', fm', c1, c2, c3, by omega, c5, c6, c7, pt_flT (pt_flA a5) c8 (Nat.le_refl m), c9, c10.trans ?_, fun i hi => (c11 i hi).trans (z9 i (by omega))⟩⟩
          rw [show o + 1 - (k + 1) = o - k by omega]
      · obtain ⟨v3, d1, d2, d3⟩ := pt_putX c2 272
        rw [d1, Option.bind_some]
        exact ⟨v3, w3, rfl, G3, Or.inr ⟨c1, d2, pt_flT (pt_flT (pt_flA a5) c3 (Nat.le_refl m)) d3 (Nat.le_refl m)⟩⟩
    · rw [pt_g8 g1 (Or.inr (g2.trans h272)) (show ¬ (o : Int) < 8 by omega), if_pos (show (o : Int) = 8 by omega)]
      obtain ⟨v, w, a1, a2, a3, a4, a5⟩ := pt_no hS (k := 3) (by decide)
      rw [a1, a2, Option.bind_some, Option.bind_some]
      exact ⟨v, w, rfl, pt_gcB a5, Or.inr ⟨rfl, a3, pt_flA a4⟩⟩
  · have n7 : f_M_isWord z 7 = 0 := pt_isW0 hS.2.1 (j := 16) (by decide) (k := 272) (m := 7) rfl rfl h272
    by_cases h40 : pt_ck b L (pt_st b L t) = 40
    · rw [pt_anyP n7 (pt_isS1 hS.2.1 (c := 40) rfl h40), h28]
      by_cases o8 : o < 8
      · have ht := pt_A_end hS.1 (by rw [h40]; decide)
        rw [pt_gP g1 (g2.trans h40) (show (o : Int) < 8 by omega), if_neg (show ¬ (o : Int) = 8 by omega), pt_wsuc8 ho, pz_wr_id (x := br + 1) (by omega) (by omega)]
        have S1 : pt_S b L T k0 t m ts u (px_up z 150 28 ((o + 1 : Nat) : Int)) := pt_SB hS (fun c j g => pt_upn (by omega))
        obtain ⟨v1, w1, w2, a1, a2, a3, a4, a5, a6, a7, a8, a9, a10⟩ := pt_push S1 ht (p := p + k) (by rw [pt_upn (by omega)]; exact h30) (by omega) 12
        have G1 : pt_gc z w2 := fun c j q1 q2 q3 => (a6 c j q1 q2 q3).trans (pt_upn (by omega))
        have z9 : ∀ j, j ≠ p + k → w2 165 j = z 165 j := fun j hj => (a9 j hj).trans (pt_upn (by omega))
        rw [a1, Option.bind_some, a2, Option.bind_some, a3, Option.bind_some]
        obtain ⟨v2, w3, b1, b2, b3, b4⟩ := hE (p + k + 1) (o + 1) (t + 1) m fm (e + k) ts v1 w2 (br + 1) (by omega) (by omega) (by omega) a4 (pt_Pfc hP (pt_flA (m := m) a5) G1) (by omega) (by omega) (by omega) a7 (by omega) (fun q hq => by rw [show q = p + k by omega, a8]; decide) (a10.trans pt_upi) (by omega) (by omega)
        rw [b1, Option.bind_some]
        have G3 : pt_gc z w3 := pt_gcT G1 b3
        have F2 : pt_fl m u v2 := pt_flT (pt_flA a5) b2 (Nat.le_refl m)
        rcases b4 with ⟨t', m', fm', c1, c2, c3, c4, c5, c6, c7, c8, c9⟩ | ⟨c1, c2⟩
        · rw [c1]
          obtain ⟨htT', _⟩ := pt_T4 c6.1
          obtain ⟨y1, y2, y3, y4⟩ := pt_A_tok c6.1
          unfold pt_ex
          rw [if_neg (show ¬ br + 1 = 0 by omega)]
          by_cases h41 : pt_ck b L (pt_st b L t') = 41
          · have ht' := pt_A_end c6.1 (by rw [h41]; decide)
            obtain ⟨v3, d1, d2, d3⟩ := pt_step c6.1 ht'
            have ex : f_Reader_expect v2 41 = some v3 := by
              unfold f_Reader_expect
              rw [if_pos y1, if_pos (y2.trans h41), d1, Option.bind_some]
            have S4 : pt_S b L T k0 t' m' (1 :: ts) v2 (px_up (px_up w3 150 30 ((p + k : Nat) : Int)) 150 28 (o : Int)) := pt_SB c6 (fun c j g => by rw [pt_upn (by omega), pt_upn (by omega)])
            have z4 : ∀ c j, ¬ (c = 150 ∧ (j = 28 ∨ j = 30)) → px_up (px_up w3 150 30 ((p + k : Nat) : Int)) 150 28 (o : Int) c j = w3 c j := fun c j g => by rw [pt_upn (by omega), pt_upn (by omega)]
            have e164 : ∀ i, i < p + k → px_up (px_up w3 150 30 ((p + k : Nat) : Int)) 150 28 (o : Int) 165 i = z 165 i := fun i hi => (z4 165 i (by omega)).trans ((c9 i (by omega)).trans (z9 i (by omega)))
            have Q4 := pt_Qfr S4.2.2.2 (fun c j g => d3 c j (by omega) : pt_fa v2 v3) (fun _ _ _ => rfl)
            obtain ⟨v', w5, f1, f2, f3, f4, f5, f6, f7⟩ := pt_settN (k0 := k0) (p := p) (ts := ts) k px_big m' o v3 _ (by have hbig : px_big = 1000000 := rfl; omega) Q4 (by rw [pt_upn (by omega), pt_upi]) (by omega) (fun i i1 i2 => (e164 i i2).trans (h9 i i1 i2)) (fun q hq => by rw [e164 q (by omega)]; exact hb q hq) pt_upi hko ho (by omega)
            obtain ⟨w6, q1, q2, q3⟩ := pt_next (t := t') (pt_geB S4.2.1 f7)
            have f2' : f_M_settles (px_up (px_up w3 150 30 ((p + k : Nat) : Int)) 150 28 (o : Int)) 9 = some w5 := f2
            rw [pt_isS1 c6.2.1 (c := 41) rfl h41, if_neg pt_1n0, c7, pt_wm1 (by omega), pt_upn (by omega), c8, pt_wm1 (by omega), f2', Option.bind_some, q1, Option.bind_some, ex, Option.bind_some, show br + 1 - 1 = br by omega, pz_wr_id (x := br) (by omega) (by omega)]
            have G6 : pt_gc z w6 := fun c j g1 g2 g3 => (q3 c j (by omega)).trans ((f7 c j (by omega) g2).trans ((z4 c j (by omega)).trans (G3 c j g1 g2 g3)))
            refine ⟨v3, w6, rfl, G6, Or.inl ⟨v', t' + 1, m' + k, fm', f1, rfl, by omega, by omega, by omega, by omega, ⟨pt_fpA d2 f6, q2, (f6 121 7 (by omega) (by omega)).trans ((d3 121 7 (by omega)).trans c6.2.2.1), pt_Qfr f3 (fun _ _ _ => rfl) (fun c j g => q3 c j (by omega))⟩, ?_, (q3 150 30 (by omega)).trans f4, (q3 150 28 (by omega)).trans f5, fun i hi => (q3 165 i (by omega)).trans ((f7 165 i (by omega) (by omega)).trans (e164 i (by omega)))⟩⟩
            exact pt_flT F2 (fun c j g1 g2 g3 => (f6 c j g2 g3).trans (d3 c j (by omega)) : pt_fl m' v2 v') (by omega)
          · obtain ⟨v3, w4, d1, d2, d3, d4, d5⟩ := pt_no c6 (k := 1) (by decide)
            have ex : f_Reader_expect v2 41 = some v3 := by
              unfold f_Reader_expect
              rw [if_pos y1, if_neg (fun hh => h41 (y2.symm.trans hh)), d1, Option.bind_some]
            rw [pt_isS0 c6.2.1 (c := 41) rfl h41, if_pos rfl, d2, Option.bind_some, ex, Option.bind_some]
            exact ⟨v3, w4, rfl, pt_gcT G3 (pt_gcB d5), Or.inr ⟨rfl, pt_Xmo d3 (by omega), pt_flT F2 (pt_flA d4) (Nat.le_refl m)⟩⟩
        · obtain ⟨v3, d1, d2, d3⟩ := pt_XD c2 41
          rw [d1, Option.bind_some]
          exact ⟨v3, w3, rfl, G3, Or.inr ⟨c1, d2, pt_flT F2 (pt_flA d3) (Nat.le_refl m)⟩⟩
      · rw [pt_g8 g1 (Or.inl (g2.trans h40)) (show ¬ (o : Int) < 8 by omega), if_pos (show (o : Int) = 8 by omega)]
        obtain ⟨v, w, a1, a2, a3, a4, a5⟩ := pt_no hS (k := 3) (by decide)
        rw [a1, a2, Option.bind_some, Option.bind_some]
        exact ⟨v, w, rfl, pt_gcB a5, Or.inr ⟨rfl, a3, pt_flA a4⟩⟩
    · rw [pt_anyC n7 (pt_isS0 hS.2.1 (c := 40) rfl h40), pt_gC g1 (fun hh => h40 (g2.symm.trans hh)) (fun hh => h272 (g2.symm.trans hh))]
      obtain ⟨v, w, r, a1, a2, a3, a4, a5⟩ := pt_cmp (e := e + k) hS hP (by omega) (by omega) (by omega)
      rw [a1, a2, Option.bind_some]
      dsimp only
      rcases a5 with ⟨rfl, t', m', c1, c2, c3, c4⟩ | ⟨rfl, c1⟩
      · rw [if_neg pt_0n1]
        obtain ⟨htT', _⟩ := pt_T4 c4.1
        have e164 : ∀ i, w 165 i = z 165 i := fun i => a4 165 i (by omega) (by omega)
        obtain ⟨v', w', d1, d2, d3, d4, d5, d6, d7⟩ := pt_settN (k0 := k0) (p := p) (ts := ts) k px_big m' o v w (by have hbig : px_big = 1000000 := rfl; omega) c4.2.2.2 ((a4 150 30 (by omega) (by omega)).trans h30) (by omega) (fun i i1 i2 => (e164 i).trans (h9 i i1 i2)) (fun q hq => by rw [e164 q]; exact hb q hq) ((a4 150 28 (by omega) (by omega)).trans h28) hko ho (by omega)
        have d2' : f_M_settles w 9 = some w' := d2
        rw [d2', Option.bind_some]
        exact ⟨v, w', rfl, pt_gcT (pt_gcS a4) (pt_gec d7), Or.inl ⟨v', t', m' + k, fm, d1, rfl, by omega, c1, by omega, by omega, pt_ScP c4 d6 d7 d3, pt_flT a3 (pt_fpl d6) (by omega), d4, d5, fun i hi => (d7 165 i (by omega) (by omega)).trans (e164 i)⟩⟩
      · rw [if_pos rfl]
        exact ⟨v, w, rfl, pt_gcS a4, Or.inr ⟨rfl, c1, a3⟩⟩
theorem pt_conds {b : Nat → Int} {L T k0 : Nat} : ∀ n, pt_CC b L T k0 n ∧ pt_EE b L T k0 n := by
  intro n
  induction n with
  | zero =>
    refine ⟨?_, ?_⟩
    · intro k p o t m fm e ts u z br hn; omega
    · intro h o t m fm e ts u z br hn; omega
  | succ n ih => exact ⟨pt_stepC ih.1 ih.2, pt_stepE2 ih.1⟩
/-- B of a line, both ways -/
theorem pt_either {b : Nat → Int} {L T k0 t m e : Nat} {u z : px_Z} (he : 1 ≤ e) (hS : pt_S b L T k0 t m [] u z) (hP : pt_P u z) (hme : m + e ≤ t) (h28 : z 150 28 = 0) : ∃ v w r, f_Reader_readEither u 0 = some v ∧ f_M_readAny z = some (r, w) ∧ pt_fl m u v ∧ pt_gc z w ∧ ((r = 0 ∧ ∃ t' m', t < t' ∧ m < m' ∧ m' + e ≤ t' ∧ pt_S b L T k0 t' m' [1] v w ∧ w 150 28 = 0) ∨ (r = -1 ∧ pt_X b L T m v w)) := by
  have hbig : px_big = 1000000 := rfl
  have S1 : pt_S b L T k0 t m [] u (px_up z 150 30 0) := pt_SB hS (fun c j g => pt_upn (by omega))
  have P1 : pt_P u (px_up z 150 30 0) := by unfold pt_P; rw [pt_upn (by omega)]; exact hP
  obtain ⟨htT, hT⟩ := pt_T4 hS.1
  obtain ⟨v, w, a1, a2, a3, a4⟩ := (pt_conds 24).2 0 0 t m px_big e [] u (px_up z 150 30 0) 0 (by omega) (by omega) he S1 P1 (by decide) hme (by omega) pt_upi (by omega) (fun q hq => by omega) (by rw [pt_upn (by omega)]; exact h28) (by decide) (by decide)
  have G : pt_gc z w := fun c j g1 g2 g3 => (a3 c j g1 g2 g3).trans (pt_upn (by omega))
  rcases a4 with ⟨t', m', fm', c1, c2, c3, c4, c5, c6, c7, c8, c9⟩ | ⟨c1, c2⟩
  · have e1 : f_M_readAny z = some (0, w) := c1.trans (by unfold pt_ex; rw [if_pos rfl])
    exact ⟨v, w, 0, a1, e1, a2, G, Or.inl ⟨rfl, t', m', c3, c4, c5, c6, c8⟩⟩
  · exact ⟨v, w, -1, a1, c1, a2, G, Or.inr ⟨rfl, c2⟩⟩
