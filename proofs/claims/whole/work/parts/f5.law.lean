/-! TEXT: a LAW, line by line -/
theorem pt_Sre {b : Nat → Int} {L T k0 t m : Nat} {ts : List Nat} {u z : px_Z} (hS : pt_S b L T k0 t m ts u z) : pt_S b L T m t m [] u z := by
  obtain ⟨hA, hB, h0, c1, c2, c3, c4, c5⟩ := hS
  exact ⟨hA, hB, h0, c1, c2, Nat.le_refl m, by rw [Nat.sub_self]; rfl, c5⟩
/-- a whole line of both -/
def pt_lnO (b : Nat → Int) (L T n m fm : Nat) (z v w : px_Z) : Prop := (∃ t' m', pt_rl (fm + 1) z (n : Int) = pt_rl fm w ((n + 1 : Nat) : Int) ∧ pt_S b L T m' t' m' [] v w ∧ m ≤ m' ∧ m' ≤ t' ∧ v 125 0 = ((n + 1 : Nat) : Int) ∧ w 150 28 = 0 ∧ pt_lnR n v w ∧ pz_lo (pz_lnv (v 126) (v 127) (v 128) (v 129)) (v 130) n ∧ v 129 n = (m' : Int)) ∨ (pt_rl (fm + 1) z (n : Int) = some (-1, w) ∧ v 121 7 ≠ 0 ∧ w 150 31 = v 121 7 ∧ w 150 32 = v 121 8)
/-- the line's end gives the line -/
theorem pt_lfin {b : Nat → Int} {L T k0 t m m2 m4 n fm : Nat} {ts : List Nat} {k : Nat} {z u4 w4 : px_Z} {ck : Int} (hn : n < 16) (hS : pt_S b L T k0 t m4 ts u4 w4) (hm : m ≤ m2) (hm2 : m2 ≤ m4) (hm4 : m4 + 1 ≤ t) (h125 : u4 125 0 = (n : Int)) (hk : k ≠ 1) (hty : pz_ty (u4 130) (m2 - m) m [] = some [k]) (hty2 : m2 ≠ m4 → pz_ty (u4 130) (m4 - m2) m2 [] = some [1]) (h158 : w4 159 (32 + n) = ck - 265) (h159 : w4 160 (32 + n) = (m : Int)) (h160 : w4 161 (32 + n) = (m2 : Int)) (h28 : w4 150 28 = 0) (hR : pt_rl (fm + 1) z (n : Int) = pt_le1 fm n w4) : ∃ v w, j_Reader_readLawLine_j60 u4 ck (m : Int) (m2 : Int) = some v ∧ pt_fL n m4 u4 v ∧ pt_gL n w4 w ∧ pt_lnO b L T n m fm z v w := by
  obtain ⟨v, w, a1, a2, a3, a4, a5⟩ := pt_lend hS hn h125 ck (m : Int) (m2 : Int) fm
  refine ⟨v, w, a1, a2, a4, ?_⟩
  obtain ⟨htT, hT⟩ := pt_T4 hS.1
  rcases a5 with ⟨ht, b1, b2, b3, b4, b5, b6, b7, b8, b9, b10, b11, b12, b13⟩ | ⟨b1, b2, b3, b4⟩
  · refine Or.inl ⟨t + 1, m4, hR.trans b1, ⟨b2, b3, b4, b6, b12, Nat.le_refl m4, by rw [Nat.sub_self]; rfl, fun i hi => ?_⟩, by omega, by omega, b5, (b13 150 28 (by omega) (by omega)).trans h28, ⟨?_, ?_, ?_, ?_⟩, ?_, b10⟩
    · rw [a3 i, b13 163 _ (by omega) (by omega), b13 164 _ (by omega) (by omega), b13 150 26 (by omega) (by omega)]
      exact hS.2.2.2.2.2.2.2 i hi
    · rw [b7, b13 159 _ (by omega) (by omega), h158]; omega
    · rw [b8, b13 160 _ (by omega) (by omega), h159]
    · rw [b9, b13 161 _ (by omega) (by omega), h160]
    · rw [b10, b11]
    · have e130 : v 130 = u4 130 := funext a3
      show 0 ≤ v 127 n ∧ v 127 n ≤ v 128 n ∧ v 128 n ≤ v 129 n ∧ v 129 n ≤ 400 ∧ (∃ t, pz_ty (v 130) ((v 128 n).toNat - (v 127 n).toNat) (v 127 n).toNat [] = some [t] ∧ t ≠ 1) ∧ (v 128 n ≠ v 129 n → pz_ty (v 130) ((v 129 n).toNat - (v 128 n).toNat) (v 128 n).toNat [] = some [1])
      rw [b8, b9, b10, e130, Int.toNat_natCast, Int.toNat_natCast, Int.toNat_natCast]
      exact ⟨Int.natCast_nonneg _, by omega, by omega, by omega, ⟨k, hty, hk⟩, fun h => hty2 (by omega)⟩
  · exact Or.inr ⟨hR.trans b1, b2, b3, b4⟩
set_option maxHeartbeats 2000000 in
theorem pt_lline {b : Nat → Int} {L T t m n : Nat} {u z : px_Z} (hS : pt_S b L T m t m [] u z) (hP : pt_P u z) (hK : pt_KN b L (pt_st b L t) z) (hn : n < 16) (h125 : u 125 0 = (n : Int)) (hmt : m ≤ t) (h28 : z 150 28 = 0) (fm : Nat) : ∃ v w, f_Reader_readLawLine u 0 = some v ∧ pt_fL n m u v ∧ pt_gL n z w ∧ pt_lnO b L T n m fm z v w := by
  obtain ⟨htT, hT⟩ := pt_T4 hS.1
  have hck : pt_ck b L (pt_st b L t) ≠ 0 := by rcases hK with h | h <;> omega
  have ht := pt_A_end hS.1 hck
  obtain ⟨l1, l2⟩ := pt_lw1 hS.2.1 hK
  have R0 := pt_rlE (fm := fm) hn l1
  rw [(pt_lwR hS.1 hP 0).1 hK]
  unfold j_Reader_readLawLine_j20
  rw [if_neg pt_1n0, if_pos rfl]
  have S0 : pt_S b L T m t m [] u (px_up z 159 (32 + n) (z 150 17)) := pt_SU hS (by omega)
  obtain ⟨v1, w1, a1, a2, a3, a4, a5⟩ := pt_go S0 ht
  rw [a1, Option.bind_some]
  rw [a2, Option.bind_some] at R0
  have S1 : pt_S b L T m (t + 1) m [] v1 (px_up w1 160 (32 + n) (w1 150 27)) := pt_SU a3 (by omega)
  have e27 : w1 150 27 = (m : Int) := a3.2.2.2.2.1
  have P1 : pt_P v1 w1 := pt_Pfr (pt_PU hP (by omega)) (pt_flA (m := m) a4) (pt_gsB a5)
  obtain ⟨v2, w2, r, b1, b2, b3, b4, b5⟩ := pt_sum (e := 1) S1 (pt_PU P1 (by omega)) (by decide) (by omega) (by omega)
  rw [b1, Option.bind_some]
  rw [b2, Option.bind_some] at R0
  dsimp only at R0
  have F2 : pt_fl m u v2 := pt_flT (pt_flA a4) b3 (Nat.le_refl m)
  have z2 : ∀ c j, ¬ (c = 150 ∧ ((14 ≤ j ∧ j ≤ 17) ∨ j = 27 ∨ j = 31 ∨ j = 32)) → ¬ ((c = 163 ∨ c = 164) ∧ 800 ≤ j) → ¬ ((c = 159 ∨ c = 160) ∧ j = 32 + n) → w2 c j = z c j := fun c j q1 q2 q3 => by rw [b4 c j q1 q2, pt_upn (by omega), a5 c j (by omega), pt_upn (by omega)]
  have e158 : w2 159 (32 + n) = pt_ck b L (pt_st b L t) - 265 := by rw [b4 159 _ (by omega) (by omega), pt_upn (by omega), a5 159 _ (by omega), pt_upi, l2]
  have e159 : w2 160 (32 + n) = (m : Int) := by rw [b4 160 _ (by omega) (by omega), pt_upi, e27]
  have m1 : v1 125 1 = (m : Int) := a3.2.2.2.1
  rw [m1]
  rcases b5 with ⟨rfl, t2, m2, k, hk, ht2, hm2, hme2, hS2⟩ | ⟨rfl, hX⟩
  · rw [if_neg pt_0n1] at R0
    obtain ⟨y1, y2, y3, y4⟩ := pt_A_tok hS2.1
    have e125 : v2 125 1 = (m2 : Int) := hS2.2.2.2.1
    have e27b : w2 150 27 = (m2 : Int) := hS2.2.2.2.2.1
    have hty := hS2.2.2.2.2.2.2.1
    have h1250 : v2 125 0 = (n : Int) := (F2 125 0 (by omega) (by omega) (by omega)).trans h125
    rw [if_pos hS2.2.2.1, if_pos y1, y2, e125]
    have S2 : pt_S b L T m t2 m2 [k] v2 (px_up w2 161 (32 + n) (w2 150 27)) := pt_SU hS2 (by omega)
    by_cases h269 : pt_ck b L (pt_st b L t2) = 269
    · have ht2' := pt_A_end hS2.1 (by rw [h269]; decide)
      rw [if_pos h269]
      rw [pt_isW1 S2.2.1 (j := 13) (by decide) (k := 269) (m := 4) rfl rfl h269, if_neg pt_1n0] at R0
      obtain ⟨v3, w3, c1, c2, c3, c4, c5⟩ := pt_go S2 ht2'
      rw [c1, Option.bind_some]
      rw [c2, Option.bind_some] at R0
      have F3 : pt_fl m u v3 := pt_flT F2 (pt_flA c4) (Nat.le_refl m)
      have z3 : ∀ c j, ¬ (c = 150 ∧ ((14 ≤ j ∧ j ≤ 17) ∨ j = 27 ∨ j = 31 ∨ j = 32)) → ¬ ((c = 163 ∨ c = 164) ∧ 800 ≤ j) → ¬ ((c = 159 ∨ c = 160 ∨ c = 161) ∧ j = 32 + n) → w3 c j = z c j := fun c j q1 q2 q3 => by rw [c5 c j (by omega), pt_upn (by omega)]; exact z2 c j q1 q2 (by omega)
      have P3 : pt_P v3 w3 := by
        unfold pt_P
        rw [F3 121 6 (by omega) (by omega) (by omega), z3 150 26 (by omega) (by omega) (by omega)]
        exact hP
      obtain ⟨v4, w4, r4, d1, d2, d3, d4, d5⟩ := pt_either (e := 1) (by omega) (pt_Sre c3) P3 (by omega) ((z3 150 28 (by omega) (by omega) (by omega)).trans h28)
      rw [d1, Option.bind_some]
      rw [d2, Option.bind_some] at R0
      dsimp only at R0
      have z4 : ∀ c, 159 ≤ c → c ≤ 161 → w4 c (32 + n) = w3 c (32 + n) := fun c q1 q2 => d4 c _ (by omega) (by omega) (by omega)
      have G4 : pt_gL n z w4 := fun c j q1 q2 q3 q4 => (d4 c j q1 q2 q3).trans (z3 c j (by omega) q2 (by omega))
      rcases d5 with ⟨rfl, t4, m4, ht4, hm4, hme4, hS4, h284⟩ | ⟨rfl, hX⟩
      · rw [if_neg pt_0n1] at R0
        have e34 : ∀ j, j < m2 → v4 130 j = v2 130 j := fun j hj => (d3 130 j (by omega) (by omega) (by omega)).trans (c4 130 j (by omega))
        obtain ⟨v, w, f1, f2, f3, f4⟩ := pt_lfin (m := m) (m2 := m2) (k := k) (z := z) (fm := fm) (ck := pt_ck b L (pt_st b L t)) hn hS4 (by omega) (by omega) hme4 (by rw [d3 125 0 (by omega) (by omega) (by omega), c4 125 0 (by omega)]; exact h1250) hk (by rw [pz_ty_congr (c := v4 130) (d := v2 130) _ _ _ (fun i q1 q2 => e34 i (by omega))]; exact hty) (fun _ => hS4.2.2.2.2.2.2.1) (by rw [z4 159 (by omega) (by omega), c5 159 _ (by omega), pt_upn (by omega)]; exact e158) (by rw [z4 160 (by omega) (by omega), c5 160 _ (by omega), pt_upn (by omega)]; exact e159) (by rw [z4 161 (by omega) (by omega), c5 161 _ (by omega), pt_upi, e27b]) h284 R0
        refine ⟨v, w, f1, fun c j q1 q2 q3 q4 => (f2 c j q1 q2 q3 (by omega)).trans ((d3 c j q1 (by omega) (by omega)).trans (F3 c j q1 (by omega) q4)), fun c j q1 q2 q3 q4 => (f3 c j q1 q2 q3 q4).trans (G4 c j q1 q2 q3 q4), f4⟩
      · rw [if_pos rfl] at R0
        unfold j_Reader_readLawLine_j60
        rw [if_neg hX.1]
        exact ⟨v4, w4, rfl, fun c j q1 q2 q3 q4 => (d3 c j q1 (by omega) (by omega)).trans (F3 c j q1 (by omega) q4), G4, Or.inr ⟨R0, hX.1, hX.2.2.2⟩⟩
    · rw [if_neg h269]
      rw [pt_isW0 S2.2.1 (j := 13) (by decide) (k := 269) (m := 4) rfl rfl h269, if_pos rfl] at R0
      obtain ⟨v, w, f1, f2, f3, f4⟩ := pt_lfin (m := m) (m2 := m2) (m4 := m2) (k := k) (z := z) (fm := fm) (ck := pt_ck b L (pt_st b L t)) hn S2 (by omega) (Nat.le_refl _) hme2 h1250 hk hty (fun h => absurd rfl h) (by rw [pt_upn (by omega)]; exact e158) (by rw [pt_upn (by omega)]; exact e159) (by rw [pt_upi, e27b]) (by rw [pt_upn (by omega)]; exact (z2 150 28 (by omega) (by omega) (by omega)).trans h28) R0
      exact ⟨v, w, f1, fun c j q1 q2 q3 q4 => (f2 c j q1 q2 q3 (by omega)).trans (F2 c j q1 (by omega) q4), fun c j q1 q2 q3 q4 => (f3 c j q1 q2 q3 q4).trans ((pt_upn (by omega)).trans (z2 c j (by omega) q2 (by omega))), f4⟩
  · rw [if_pos rfl] at R0
    rw [if_neg hX.1]
    unfold j_Reader_readLawLine_j60
    rw [if_neg hX.1]
    exact ⟨v2, w2, rfl, fun c j q1 q2 q3 q4 => F2 c j q1 (by omega) q4, fun c j q1 q2 q3 q4 => z2 c j (by omega) q2 (by omega), Or.inr ⟨R0, hX.1, hX.2.2.2⟩⟩
/-- the lines that are told -/
def pt_LN (n m : Nat) (u z : px_Z) : Prop := u 125 0 = (n : Int) ∧ ∀ l, l < n → pt_lnR l u z ∧ pz_lo (pz_lnv (u 126) (u 127) (u 128) (u 129)) (u 130) l ∧ u 129 l ≤ (m : Int)
theorem pt_LN_next {n m m' : Nat} {u z v w : px_Z} (hn : n < 16) (h : pt_LN n m u z) (hm : m ≤ m') (h1 : pt_fL n m u v) (h2 : pt_gL n z w) (h125 : v 125 0 = ((n + 1 : Nat) : Int)) (hr : pt_lnR n v w) (hlo : pz_lo (pz_lnv (v 126) (v 127) (v 128) (v 129)) (v 130) n) (h129 : v 129 n = (m' : Int)) : pt_LN (n + 1) m' v w := by
  refine ⟨h125, fun l hl => ?_⟩
  by_cases e : l = n
  · subst e; exact ⟨hr, hlo, by omega⟩
  · obtain ⟨⟨r1, r2, r3, r4⟩, r5, r6⟩ := h.2 l (by omega)
    have e6 : v 126 l = u 126 l := h1 126 l (by omega) (by omega) (by omega) (by omega)
    have e7 : v 127 l = u 127 l := h1 127 l (by omega) (by omega) (by omega) (by omega)
    have e8 : v 128 l = u 128 l := h1 128 l (by omega) (by omega) (by omega) (by omega)
    have e9 : v 129 l = u 129 l := h1 129 l (by omega) (by omega) (by omega) (by omega)
    refine ⟨⟨?_, ?_, ?_, ?_⟩, ?_, by rw [e9]; omega⟩
    · rw [e6, h2 159 _ (by omega) (by omega) (by omega) (by omega)]; exact r1
    · rw [e7, h2 160 _ (by omega) (by omega) (by omega) (by omega)]; exact r2
    · rw [e8, h2 161 _ (by omega) (by omega) (by omega) (by omega)]; exact r3
    · rw [e9, h2 162 _ (by omega) (by omega) (by omega) (by omega)]; exact r4
    · have r5' : 0 ≤ u 127 l ∧ u 127 l ≤ u 128 l ∧ u 128 l ≤ u 129 l ∧ u 129 l ≤ 400 ∧ (∃ t, pz_ty (u 130) ((u 128 l).toNat - (u 127 l).toNat) (u 127 l).toNat [] = some [t] ∧ t ≠ 1) ∧ (u 128 l ≠ u 129 l → pz_ty (u 130) ((u 129 l).toNat - (u 128 l).toNat) (u 128 l).toNat [] = some [1]) := r5
      show 0 ≤ v 127 l ∧ v 127 l ≤ v 128 l ∧ v 128 l ≤ v 129 l ∧ v 129 l ≤ 400 ∧ (∃ t, pz_ty (v 130) ((v 128 l).toNat - (v 127 l).toNat) (v 127 l).toNat [] = some [t] ∧ t ≠ 1) ∧ (v 128 l ≠ v 129 l → pz_ty (v 130) ((v 129 l).toNat - (v 128 l).toNat) (v 128 l).toNat [] = some [1])
      rw [e7, e8, e9]
      obtain ⟨q1, q2, q3, q4, ⟨tt, q5, q6⟩, q7⟩ := r5'
      refine ⟨q1, q2, q3, q4, ⟨tt, ?_, q6⟩, fun hh => ?_⟩
      · rw [pz_ty_congr (c := v 130) (d := u 130) _ _ _ (fun i i1 i2 => h1 130 i (by omega) (by omega) (by omega) (by omega))]; exact q5
      · rw [pz_ty_congr (c := v 130) (d := u 130) _ _ _ (fun i i1 i2 => h1 130 i (by omega) (by omega) (by omega) (by omega))]; exact q7 hh
def pt_fLL (u v : px_Z) : Prop := ∀ c j, ¬ (c = 121 ∧ (j = 4 ∨ j = 7 ∨ j = 8)) → ¬ (125 ≤ c ∧ c ≤ 130) → v c j = u c j
def pt_gLL (z w : px_Z) : Prop := ∀ c j, ¬ (c = 150 ∧ ((14 ≤ j ∧ j ≤ 17) ∨ j = 27 ∨ j = 28 ∨ j = 30 ∨ j = 31 ∨ j = 32)) → ¬ ((c = 163 ∨ c = 164) ∧ 800 ≤ j) → c ≠ 165 → ¬ (159 ≤ c ∧ c ≤ 162 ∧ 32 ≤ j) → w c j = z c j
def pt_LW (v w : px_Z) (r : Int) : Prop := ((v 121 7 = 0 ∧ v 121 8 = -1) ∧ ∃ n m : Nat, n ≤ 16 ∧ m ≤ 400 ∧ r = (n : Int) ∧ pt_LN n m v w ∧ v 125 1 = (m : Int) ∧ w 150 27 = (m : Int) ∧ (∀ i, i < m → pz_cr (v 130 i) (w 163 (800 + i)) (w 164 (800 + i)) ∧ (w 150 26 ≠ 0 → v 130 i ≠ 263 ∧ v 130 i ≠ 264))) ∨ (v 121 7 ≠ 0 ∧ r = -1 ∧ w 150 31 = v 121 7 ∧ w 150 32 = v 121 8)
theorem pt_llD {u : px_Z} (h : u 121 7 ≠ 0) (n : Nat) (x : Int) : l_Reader_readLaw_13 (n + 1) u x = some u := by
  rw [l_Reader_readLaw_13]
  by_cases h1 : 16 < x
  · rw [if_pos h1]
  · rw [if_neg h1]; unfold f_Reader_goesOn; rw [if_neg h, Option.bind_some, if_pos rfl]
set_option maxHeartbeats 2000000 in
theorem pt_lawL {b : Nat → Int} {L T : Nat} : ∀ (d n fu fm t m : Nat) (u z : px_Z), n + d = 16 → d + 1 < fu → d + 1 < fm → pt_S b L T m t m [] u z → pt_P u z → m ≤ t → z 150 28 = 0 → pt_LN n m u z → ∃ v w r, l_Reader_readLaw_13 fu u (n : Int) = some v ∧ pt_rl fm z (n : Int) = some (r, w) ∧ pt_fLL u v ∧ pt_gLL z w ∧ pt_LW v w r := by
  have bad : ∀ (n fu t m : Nat) (u z : px_Z) (k : Int), k ≠ 0 → pt_S b L T m t m [] u z → ∃ v w, f_Reader_fail u k = some v ∧ l_Reader_readLaw_13 (fu + 1) v ((n + 1 : Nat) : Int) = some v ∧ f_M_errs z k = some (-1, w) ∧ pt_fLL u v ∧ pt_gLL z w ∧ pt_LW v w (-1) := by
    intro n fu t m u z k hk hS
    obtain ⟨v, w, a1, a2, a3, a4, a5⟩ := pt_no hS hk
    exact ⟨v, w, a1, pt_llD a3.1 _ _, a2, fun c j q1 q2 => a4 c j q1, fun c j q1 q2 q3 q4 => a5 c j (by omega), Or.inr ⟨a3.1, rfl, a3.2.2.2⟩⟩
  intro d
  induction d with
  | zero =>
    intro n fu fm t m u z hd hf hm hS hP hmt h28 hL
    obtain ⟨fu, rfl⟩ : ∃ q, fu = q + 1 + 1 := ⟨fu - 2, by omega⟩
    obtain ⟨fm, rfl⟩ : ∃ q, fm = q + 1 := ⟨fm - 1, by omega⟩
    obtain ⟨htT, hT⟩ := pt_T4 hS.1
    have hn : (n : Int) = 16 := by omega
    unfold pt_rl
    rw [l_Reader_readLaw_13, if_neg (show ¬ 16 < (n : Int) by omega), l_M_readLaw_2]
    rcases pt_isE hS.2.1 with ⟨he, z0, c0⟩ | ⟨he, z0, c0⟩
    · rw [pt_gon1 hS.1 hS.2.2.1 he, Option.bind_some, if_neg pt_1n0, if_pos hn, pz_wr_suc (show n < 2147483647 by omega)]
      by_cases hK : pt_KN b L (pt_st b L t) z
      · obtain ⟨v, w, a1, a2, a3, a4, a5, a6⟩ := bad n fu t m u z 3 (by decide) hS
        rw [(pt_lwR hS.1 hP 1).1 hK]
        unfold j_Reader_readLawLine_j20 pt_k8
        rw [if_neg pt_1n0, if_neg pt_1n0, a1, Option.bind_some, Option.bind_some, a2, if_neg (pt_lw1 hS.2.1 hK).1, if_pos hn, a3, Option.bind_some]
        exact ⟨v, w, -1, rfl, rfl, a4, a5, a6⟩
      · obtain ⟨v, w, a1, a2, a3, a4, a5, a6⟩ := bad n fu t m u z 1 (by decide) hS
        unfold pt_k75
        rw [(pt_lwR hS.1 hP 1).2 hK, a1, Option.bind_some, Option.bind_some, a2, pt_lw0 hS.2.1 hK, if_pos rfl, if_neg z0, a3, Option.bind_some]
        exact ⟨v, w, -1, rfl, rfl, a4, a5, a6⟩
    · have hK : ¬ pt_KN b L (pt_st b L t) z := fun h => by rcases h with h | h <;> omega
      unfold pt_k75
      rw [pt_gon0 hS.1 he, Option.bind_some, if_pos rfl, pt_lw0 hS.2.1 hK, if_pos rfl, if_pos z0]
      exact ⟨u, z, _, rfl, rfl, fun _ _ _ _ => rfl, fun _ _ _ _ _ _ => rfl, Or.inl ⟨⟨hS.2.2.1, hS.1.2.2.2.2 hS.2.2.1⟩, n, m, by omega, by omega, rfl, hL, hS.2.2.2.1, hS.2.2.2.2.1, hS.2.2.2.2.2.2.2⟩⟩
  | succ d ih =>
    intro n fu fm t m u z hd hf hm hS hP hmt h28 hL
    obtain ⟨fu, rfl⟩ : ∃ q, fu = q + 1 + 1 := ⟨fu - 2, by omega⟩
    obtain ⟨fm, rfl⟩ : ∃ q, fm = q + 1 := ⟨fm - 1, by omega⟩
    obtain ⟨htT, hT⟩ := pt_T4 hS.1
    have hn : ¬ (n : Int) = 16 := by omega
    have hn6 : n < 16 := by omega
    rw [l_Reader_readLaw_13, if_neg (show ¬ 16 < (n : Int) by omega)]
    rcases pt_isE hS.2.1 with ⟨he, z0, c0⟩ | ⟨he, z0, c0⟩
    · rw [pt_gon1 hS.1 hS.2.2.1 he, Option.bind_some, if_neg pt_1n0, if_neg hn, pz_wr_suc (show n < 2147483647 by omega)]
      by_cases hK : pt_KN b L (pt_st b L t) z
      · obtain ⟨v, w, a1, a2, a3, a4⟩ := pt_lline hS hP hK hn6 hL.1 hmt h28 fm
        have q1 : pt_fLL u v := fun c j q1 q2 => a2 c j q1 (by omega) (by omega) (by omega)
        have q2 : pt_gLL z w := fun c j q1 q2 q3 q4 => a3 c j q1 q2 q3 (by omega)
        rw [a1, Option.bind_some]
        rcases a4 with ⟨t', m', b1, b2, b3, b4, b5, b6, b7, b8, b9⟩ | ⟨b1, b2, b3, b4⟩
        · rw [b1]
          obtain ⟨v', w', r', i1, i2, i3, i4, i5⟩ := ih (n + 1) (fu + 1) fm t' m' v w (by omega) (by omega) (by omega) b2 (by unfold pt_P; rw [q1 121 6 (by omega) (by omega), q2 150 26 (by omega) (by omega) (by omega) (by omega)]; exact hP) b4 b6 (pt_LN_next hn6 hL b3 a2 a3 b5 b7 b8 b9)
          exact ⟨v', w', r', i1, i2, fun c j k1 k2 => (i3 c j k1 k2).trans (q1 c j k1 k2), fun c j k1 k2 k3 k4 => (i4 c j k1 k2 k3 k4).trans (q2 c j k1 k2 k3 k4), i5⟩
        · rw [b1, pt_llD b2]
          exact ⟨v, w, -1, rfl, rfl, q1, q2, Or.inr ⟨b2, rfl, b3, b4⟩⟩
      · obtain ⟨v, w, a1, a2, a3, a4, a5, a6⟩ := bad n fu t m u z 1 (by decide) hS
        unfold pt_rl
        rw [(pt_lwR hS.1 hP 0).2 hK, a1, Option.bind_some, Option.bind_some, a2, l_M_readLaw_2, pt_lw0 hS.2.1 hK, if_pos rfl]
        unfold pt_k75
        rw [if_neg z0, a3, Option.bind_some]
        exact ⟨v, w, -1, rfl, rfl, a4, a5, a6⟩
    · have hK : ¬ pt_KN b L (pt_st b L t) z := fun h => by rcases h with h | h <;> omega
      unfold pt_rl
      rw [pt_gon0 hS.1 he, Option.bind_some, if_pos rfl, l_M_readLaw_2, pt_lw0 hS.2.1 hK, if_pos rfl]
      unfold pt_k75
      rw [if_pos z0]
      exact ⟨u, z, _, rfl, rfl, fun _ _ _ _ => rfl, fun _ _ _ _ _ _ => rfl, Or.inl ⟨⟨hS.2.2.1, hS.1.2.2.2.2 hS.2.2.1⟩, n, m, by omega, by omega, rfl, hL, hS.2.2.2.1, hS.2.2.2.2.1, hS.2.2.2.2.2.2.2⟩⟩
/-- what reading a LAW may change, with its kind -/
def pt_fLW (u v : px_Z) : Prop := ∀ c j, ¬ (c = 121 ∧ (j = 4 ∨ j = 6 ∨ j = 7 ∨ j = 8)) → ¬ (125 ≤ c ∧ c ≤ 130) → v c j = u c j
theorem pt_law {b : Nat → Int} {L T : Nat} {u z : px_Z} {x : Int} (hA : pt_A u b L T 0) (hB : pt_B z b L (pt_st b L 0)) (h0 : u 121 7 = 0) (hx : x = 0 ∧ z 150 26 = 1 ∨ x = 1 ∧ z 150 26 = 0) (h27 : z 150 27 = 0) (h28 : z 150 28 = 0) : ∃ v w r, f_Reader_readLaw u x = some v ∧ f_M_readLaw z = some (r, w) ∧ pt_fLW u v ∧ pt_gLL z w ∧ pt_LW v w r := by
  have hbig : px_big = 1000000 := rfl
  have sA : pt_A (px_up (px_up (px_up u 121 6 x) 125 0 0) 125 1 0) b L T 0 := pt_A_up (pt_A_up (pt_A_up hA (by omega) (by omega)) (by omega) (by omega)) (by omega) (by omega)
  have e7 : px_up (px_up (px_up u 121 6 x) 125 0 0) 125 1 0 121 7 = 0 := by rw [pt_upn (by omega), pt_upn (by omega), pt_upn (by omega)]; exact h0
  have e6 : px_up (px_up (px_up u 121 6 x) 125 0 0) 125 1 0 121 6 = x := by rw [pt_upn (by omega), pt_upn (by omega), pt_upi]
  obtain ⟨v, w, r, a1, a2, a3, a4, a5⟩ := pt_lawL (b := b) (L := L) (T := T) 16 0 px_big px_big 0 0 (px_up (px_up (px_up u 121 6 x) 125 0 0) 125 1 0) z rfl (by omega) (by omega) ⟨sA, hB, e7, pt_upi, h27, Nat.le_refl _, rfl, fun i hi => absurd hi (Nat.not_lt_zero _)⟩ (by unfold pt_P; rw [e6]; omega) (Nat.le_refl _) h28 ⟨by rw [pt_upn (by omega), pt_upi]; rfl, fun l hl => absurd hl (Nat.not_lt_zero _)⟩
  refine ⟨v, w, r, ?_, a2, fun c j q1 q2 => ?_, a4, a5⟩
  · unfold f_Reader_readLaw
    rw [if_pos (by omega)]
    exact a1
  · rw [a3 c j (by omega) q2, pt_upn (by omega), pt_upn (by omega), pt_upn (by omega)]
