/-! TEXT: the whole of A PLAN -/
theorem pt_stepD2 {b : Nat → Int} {L T nt n : Nat} (hA2 : pt_AA b L T nt n) : pt_DD b L T nt (n + 1) := by
  intro o t k N F fm u z hn ho hV hfm
  have hbig : px_big = 1000000 := rfl
  obtain ⟨htT, hT⟩ := pt_T4 hV.1
  obtain ⟨v, w, a1, a2, a3, a4⟩ := pt_ddL hA2 (o := o) (k0 := k) (N0 := N) (F0 := F) (by omega) ho (T - t) px_big fm 0 t k N F 0 u z rfl (by omega) (Nat.zero_le _) hfm hV (Nat.le_refl _) (Nat.le_refl _) (fun _ _ => rfl) (by rw [Nat.sub_self]; exact pt_Lay0 z k o _) (Nat.zero_le _)
  exact ⟨v, w, a1, a2, a3, a4⟩
theorem pt_plans {b : Nat → Int} {L T nt : Nat} : ∀ n, pt_AA b L T nt n ∧ pt_DD b L T nt n := by
  intro n
  induction n with
  | zero =>
    refine ⟨?_, ?_⟩
    · intro o t k N F fm u z hn; omega
    · intro o t k N F fm u z hn; omega
  | succ n ih => exact ⟨pt_stepA ih.2, pt_stepD2 ih.1⟩
def pt_gPl (z w : px_Z) : Prop := ∀ c j, ¬ (c = 150 ∧ ((14 ≤ j ∧ j ≤ 17) ∨ j = 28 ∨ j = 31 ∨ j = 32 ∨ j = 42)) → ¬ (168 ≤ c ∧ c ≤ 170) → ¬ (c = 171 ∧ 180 ≤ j) → c ≠ 172 → c ≠ 173 → w c j = z c j
def pt_PO (nt : Nat) (v w : px_Z) (r : Int) : Prop := ((v 121 7 = 0 ∧ v 121 8 = -1) ∧ ∃ m : Nat, m ≤ 60 ∧ r = (m : Int) ∧ v 138 0 = (m : Int) ∧ ∀ k, k < m → pt_dr nt (v 139 k) (v 140 k) (v 141 k) (w 171 (180 + 3 * k)) (w 171 (181 + 3 * k)) (w 171 (182 + 3 * k))) ∨ (v 121 7 ≠ 0 ∧ r = -1 ∧ w 150 31 = v 121 7 ∧ w 150 32 = v 121 8)
set_option maxHeartbeats 1000000 in
theorem pt_plan {b : Nat → Int} {L T nt : Nat} {u z : px_Z} (hA : pt_A u b L T 0) (hB : pt_B z b L (pt_st b L 0)) (h0 : u 121 7 = 0) (h5 : u 121 5 = (nt : Int)) (h6 : z 150 6 = (nt : Int)) (h8 : nt ≤ 8) (h28 : z 150 28 = 0) : ∃ v w r, f_Reader_readPlan u = some v ∧ f_M_readPlan z = some (r, w) ∧ pt_fq u v ∧ pt_gPl z w ∧ pt_PO nt v w r := by
  have hbig : px_big = 1000000 := rfl
  obtain ⟨htT, hT⟩ := pt_T4 hA
  have V : pt_V b L T nt 0 0 0 0 (fun _ => 0) (px_up u 138 0 0) (px_up z 150 42 0) := ⟨pt_A_up hA (by omega) (by omega), pt_B_up hB (by omega) (by omega), (pt_upn (by omega)).trans h0, (pt_upn (by omega)).trans h5, (pt_upn (by omega)).trans h6, h8, (pt_upn (by omega)).trans h28, pt_upi, by omega, ⟨pt_upi, fun i hi => absurd hi (Nat.not_lt_zero _), fun i hi => absurd hi (Nat.not_lt_zero _)⟩, by omega⟩
  obtain ⟨v, w, a1, a2, a3, a4⟩ := (pt_plans 24).2 0 0 0 0 (fun _ => 0) px_big (px_up u 138 0 0) (px_up z 150 42 0) (by omega) (by omega) V (by omega)
  have a1' : f_Reader_readDeeds (px_up u 138 0 0) 0 = some v := a1
  have fq : pt_fq u v := fun c j q1 q2 => (a2 c j q1 q2).trans (pt_upn (by omega))
  have gq : pt_gPl z w := fun c j q1 q2 q3 q4 q5 => (a3 c j q1 (by omega)).trans (pt_upn (by omega))
  unfold f_Reader_readPlan f_M_readPlan f_M_readSteps
  rw [a1', Option.bind_some]
  have hst : l_M_readSteps_3 (fun s => j_M_readSteps_j39 s) px_big (px_up z 150 42 0) = pt_steps px_big (px_up z 150 42 0) := rfl
  rw [hst]
  rcases a4 with ⟨t', k', N', F', c, fm', ⟨b1, b2, b3, b4, b5, b6, b7, b8, b9⟩, b10⟩ | ⟨b1, b2⟩
  · have hend : pt_st b L t' = L := by
      rcases b10 with ⟨_, q⟩ | q
      · omega
      · exact q
    obtain ⟨k100, N10⟩ := pt_k100 b4
    obtain ⟨m1, m2, m3, m4, m5, m6, m7, m8, m9, m10, m11⟩ := b4
    obtain ⟨htT', _⟩ := pt_T4 m1
    obtain ⟨fm', rfl⟩ : ∃ q, fm' = q + 1 := ⟨fm' - 1, by omega⟩
    have ck0 : pt_ck b L (pt_st b L t') = 0 := by rw [hend, pt_ck, if_neg (by omega)]
    have z16 : w 150 16 = 0 := by
      rcases pt_isE m2 with ⟨q, _, _⟩ | ⟨_, q, _⟩
      · omega
      · exact q
    have R1 := pt_sX (n := fm') (pt_isD0 m2 (by rw [ck0]; decide)) (pt_isW0 m2 (j := 27) (by decide) (k := 283) (m := 27) rfl rfl (by rw [ck0]; decide)) (Or.inl (by rw [m7]; decide))
    unfold j_M_readSteps_j39 at R1
    have m7' : w 150 28 = 0 := m7
    rw [if_pos m7', if_pos z16] at R1
    rw [b1, R1, Option.bind_some]
    dsimp only
    rw [if_neg pt_0n1]
    have cb : c < px_big := by
      have q1 : (k' - 0) * pt_W 0 ≤ (k' - 0) * 6561 := Nat.mul_le_mul_left _ (pt_Wl 0)
      omega
    obtain ⟨p1, p2⟩ := b8.2.2 w 0 px_big k' (fun j _ _ => ⟨rfl, rfl⟩) m8 (Nat.le_refl _) (by omega) (by omega) cb
    have hld : f_M_laysDeeds w = pt_ld px_big w 0 0 0 := rfl
    rw [hld, m10.1]
    by_cases e60 : N' ≤ 60
    · rw [if_pos (show (N' : Int) ≤ 60 by omega)]
      obtain ⟨s', fu', q1, q2, q3, q4⟩ := p1 (by omega)
      obtain ⟨fu', rfl⟩ : ∃ q, fu' = q + 1 := ⟨fu' - 1, by omega⟩
      have hfin : pt_ld (fu' + 1) s' (0 + (N' - 0)) 0 k' = some ((N' : Int), s') := by
        unfold pt_ld
        rw [l_M_laysDeeds_6, if_pos (by rw [q4 150 42 (by omega) (by omega), m8]; exact Int.le_refl _), show 0 + (N' - 0) = N' by omega]
      rw [q2, hfin, Option.bind_some]
      refine ⟨v, s', N', rfl, rfl, fq, fun c j r1 r2 r3 r4 r5 => (q4 c j (by omega) (by omega)).trans (gq c j r1 r2 r3 r4 r5), Or.inl ⟨⟨m3, m1.2.2.2.2 m3⟩, N', e60, rfl, m10.1, fun k hk => ?_⟩⟩
      obtain ⟨r1, r2, r3⟩ := q3 k (by omega)
      have e1 : 0 + k = k := Nat.zero_add k
      dsimp only at r1 r2 r3
      rw [e1] at r1 r2 r3
      rw [r1, r2, r3]
      exact m10.2.2 k hk (by omega)
    · rw [if_neg (show ¬ (N' : Int) ≤ 60 by omega)]
      obtain ⟨s', q1, q2⟩ := p2 (by omega)
      obtain ⟨v2, d1, d2, d3, d4, d5⟩ := pt_fail m1 m3 4
      rw [d1, q1, Option.bind_some]
      unfold pt_k77 f_M_errs
      rw [Option.bind_some, Option.bind_some]
      dsimp only
      have e15 : s' 150 15 = (pt_st b L t' : Int) := (q2 150 15 (by omega) (by omega)).trans m2.2.2.2.2.2.2.2.1
      refine ⟨v2, _, -1, rfl, rfl, fun c j r1 r2 => (d5 c j (by omega)).trans (fq c j r1 r2), fun c j r1 r2 r3 r4 r5 => ?_, Or.inr ⟨by rw [d2]; decide, rfl, ?_, ?_⟩⟩
      · rw [pt_upn (by omega), pt_upn (by omega), q2 c j (by omega) (by omega)]; exact gq c j r1 r2 r3 r4 r5
      · rw [pt_upn (by omega), pt_upi, d2]
      · rw [pt_upi, pt_upn (by omega), e15, d3]
  · rw [b1, Option.bind_some]
    dsimp only
    rw [if_pos rfl]
    by_cases e60 : v 138 0 ≤ 60
    · rw [if_pos e60]
      exact ⟨v, w, -1, rfl, rfl, fq, gq, Or.inr ⟨b2.1, rfl, b2.2.2⟩⟩
    · rw [if_neg e60, pt_fail2 b2.1, Option.bind_some]
      exact ⟨v, w, -1, rfl, rfl, fq, gq, Or.inr ⟨b2.1, rfl, b2.2.2⟩⟩
