/-! TEXT: A PLAN: the recursion beside the steps -/
/-- both stand at the token t in the plan: o are begun, k steps, N deeds -/
def pt_V (b : Nat → Int) (L T nt t o k N : Nat) (F : Nat → Nat) (u z : px_Z) : Prop := pt_A u b L T t ∧ pt_B z b L (pt_st b L t) ∧ u 121 7 = 0 ∧ u 121 5 = (nt : Int) ∧ z 150 6 = (nt : Int) ∧ nt ≤ 8 ∧ z 150 28 = (o : Int) ∧ z 150 42 = (k : Int) ∧ 4 * k + 3 * o ≤ pt_st b L t ∧ pt_PD nt N k F u z ∧ N ≤ 6561 * k
def pt_fq (u v : px_Z) : Prop := ∀ c j, ¬ (c = 121 ∧ (j = 4 ∨ j = 7 ∨ j = 8)) → ¬ (138 ≤ c ∧ c ≤ 141) → v c j = u c j
def pt_gp (k : Nat) (z w : px_Z) : Prop := ∀ c j, ¬ (c = 150 ∧ ((14 ≤ j ∧ j ≤ 17) ∨ j = 28 ∨ j = 31 ∨ j = 32 ∨ j = 42)) → ¬ (168 ≤ c ∧ c ≤ 170 ∧ k ≤ j) → w c j = z c j
/-- both have the same fault -/
def pt_Y (b : Nat → Int) (L T : Nat) (v w : px_Z) : Prop := v 121 7 ≠ 0 ∧ (∃ t, pt_A v b L T t) ∧ w 150 31 = v 121 7 ∧ w 150 32 = v 121 8
/-- what was read since k steps and N deeds -/
def pt_G (b : Nat → Int) (L T nt t o k N : Nat) (F : Nat → Nat) (fm : Nat) (z : px_Z) (t' k' N' : Nat) (F' : Nat → Nat) (c fm' : Nat) (v w : px_Z) : Prop := pt_steps fm z = pt_steps fm' w ∧ T + 2 ≤ fm' + t' ∧ t ≤ t' ∧ pt_V b L T nt t' o k' N' F' v w ∧ k ≤ k' ∧ N ≤ N' ∧ (∀ i, i < N → F' i = F i) ∧ pt_Lay w k k' o (fun i => F' (N + i)) (N' - N) c ∧ c ≤ (k' - k) * pt_W o
def pt_AA (b : Nat → Int) (L T nt n : Nat) : Prop := ∀ (o t k N : Nat) (F : Nat → Nat) (fm : Nat) (u z : px_Z), 2 * (4 - o) + 1 ≤ n → o ≤ 4 → pt_ck b L (pt_st b L t) = 283 → pt_V b L T nt t o k N F u z → T + 2 ≤ fm + t → ∃ v w, g_1 n 1 u (o : Int) = some v ∧ pt_fq u v ∧ pt_gp k z w ∧ ((∃ t' k' N' F' c fm', t < t' ∧ pt_G b L T nt t o k N F fm z t' k' N' F' c fm' v w) ∨ (pt_steps fm z = some (-1, w) ∧ pt_Y b L T v w))
def pt_DD (b : Nat → Int) (L T nt n : Nat) : Prop := ∀ (o t k N : Nat) (F : Nat → Nat) (fm : Nat) (u z : px_Z), 2 * (4 - o) + 2 ≤ n → o ≤ 4 → pt_V b L T nt t o k N F u z → T + 2 ≤ fm + t → ∃ v w, g_1 n 0 u (o : Int) = some v ∧ pt_fq u v ∧ pt_gp k z w ∧ ((∃ t' k' N' F' c fm', pt_G b L T nt t o k N F fm z t' k' N' F' c fm' v w ∧ (pt_ck b L (pt_st b L t') = 41 ∧ 0 < o ∨ pt_st b L t' = L)) ∨ (pt_steps fm z = some (-1, w) ∧ pt_Y b L T v w))
theorem pt_rdD {g : Nat → px_Z → Int → Option px_Z} {u : px_Z} (h : u 121 7 ≠ 0) (n : Nat) (x k : Int) : l_Reader_readDeeds_2 g (n + 1) u x k = some u := by
  rw [l_Reader_readDeeds_2]
  by_cases h1 : 400 ≤ k
  · rw [if_pos h1]
  · rw [if_neg h1]; unfold f_Reader_goesOn; rw [if_neg h, Option.bind_some, if_pos rfl]
theorem pt_k100 {b : Nat → Int} {L T nt t o k N : Nat} {F : Nat → Nat} {u z : px_Z} (h : pt_V b L T nt t o k N F u z) : k ≤ 100 ∧ N < 1000000 := by
  have h1 := h.2.2.2.2.2.2.2.2.1
  have h2 := pt_st_le b L t
  have h3 := h.1.2.2.2
  have h4 := h.2.2.2.2.2.2.2.2.2.2
  omega
/-- the rest of a round of the loop of deeds -/
theorem pt_rdR {g : Nat → px_Z → Int → Option px_Z} {u : px_Z} {b : Nat → Int} {L T t n o x2 : Nat} (hA : pt_A u b L T t) (h0 : u 121 7 = 0) (he : pt_st b L t < L) (hx : x2 < 400) (h41 : ¬ (pt_ck b L (pt_st b L t) = 41 ∧ 0 < o)) : l_Reader_readDeeds_2 g (n + 1) u (o : Int) (x2 : Int) = if pt_ck b L (pt_st b L t) = 283 then (g 1 u (o : Int)).bind (fun q11 => l_Reader_readDeeds_2 g n q11 (o : Int) (px_wr ((x2 : Int) + 1))) else (if 280 ≤ pt_ck b L (pt_st b L t) ∧ pt_ck b L (pt_st b L t) ≤ 282 then (f_Reader_step u).bind (fun q9 => (f_Reader_readDeed q9 (pt_ck b L (pt_st b L t))).bind (fun q10 => l_Reader_readDeeds_2 g n q10 (o : Int) (px_wr ((x2 : Int) + 1)))) else (f_Reader_fail u 1).bind (fun q8 => l_Reader_readDeeds_2 g n q8 (o : Int) (px_wr ((x2 : Int) + 1)))) := by
  obtain ⟨g1, g2, g3, g4⟩ := pt_A_tok hA
  rw [l_Reader_readDeeds_2, if_neg (show ¬ (400 : Int) ≤ (x2 : Int) by omega), pt_gon1 hA h0 he, Option.bind_some, if_neg pt_1n0, pz_within, g2]
  by_cases ho : (o : Int) ≤ 0
  · rw [if_pos ho, if_pos g1, pt_itn]
  · rw [if_neg ho, if_pos g1, if_neg (fun hh => h41 ⟨hh, by omega⟩), if_pos g1, pt_itn]
set_option maxHeartbeats 4000000 in
theorem pt_ddL {b : Nat → Int} {L T nt n : Nat} (hA2 : pt_AA b L T nt n) {o k0 N0 : Nat} {F0 : Nat → Nat} (hn : 2 * (4 - o) + 1 ≤ n) (ho : o ≤ 4) : ∀ (d fu fm x2 t k N : Nat) (F : Nat → Nat) (c : Nat) (u z : px_Z), T - t = d → d + 1 < fu → x2 ≤ t → T + 2 ≤ fm + t → pt_V b L T nt t o k N F u z → k0 ≤ k → N0 ≤ N → (∀ i, i < N0 → F i = F0 i) → pt_Lay z k0 k o (fun i => F (N0 + i)) (N - N0) c → c ≤ (k - k0) * pt_W o →
    ∃ v w, l_Reader_readDeeds_2 (g_1 n) fu u (o : Int) (x2 : Int) = some v ∧ pt_fq u v ∧ pt_gp k z w ∧ ((∃ t' k' N' F' c' fm', pt_G b L T nt t o k0 N0 F0 fm z t' k' N' F' c' fm' v w ∧ (pt_ck b L (pt_st b L t') = 41 ∧ 0 < o ∨ pt_st b L t' = L)) ∨ (pt_steps fm z = some (-1, w) ∧ pt_Y b L T v w)) := by
  intro d
  induction d using Nat.strongRecOn with
  | ind d ih =>
    intro fu fm x2 t k N F c u z hd hf hx hfm hV hk0 hN0 hF hL hc
    obtain ⟨hA, hB, h0, h5, h6, h8, h28, h42, hst, hPD, hN6⟩ := hV
    obtain ⟨htT, hT⟩ := pt_T4 hA
    obtain ⟨k100, N10⟩ := pt_k100 ⟨hA, hB, h0, h5, h6, h8, h28, h42, hst, hPD, hN6⟩
    obtain ⟨fu, rfl⟩ : ∃ q, fu = q + 1 + 1 := ⟨fu - 2, by omega⟩
    obtain ⟨fm, rfl⟩ : ∃ q, fm = q + 1 := ⟨fm - 1, by omega⟩
    obtain ⟨g1, g2, g3, g4⟩ := pt_A_tok hA
    have stop : (pt_ck b L (pt_st b L t) = 41 ∧ 0 < o ∨ pt_st b L t = L) → l_Reader_readDeeds_2 (g_1 n) (fu + 1 + 1) u (o : Int) (x2 : Int) = some u → ∃ v w, l_Reader_readDeeds_2 (g_1 n) (fu + 1 + 1) u (o : Int) (x2 : Int) = some v ∧ pt_fq u v ∧ pt_gp k z w ∧ ((∃ t' k' N' F' c' fm', pt_G b L T nt t o k0 N0 F0 (fm + 1) z t' k' N' F' c' fm' v w ∧ (pt_ck b L (pt_st b L t') = 41 ∧ 0 < o ∨ pt_st b L t' = L)) ∨ (pt_steps (fm + 1) z = some (-1, w) ∧ pt_Y b L T v w)) := fun hs he => ⟨u, z, he, fun _ _ _ _ => rfl, fun _ _ _ _ => rfl, Or.inl ⟨t, k, N, F, c, fm + 1, ⟨rfl, hfm, Nat.le_refl _, ⟨hA, hB, h0, h5, h6, h8, h28, h42, hst, hPD, hN6⟩, hk0, hN0, hF, hL, hc⟩, hs⟩⟩
    rcases pt_isE hB with ⟨he, z0, c0⟩ | ⟨he, z0, c0⟩
    · have htl : t < T := pt_A_end hA c0
      have hx4 : x2 < 400 := by omega
      by_cases h41 : pt_ck b L (pt_st b L t) = 41 ∧ 0 < o
      · refine stop (Or.inl h41) ?_
        rw [l_Reader_readDeeds_2, if_neg (show ¬ (400 : Int) ≤ (x2 : Int) by omega), pt_gon1 hA h0 he, Option.bind_some, if_neg pt_1n0, if_neg (show ¬ (o : Int) ≤ 0 by omega), if_pos g1, g2, if_pos h41.1]
      · rw [pt_rdR hA h0 he hx4 h41, pz_wr_suc (show x2 < 2147483647 by omega)]
        by_cases h283 : pt_ck b L (pt_st b L t) = 283
        · rw [if_pos h283]
          obtain ⟨v, w, a1, a2, a3, a4⟩ := hA2 o t k N F (fm + 1) u z hn ho h283 ⟨hA, hB, h0, h5, h6, h8, h28, h42, hst, hPD, hN6⟩ hfm
          rw [a1, Option.bind_some]
          rcases a4 with ⟨t', k', N', F', c', fm', htt, b1, b2, b3, b4, b5, b6, b7, b8, b9⟩ | ⟨b1, b2⟩
          · have hkk : (k' - k0) * pt_W o = (k - k0) * pt_W o + (k' - k) * pt_W o := by rw [← Nat.add_mul, show k - k0 + (k' - k) = k' - k0 by omega]
            have L1 : pt_Lay w k0 k o (fun i => F (N0 + i)) (N - N0) c := pt_LayZ hL (fun j j1 j2 => ⟨a3 168 j (by omega) (by omega), a3 169 j (by omega) (by omega)⟩)
            have L2 := pt_LayC hk0 b5 L1 b8
            have L3 : pt_Lay w k0 k' o (fun i => F' (N0 + i)) (N' - N0) (c + c') := by
              have L4 := pt_LayF (g := fun i => F' (N0 + i)) L2 (fun i hi => by
                by_cases e : i < N - N0
                · simp only [if_pos e]; exact b7 _ (by omega)
                · simp only [if_neg e]; rw [show N + (i - (N - N0)) = N0 + i by omega])
              rw [show N - N0 + (N' - N) = N' - N0 by omega] at L4
              exact L4
            obtain ⟨v2, w2, i1, i2, i3, i4⟩ := ih (T - t') (by omega) (fu + 1) fm' (x2 + 1) t' k' N' F' (c + c') v w rfl (by omega) (by omega) b2 b4 (by omega) (by omega) (fun i hi => (b7 i (by omega)).trans (hF i hi)) L3 (by omega)
            refine ⟨v2, w2, i1, fun q j q1 q2 => (i2 q j q1 q2).trans (a2 q j q1 q2), fun q j q1 q2 => (i3 q j q1 (by omega)).trans (a3 q j q1 q2), ?_⟩
            rcases i4 with ⟨t2, k2, N2, F2, c2, fm2, ⟨j1, j2, j3, j4, j5, j6, j7, j8, j9⟩, j10⟩ | ⟨j1, j2⟩
            · exact Or.inl ⟨t2, k2, N2, F2, c2, fm2, ⟨b1.trans j1, j2, by omega, j4, j5, j6, j7, j8, j9⟩, j10⟩
            · exact Or.inr ⟨b1.trans j1, j2⟩
          · rw [pt_rdD b2.1]
            exact ⟨v, w, rfl, a2, a3, Or.inr ⟨b1, b2⟩⟩
        · rw [if_neg h283]
          by_cases hde : 280 ≤ pt_ck b L (pt_st b L t) ∧ pt_ck b L (pt_st b L t) ≤ 282
          · rw [if_pos hde, pt_sD (pt_isD1 hB hde)]
            obtain ⟨v1, v, w, r, a1, a2, a3, a4, a5, a6⟩ := pt_deed hA hB h0 hde h5 h6 h8 hPD.1 (by omega) h42 (by omega)
            have fq : pt_fq u v := fun q j q1 q2 => a4 q j q1 (by omega) (by omega)
            have gp : pt_gp k z w := fun q j q1 q2 => a5 q j (by omega) (by omega)
            rw [a1, Option.bind_some, a2, Option.bind_some, a3, Option.bind_some]
            dsimp only
            rcases a6 with ⟨rfl, ⟨t', htt, hst', hA', hB'⟩, b1, b2, b3, b4, b5, b6⟩ | ⟨rfl, b1, b2, b3, b4⟩
            · rw [if_neg pt_0n1]
              have hkk : (k + 1 - k0) * pt_W o = (k - k0) * pt_W o + pt_W o := by rw [show k + 1 - k0 = k - k0 + 1 by omega, Nat.succ_mul]
              have hW := pt_Wp o
              obtain ⟨F', hF'⟩ : ∃ F' : Nat → Nat, F' = fun i => if i = N then k else F i := ⟨_, rfl⟩
              have F1 : ∀ i, i ≠ N → F' i = F i := fun i hi => by rw [hF']; exact if_neg hi
              have F2 : F' N = k := by rw [hF']; exact if_pos rfl
              have L1 : pt_Lay w k0 k o (fun i => F (N0 + i)) (N - N0) c := pt_LayZ hL (fun j j1 j2 => ⟨gp 168 j (by omega) (by omega), gp 169 j (by omega) (by omega)⟩)
              have L2 := pt_LayC hk0 (Nat.le_succ k) L1 (pt_Lay1 (dp := o) b5 b6)
              have L3 : pt_Lay w k0 (k + 1) o (fun i => F' (N0 + i)) (N + 1 - N0) (c + 1) := by
                have L4 := pt_LayF (g := fun i => F' (N0 + i)) L2 (fun i hi => by
                  by_cases e : i < N - N0
                  · simp only [if_pos e]; exact F1 _ (by omega)
                  · simp only [if_neg e]; rw [show N0 + i = N by omega]; exact F2)
                rw [show N - N0 + 1 = N + 1 - N0 by omega] at L4
                exact L4
              have PD' : pt_PD nt (N + 1) (k + 1) F' v w := by
                refine ⟨b2, fun i hi => ?_, fun i hi hi6 => ?_⟩
                · by_cases e : i = N
                  · rw [e, F2]; omega
                  · rw [F1 i e]; have := hPD.2.1 i (by omega); omega
                · by_cases e : i = N
                  · rw [e, F2]; exact b4 (by omega)
                  · have hlt := hPD.2.1 i (by omega)
                    rw [F1 i e, a4 139 i (by omega) (by omega) (by omega), a4 140 i (by omega) (by omega) (by omega), a4 141 i (by omega) (by omega) (by omega), a5 168 _ (by omega) (by omega), a5 169 _ (by omega) (by omega), a5 170 _ (by omega) (by omega)]
                    exact hPD.2.2 i (by omega) hi6
              obtain ⟨v2, w2, i1, i2, i3, i4⟩ := ih (T - t') (by omega) (fu + 1) fm (x2 + 1) t' (k + 1) (N + 1) F' (c + 1) v w rfl (by omega) (by omega) (by omega) ⟨hA', hB', b1, (fq 121 5 (by omega) (by omega)).trans h5, (gp 150 6 (by omega) (by omega)).trans h6, h8, (a5 150 28 (by omega) (by omega)).trans h28, b3, by omega, PD', by omega⟩ (by omega) (by omega) (fun i hi => (F1 i (by omega)).trans (hF i hi)) L3 (by omega)
              refine ⟨v2, w2, i1, fun q j q1 q2 => (i2 q j q1 q2).trans (fq q j q1 q2), fun q j q1 q2 => (i3 q j q1 (by omega)).trans (gp q j q1 q2), ?_⟩
              rcases i4 with ⟨t2, k2, N2, F2', c2, fm2, ⟨j1, j2, j3, j4, j5, j6, j7, j8, j9⟩, j10⟩ | ⟨j1, j2⟩
              · refine Or.inl ⟨t2, k2, N2, F2', c2, fm2, ⟨?_, j2, by omega, j4, j5, j6, j7, j8, j9⟩, j10⟩
                rw [pt_sD (pt_isD1 hB hde), a3, Option.bind_some]
                dsimp only
                rw [if_neg pt_0n1]
                exact j1
              · exact Or.inr ⟨j1, j2⟩
            · rw [if_pos rfl, pt_rdD b1]
              exact ⟨v, w, rfl, fq, gp, Or.inr ⟨rfl, b1, b2, b3, b4⟩⟩
          · rw [if_neg hde]
            obtain ⟨v, w, a1, a2, a3, a4, a5, a6, a7, a8, a9⟩ := pt_bad hA hB h0 1
            have hx28 : z 150 28 ≤ 0 ∨ f_M_isSign z 41 = 0 := by
              by_cases e : 0 < o
              · exact Or.inr (pt_isS0 hB (c := 41) rfl (fun hh => h41 ⟨hh, e⟩))
              · left; omega
            rw [a1, Option.bind_some, pt_rdD (by rw [a6]; decide), pt_sX (pt_isD0 hB hde) (pt_isW0 hB (j := 27) (by decide) (k := 283) (m := 27) rfl rfl h283) hx28]
            refine ⟨v, w, rfl, fun q j q1 q2 => a3 q j q1, fun q j q1 q2 => a4 q j (by omega), Or.inr ⟨?_, by rw [a6]; decide, ⟨t, a5⟩, by rw [a8, a6], by rw [a9, a7]⟩⟩
            unfold j_M_readSteps_j39
            by_cases e : z 150 28 = 0
            · rw [if_pos e, if_neg z0, a2, Option.bind_some]
            · rw [if_neg e, a2, Option.bind_some]
    · refine stop (Or.inr he) ?_
      rw [l_Reader_readDeeds_2]
      by_cases h4 : (400 : Int) ≤ (x2 : Int)
      · rw [if_pos h4]
      · rw [if_neg h4, pt_gon0 hA he, Option.bind_some, if_pos rfl]
