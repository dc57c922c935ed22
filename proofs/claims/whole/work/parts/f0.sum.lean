/-! TEXT: products and sums -/
theorem pt_rsD {u : px_Z} (h : u 121 7 ≠ 0) (n : Nat) (x y : Int) : l_Reader_readSum_6 (n + 1) u x y = some u := by
  rw [l_Reader_readSum_6]
  by_cases h1 : 400 ≤ y
  · rw [if_pos h1]
  · rw [if_neg h1, if_neg h]
theorem pt_XA {b : Nat → Int} {L T m : Nat} {u v w : px_Z} (h : pt_X b L T m u w) (e : ∀ c j, ¬ (c = 125 ∧ j = 1) → ¬ (c = 130 ∧ m ≤ j) → v c j = u c j) (hm : (m : Int) ≤ v 125 1) : pt_X b L T m v w := by
  obtain ⟨a1, ⟨t, a2⟩, a3, a4, a5⟩ := h
  exact ⟨by rw [e 121 7 (by omega) (by omega)]; exact a1, ⟨t, pt_A_of a2 (fun j hj => e 121 j (by omega) (by omega)) (fun c j g1 g2 => e c j (by omega) (by omega))⟩, hm, by rw [e 121 7 (by omega) (by omega)]; exact a4, by rw [e 121 8 (by omega) (by omega)]; exact a5⟩
theorem pt_Xmo {b : Nat → Int} {L T m m' : Nat} {v w : px_Z} (h : pt_X b L T m' v w) (hm : m ≤ m') : pt_X b L T m v w := ⟨h.1, h.2.1, by have := h.2.2.1; omega, h.2.2.2⟩
/-- put after a fault -/
theorem pt_putX {b : Nat → Int} {L T m : Nat} {u w : px_Z} (h : pt_X b L T m u w) (x : Int) : ∃ v, f_Law_put u x = some v ∧ pt_X b L T m v w ∧ pt_fl m u v := by
  obtain ⟨v, a1, a2, a3⟩ := pt_putD h.2.2.1 x
  exact ⟨v, a1, pt_XA h a3 a2, fun c j g1 g2 g3 => a3 c j g2 g3⟩
theorem pt_sgS {b : Nat → Int} {L T k0 t m : Nat} {ts : List Nat} {u z : px_Z} (h : pt_S b L T k0 t m ts u z) {c : Int} (hc : pt_sg c = true) : f_M_isSign z c = if pt_ck b L (pt_st b L t) = c then 1 else 0 := pt_isSg h.2.1 hc
theorem pt_t2a {c : Int} {x y : Nat} {ts : List Nat} (hc : c = 42 ∨ c = 43 ∨ c = 45) (hx : x ≠ 1) (hy : y ≠ 1) : pz_t1 c (y :: x :: ts) = some (0 :: ts) := by
  unfold pz_t1; rw [if_neg (by omega), if_neg (by omega), if_neg (by omega), pz_t2_c, if_pos ⟨hc, hx, hy⟩]
theorem pt_t2p {x : Nat} {ts : List Nat} (hx : x ≠ 1) : pz_t1 47 (2 :: x :: ts) = some (0 :: ts) := by
  unfold pz_t1; rw [if_neg (by omega), if_neg (by omega), if_neg (by omega), pz_t2_c, if_neg (fun h => by omega), if_pos ⟨rfl, hx, rfl⟩]
/-- / NUMBER -/
theorem pt_part {b : Nat → Int} {L T k0 t m : Nat} {ts : List Nat} {u z : px_Z} (h : pt_S b L T k0 t m ts u z) (hm : m < 400) (hl : ts.length < 32) : ∃ v v1 x, f_Reader_numberWithin u 1 9999 = some (x, v1) ∧ f_Law_put v1 (px_wr (1000 + x)) = some v ∧ pt_fl m u v ∧ ((pt_ck b L (pt_st b L t) = 1 ∧ z 150 17 ≠ 0 ∧ z 150 16 = 3 ∧ t < T ∧ ∃ w, f_M_readUnit z = some (0, w) ∧ pt_gs z w ∧ pt_S b L T k0 (t + 1) (m + 1) (2 :: ts) v w) ∨ (∃ w, pt_gs z w ∧ pt_X b L T m v w ∧ ((z 150 16 ≠ 3 ∧ f_M_errs z 1 = some (-1, w)) ∨ (z 150 16 = 3 ∧ z 150 17 = 0 ∧ f_M_errs z 2 = some (-1, w))))) := by
  obtain ⟨hA, hB, h0, hQ⟩ := h
  obtain ⟨n1, n2⟩ := pt_isN hB
  obtain ⟨x, hx1, hx2⟩ := pt_nb hA 1 9999
  by_cases hk : pt_ck b L (pt_st b L t) = 1
  · have hr := pt_mwR hk
    have hx3 := hx1 hk
    subst hx3
    have ez : z 150 17 = pt_mw b L (pt_st b L t) := (n2 hk).2
    by_cases e0 : pt_mw b L (pt_st b L t) = 0
    · obtain ⟨v1, w, a1, a2, a3, a4, a5⟩ := pt_no ⟨hA, hB, h0, hQ⟩ (k := 2) (by decide)
      obtain ⟨v, b1, b2, b3⟩ := pt_putX a3 (px_wr (1000 + pt_mw b L (pt_st b L t)))
      refine ⟨v, v1, _, ?_, b1, pt_flT (pt_flA a4) b3 (Nat.le_refl m), Or.inr ⟨w, pt_gsB a5, b2, Or.inr ⟨n1.mpr hk, by rw [ez]; exact e0, a2⟩⟩⟩
      rw [hx2, if_pos hk, if_neg (by omega), a1, Option.bind_some]
    · have htT := pt_A_end hA (by rw [hk]; decide)
      have ew : px_wr (1000 + pt_mw b L (pt_st b L t)) = 1000 + pt_mw b L (pt_st b L t) := pz_wr_id (by omega) (by omega)
      obtain ⟨v1, a1, a2, a3⟩ := pt_step hA htT
      obtain ⟨v, c1, c2, c3, c4⟩ := pt_put ((a3 125 1 (by omega)).trans hQ.1) hm (px_wr (1000 + pt_mw b L (pt_st b L t)))
      obtain ⟨w1, d1, d2, d3, d4, d5⟩ := pt_emit hQ.2.1 hm 0 (pt_mw b L (pt_st b L t))
      obtain ⟨w, e1, e2, e3⟩ := pt_next (z := w1) (t := t) (pt_B_of hB (fun j g1 g2 => d5 150 j (by omega) (by omega)) (fun j => d5 156 j (by omega) (by omega)) (fun j => d5 157 j (by omega) (by omega)))
      have q1 : pt_Q k0 m ts v1 z := pt_Qfr hQ (fun c j g => a3 c j (by omega)) (fun _ _ _ => rfl)
      have q2 : pt_Q k0 (m + 1) (2 :: ts) v w1 := pt_Qpe q1 c2 c3 c4 d2 d3 d4 d5 (by rw [ew]; exact Or.inl ⟨rfl, rfl, hr.1, hr.2⟩) (by rw [ew, pt_t1n (by omega) (by omega) hl, if_neg (by omega)]) (fun _ => by rw [ew]; omega)
      refine ⟨v, v1, _, ?_, c1, fun c j g1 g2 g3 => (c4 c j g2 (by omega)).trans (a3 c j (by omega)), Or.inl ⟨hk, by rw [ez]; exact e0, n1.mpr hk, htT, w, ?_, fun c j g1 g2 => (e3 c j (by omega)).trans (d5 c j (by omega) (by omega)), pt_A_of a2 (fun j hj => c4 121 j (by omega) (by omega)) (fun c j g1 g2 => c4 c j (by omega) (by omega)), e2, by rw [c4 121 7 (by omega) (by omega), a3 121 7 (by omega)]; exact h0, pt_Qfr q2 (fun _ _ _ => rfl) (fun c j g => e3 c j (by omega))⟩⟩
      · rw [hx2, if_pos hk, if_pos ⟨by omega, by omega⟩, a1, Option.bind_some]
      · unfold f_M_readUnit j_M_readUnit_j11 j_M_readUnit_j12 j_M_readUnit_j23 j_M_readUnit_j29
        rw [n1.mpr hk, if_neg (by decide), if_pos rfl, if_pos rfl, if_pos rfl, if_pos rfl, ez, d1, Option.bind_some, e1, Option.bind_some]
  · obtain ⟨v1, w, a1, a2, a3, a4, a5⟩ := pt_no ⟨hA, hB, h0, hQ⟩ (k := 1) (by decide)
    obtain ⟨v, b1, b2, b3⟩ := pt_putX a3 (px_wr (1000 + x))
    refine ⟨v, v1, x, ?_, b1, pt_flT (pt_flA a4) b3 (Nat.le_refl m), Or.inr ⟨w, pt_gsB a5, b2, Or.inl ⟨fun hh => hk (n1.mp hh), a2⟩⟩⟩
    rw [hx2, if_neg hk, a1, Option.bind_some]
theorem pt_T4 {u : px_Z} {b : Nat → Int} {L T t : Nat} (hA : pt_A u b L T t) : t ≤ T ∧ T ≤ 400 := by
  obtain ⟨⟨a1, a2, a3, a4, a5⟩, a6, a7, a8⟩ := hA
  exact ⟨a7, by omega⟩
set_option maxHeartbeats 2000000 in
theorem pt_prods {b : Nat → Int} {L T k0 e : Nat} {ts : List Nat} (hl : ts.length + 1 < 32) {sk : Nat} (hsk : 2 ≤ sk) (x1 : Int) : ∀ (d fu fm t m x2 k : Nat) (u z : px_Z), T - t = d → d + sk < fu → d + 2 < fm → x2 + 1 ≤ t → m + e ≤ t → k ≠ 1 → pt_S b L T k0 t m (k :: ts) u z → pt_P u z →
    ∃ v w, pt_fl m u v ∧ pt_gs z w ∧ ((∃ t' m' k' fu' x2', k' ≠ 1 ∧ t ≤ t' ∧ m ≤ m' ∧ m' + e ≤ t' ∧ pt_S b L T k0 t' m' (k' :: ts) v w ∧ pt_ck b L (pt_st b L t') ≠ 42 ∧ pt_ck b L (pt_st b L t') ≠ 47 ∧ l_Reader_readSum_6 fu u x1 (x2 : Int) = l_Reader_readSum_6 fu' v x1 (x2' : Nat) ∧ (T - t') + sk < fu' ∧ x2' + 1 ≤ t' ∧ l_M_readProduct_6 (fun s => (f_M_errs s 1).bind (fun q59 => some (q59.1, q59.2))) (fun s => (f_M_errs s 2).bind (fun q60 => some (q60.1, q60.2))) fm z = some (0, w)) ∨ (l_Reader_readSum_6 fu u x1 (x2 : Int) = some v ∧ l_M_readProduct_6 (fun s => (f_M_errs s 1).bind (fun q59 => some (q59.1, q59.2))) (fun s => (f_M_errs s 2).bind (fun q60 => some (q60.1, q60.2))) fm z = some (-1, w) ∧ pt_X b L T m v w)) := by
  intro d
  induction d using Nat.strongRecOn with
  | ind d ih =>
    intro fu fm t m x2 k u z hd hf hm hx hme hk hS hP
    obtain ⟨htT, hT⟩ := pt_T4 hS.1
    by_cases h42 : pt_ck b L (pt_st b L t) = 42
    · obtain ⟨fu, rfl⟩ : ∃ q, fu = q + 1 + 1 := ⟨fu - 2, by omega⟩
      obtain ⟨fm, rfl⟩ : ∃ q, fm = q + 1 := ⟨fm - 1, by omega⟩
      obtain ⟨g1, g2, g3, g4⟩ := pt_A_tok hS.1
      have ht := pt_A_end hS.1 (by rw [h42]; decide)
      obtain ⟨v1, w1, a1, a2, a3, a4, a5⟩ := pt_go hS ht
      have s42 : f_M_isSign z 42 = 1 := by rw [pt_sgS hS (c := 42) rfl, if_pos h42]
      have P1 : pt_P v1 w1 := pt_Pfr hP (pt_flA (m := m) a4) (pt_gsB a5)
      obtain ⟨v2, w2, r, b1, b2, b3, b4, b5⟩ := pt_unit a3 P1 (by omega) (by rw [List.length_cons]; exact hl)
      rw [l_Reader_readSum_6, if_neg (by omega), if_pos hS.2.2.1, if_pos g1, g2, if_pos h42, h42, a1, Option.bind_some, b1, Option.bind_some, l_M_readProduct_6, s42, if_neg (by decide), a2, Option.bind_some, if_neg (by decide), if_neg (by decide), b2, Option.bind_some]
      dsimp only
      rcases b5 with ⟨rfl, ht1, k2, hk2, hS2⟩ | ⟨rfl, hX⟩
      · rw [if_neg (by decide), if_neg (by decide)]
        obtain ⟨v3, w3, c1, c2, c3, c4, c5⟩ := pt_pe2 (x := 42) (o := 4) (a := 0) hS2 (by omega) (Or.inr (Or.inr (Or.inr (Or.inr (Or.inl ⟨rfl, rfl⟩))))) (pt_t2a (Or.inl rfl) hk hk2) (fun _ => by decide)
        rw [c1, c2, Option.bind_some, Option.bind_some, pz_wr_suc (by omega)]
        have f3 : pt_fl m u v3 := pt_flT (pt_flT (pt_flA a4) b3 (Nat.le_refl m)) c4 (by omega)
        have g3 : pt_gs z w3 := pt_gsT (pt_gsT (pt_gsB a5) b4) c5
        obtain ⟨v, w, i1, i2, i3⟩ := ih (T - (t + 1 + 1)) (by omega) (fu + 1) fm (t + 1 + 1) (m + 1 + 1) (x2 + 1) 0 v3 w3 rfl (by omega) (by omega) (by omega) (by omega) (by decide) c3 (pt_Pfr hP f3 g3)
        refine ⟨v, w, pt_flT f3 i1 (by omega), pt_gsT g3 i2, ?_⟩
        rcases i3 with ⟨t', m', k', fu', x2', j1, j2, j3, j4, j5, j6, j7, j8, j9, j10, j11⟩ | ⟨j1, j2, j3⟩
        · exact Or.inl ⟨t', m', k', fu', x2', j1, by omega, by omega, j4, j5, j6, j7, j8, j9, j10, j11⟩
        · exact Or.inr ⟨j1, j2, pt_Xmo j3 (by omega)⟩
      · rw [if_pos rfl]
        obtain ⟨v3, c1, c2, c3⟩ := pt_putX hX 42
        rw [c1, Option.bind_some, pt_rsD c2.1]
        exact ⟨v3, w2, pt_flT (pt_flT (pt_flA a4) b3 (Nat.le_refl m)) c3 (Nat.le_refl m), pt_gsT (pt_gsB a5) b4, Or.inr ⟨rfl, rfl, c2⟩⟩
    · by_cases h47 : pt_ck b L (pt_st b L t) = 47
      · obtain ⟨fu, rfl⟩ : ∃ q, fu = q + 1 + 1 := ⟨fu - 2, by omega⟩
        obtain ⟨fm, rfl⟩ : ∃ q, fm = q + 1 := ⟨fm - 1, by omega⟩
        obtain ⟨g1, g2, g3, g4⟩ := pt_A_tok hS.1
        have ht := pt_A_end hS.1 (by rw [h47]; decide)
        obtain ⟨v1, w1, a1, a2, a3, a4, a5⟩ := pt_go hS ht
        have s42 : f_M_isSign z 42 = 0 := by rw [pt_sgS hS (c := 42) rfl, if_neg h42]
        have s47 : f_M_isSign z 47 = 1 := by rw [pt_sgS hS (c := 47) rfl, if_pos h47]
        obtain ⟨v2, v2', x, b1, b2, b3, b4⟩ := pt_part a3 (by omega) (by rw [List.length_cons]; exact hl)
        rw [l_Reader_readSum_6, if_neg (by omega), if_pos hS.2.2.1, if_pos g1, g2, if_neg h42, if_pos h47, h47, a1, Option.bind_some, b1, Option.bind_some]
        dsimp only
        rw [b2, Option.bind_some, l_M_readProduct_6, s42, s47, if_pos rfl, if_neg (by decide), a2, Option.bind_some, if_pos rfl]
        rcases b4 with ⟨_, z0, z3, ht1, w2, b5, b6, hS2⟩ | ⟨w2, b5, hX, b6⟩
        · rw [if_pos z3, if_pos rfl, if_neg z0, b5, Option.bind_some]
          dsimp only
          rw [if_neg (by decide), if_pos rfl]
          obtain ⟨v3, w3, c1, c2, c3, c4, c5⟩ := pt_pe2 (x := 47) (o := 5) (a := 0) hS2 (by omega) (Or.inr (Or.inr (Or.inr (Or.inr (Or.inr (Or.inl ⟨rfl, rfl⟩)))))) (pt_t2p hk) (fun _ => by decide)
          rw [c1, c2, Option.bind_some, Option.bind_some, pz_wr_suc (by omega)]
          have f3 : pt_fl m u v3 := pt_flT (pt_flT (pt_flA a4) b3 (Nat.le_refl m)) c4 (by omega)
          have g3 : pt_gs z w3 := pt_gsT (pt_gsT (pt_gsB a5) b6) c5
          obtain ⟨v, w, i1, i2, i3⟩ := ih (T - (t + 1 + 1)) (by omega) (fu + 1) fm (t + 1 + 1) (m + 1 + 1) (x2 + 1) 0 v3 w3 rfl (by omega) (by omega) (by omega) (by omega) (by decide) c3 (pt_Pfr hP f3 g3)
          refine ⟨v, w, pt_flT f3 i1 (by omega), pt_gsT g3 i2, ?_⟩
          rcases i3 with ⟨t', m', k', fu', x2', j1, j2, j3, j4, j5, j6, j7, j8, j9, j10, j11⟩ | ⟨j1, j2, j3⟩
          · exact Or.inl ⟨t', m', k', fu', x2', j1, by omega, by omega, j4, j5, j6, j7, j8, j9, j10, j11⟩
          · exact Or.inr ⟨j1, j2, pt_Xmo j3 (by omega)⟩
        · obtain ⟨v3, c1, c2, c3⟩ := pt_putX hX 47
          rw [c1, Option.bind_some, pt_rsD c2.1]
          refine ⟨v3, w2, pt_flT (pt_flT (pt_flA a4) b3 (Nat.le_refl m)) c3 (Nat.le_refl m), pt_gsT (pt_gsB a5) b5, Or.inr ⟨rfl, ?_, c2⟩⟩
          rcases b6 with ⟨z3, q1⟩ | ⟨z3, z0, q1⟩
          · rw [if_neg z3, q1, Option.bind_some]
          · rw [if_pos z3, if_pos rfl, if_pos z0, q1, Option.bind_some]
      · obtain ⟨fm, rfl⟩ : ∃ q, fm = q + 1 := ⟨fm - 1, by omega⟩
        have s42 : f_M_isSign z 42 = 0 := by rw [pt_sgS hS (c := 42) rfl, if_neg h42]
        have s47 : f_M_isSign z 47 = 0 := by rw [pt_sgS hS (c := 47) rfl, if_neg h47]
        refine ⟨u, z, pt_flR m u, pt_gsR z, Or.inl ⟨t, m, k, fu, x2, hk, Nat.le_refl _, Nat.le_refl _, hme, hS, h42, h47, rfl, by omega, hx, ?_⟩⟩
        rw [l_M_readProduct_6, s42, s47, if_pos rfl, if_pos rfl]
/-- the rest of a round of the sum's loop -/
def pt_sT (fu : Nat) (tok : Int) (q : px_Z) (x2 : Int) : Option px_Z := if tok = 43 then (f_Reader_step q).bind (fun q16 => (f_Reader_readUnit q16).bind (fun q17 => l_Reader_readSum_6 fu q17 tok (px_wr (x2 + 1)))) else (if tok = 45 then (f_Reader_step q).bind (fun q19 => (f_Reader_readUnit q19).bind (fun q20 => l_Reader_readSum_6 fu q20 tok (px_wr (x2 + 1)))) else some q)
def pt_SO (b : Nat → Int) (L T k0 e t m : Nat) (ts : List Nat) (v w : px_Z) (r : Int) : Prop := (r = 0 ∧ ∃ t' m' k', k' ≠ 1 ∧ t ≤ t' ∧ m ≤ m' ∧ m' + e ≤ t' ∧ pt_S b L T k0 t' m' (k' :: ts) v w) ∨ (r = -1 ∧ pt_X b L T m v w)
set_option maxHeartbeats 2000000 in
theorem pt_sumL {b : Nat → Int} {L T k0 e : Nat} {ts : List Nat} (hl : ts.length + 2 < 32) : ∀ (d fu fm t m x2 k : Nat) (u z : px_Z), T - t = d → d + 2 < fu → d + 2 < fm → x2 + 1 ≤ t → m + e ≤ t → k ≠ 1 → pt_S b L T k0 t m (k :: ts) u z → pt_P u z →
    ∃ v w r, pt_sT fu (pt_ck b L (pt_st b L t)) u (x2 : Int) = some v ∧ l_M_readSum_6 fm z = some (r, w) ∧ pt_fl m u v ∧ pt_gs z w ∧ pt_SO b L T k0 e t m ts v w r := by
  have hbig : px_big = 1000000 := rfl
  intro d
  induction d using Nat.strongRecOn with
  | ind d ih =>
    intro fu fm t m x2 k u z hd hf hm hx hme hk hS hP
    obtain ⟨htT, hT⟩ := pt_T4 hS.1
    obtain ⟨fm, rfl⟩ : ∃ q, fm = q + 1 := ⟨fm - 1, by omega⟩
    have step : ∀ (c o : Int), (c = 43 ∧ o = 2 ∨ c = 45 ∧ o = 3) → pt_ck b L (pt_st b L t) = c → ∃ v w r, (f_Reader_step u).bind (fun q16 => (f_Reader_readUnit q16).bind (fun q17 => l_Reader_readSum_6 fu q17 c (px_wr ((x2 : Int) + 1)))) = some v ∧ (f_M_reads z).bind (fun q19 => (f_M_readProduct q19).bind (fun q20 => if (q20.1) = ((-1)) then some (((-1), q20.2)) else (f_M_emits q20.2 o 0).bind (fun q22 => l_M_readSum_6 fm q22))) = some (r, w) ∧ pt_fl m u v ∧ pt_gs z w ∧ pt_SO b L T k0 e t m ts v w r := by
      intro c o hco hc
      have ht := pt_A_end hS.1 (by rw [hc]; omega)
      have hcr : pz_cr c o 0 := by
        rcases hco with ⟨q1, q2⟩ | ⟨q1, q2⟩
        · subst q1; subst q2; exact Or.inr (Or.inr (Or.inl ⟨rfl, rfl⟩))
        · subst q1; subst q2; exact Or.inr (Or.inr (Or.inr (Or.inl ⟨rfl, rfl⟩)))
      obtain ⟨v1, w1, a1, a2, a3, a4, a5⟩ := pt_go hS ht
      have P1 : pt_P v1 w1 := pt_Pfr hP (pt_flA (m := m) a4) (pt_gsB a5)
      obtain ⟨v2, w2, r, b1, b2, b3, b4, b5⟩ := pt_unit a3 P1 (by omega) (by rw [List.length_cons]; omega)
      have f2 : pt_fl m u v2 := pt_flT (pt_flA a4) b3 (Nat.le_refl m)
      have g2 : pt_gs z w2 := pt_gsT (pt_gsB a5) b4
      rw [a1, a2, Option.bind_some, Option.bind_some, b1, Option.bind_some, f_M_readProduct, b2, Option.bind_some]
      dsimp only
      rcases b5 with ⟨rfl, ht1, k2, hk2, hS2⟩ | ⟨rfl, hX⟩
      · rw [if_neg pt_0n1, pz_wr_suc (by omega)]
        obtain ⟨v3, w3, i1, i2, i3⟩ := pt_prods (b := b) (L := L) (T := T) (k0 := k0) (e := e + 1) (ts := k :: ts) (by rw [List.length_cons]; omega) (sk := 4) (by decide) c (T - (t + 1 + 1)) fu px_big (t + 1 + 1) (m + 1) (x2 + 1) k2 v2 w2 rfl (by omega) (by omega) (by omega) (by omega) hk2 hS2 (pt_Pfr hP f2 g2)
        have f3 : pt_fl m u v3 := pt_flT f2 i1 (by omega)
        have g3 : pt_gs z w3 := pt_gsT g2 i2
        rcases i3 with ⟨t', m', k', fu', x2', j1, j2, j3, j4, j5, j6, j7, j8, j9, j10, j11⟩ | ⟨j1, j2, j3⟩
        · obtain ⟨htT', _⟩ := pt_T4 j5.1
          obtain ⟨fu', rfl⟩ : ∃ q, fu' = q + 1 := ⟨fu' - 1, by omega⟩
          obtain ⟨p1, p2, p3, p4⟩ := pt_A_tok j5.1
          obtain ⟨v4, w4, c1, c2, c3, c4, c5⟩ := pt_pe2 (x := c) (o := o) (a := 0) j5 (by omega) hcr (pt_t2a (by omega) hk j1) (fun _ => by omega)
          have f4 : pt_fl m u v4 := pt_flT f3 c4 (by omega)
          have g4 : pt_gs z w4 := pt_gsT g3 c5
          obtain ⟨v5, w5, r5, q1, q2, q3, q4, q5⟩ := ih (T - t') (by omega) fu' fm t' (m' + 1) x2' 0 v4 w4 rfl (by omega) (by omega) j10 (by omega) (by decide) c3 (pt_Pfr hP f4 g4)
          rw [j8, j11, Option.bind_some, l_Reader_readSum_6, if_neg (show ¬ (400 : Int) ≤ (x2' : Int) by omega), if_pos j5.2.2.1, if_pos p1, p2, if_neg j6, if_neg j7, if_neg (show ¬ c = 0 by omega), c1, Option.bind_some]
          dsimp only
          rw [if_neg pt_0n1, c2, Option.bind_some]
          refine ⟨v5, w5, r5, q1, q2, pt_flT f4 q3 (by omega), pt_gsT g4 q4, ?_⟩
          rcases q5 with ⟨y0, t2, m2, k2, y1, y2, y3, y4, y5⟩ | ⟨y0, y1⟩
          · exact Or.inl ⟨y0, t2, m2, k2, y1, by omega, by omega, y4, y5⟩
          · exact Or.inr ⟨y0, pt_Xmo y1 (by omega)⟩
        · rw [j1, j2, Option.bind_some]
          exact ⟨v3, w3, -1, rfl, rfl, f3, g3, Or.inr ⟨rfl, pt_Xmo j3 (by omega)⟩⟩
      · obtain ⟨fu, rfl⟩ : ∃ q, fu = q + 1 := ⟨fu - 1, by omega⟩
        rw [if_pos rfl, pt_rsD hX.1, Option.bind_some]
        exact ⟨v2, w2, -1, rfl, rfl, f2, g2, Or.inr ⟨rfl, hX⟩⟩
    have s43 := pt_sgS hS (c := 43) rfl
    have s45 := pt_sgS hS (c := 45) rfl
    unfold pt_sT
    rw [l_M_readSum_6, s43, s45]
    by_cases h43 : pt_ck b L (pt_st b L t) = 43
    · have ez : z 150 17 = 43 := by
        have h10 := hS.2.1.2.2.2.2.2.2.2.2.2
        rcases pt_kinds b (pt_st_le b L t) with ⟨k1, k2, k3⟩ | ⟨ki, k1, k2⟩ | ⟨ki, k1, k2⟩ | ⟨ki, k1, k2, k3⟩ | ⟨j', ki, kj, k1, k2, k3⟩
        · omega
        · omega
        · omega
        · rw [h10 ki, k3, h43]
        · omega
      rw [if_pos h43, if_pos h43, if_neg (by decide), if_pos ez, h43]
      exact step 43 2 (Or.inl ⟨rfl, rfl⟩) h43
    · rw [if_neg h43, if_neg h43, if_pos rfl]
      by_cases h45 : pt_ck b L (pt_st b L t) = 45
      · have ez : z 150 17 = 45 := by
          have h10 := hS.2.1.2.2.2.2.2.2.2.2.2
          rcases pt_kinds b (pt_st_le b L t) with ⟨k1, k2, k3⟩ | ⟨ki, k1, k2⟩ | ⟨ki, k1, k2⟩ | ⟨ki, k1, k2, k3⟩ | ⟨j', ki, kj, k1, k2, k3⟩
          · omega
          · omega
          · omega
          · rw [h10 ki, k3, h45]
          · omega
        rw [if_pos h45, if_pos h45, if_neg (by decide), if_neg (by omega), h45]
        exact step 45 3 (Or.inr ⟨rfl, rfl⟩) h45
      · rw [if_neg h45, if_neg h45, if_pos rfl]
        exact ⟨u, z, 0, rfl, rfl, pt_flR m u, pt_gsR z, Or.inl ⟨rfl, t, m, k, hk, Nat.le_refl _, Nat.le_refl _, hme, hS⟩⟩
theorem pt_sum {b : Nat → Int} {L T k0 e t m : Nat} {ts : List Nat} {u z : px_Z} (hS : pt_S b L T k0 t m ts u z) (hP : pt_P u z) (hl : ts.length + 2 < 32) (he : 1 ≤ e) (hme : m + e ≤ t) : ∃ v w r, f_Reader_readSum u = some v ∧ f_M_readSum z = some (r, w) ∧ pt_fl m u v ∧ pt_gs z w ∧ ((r = 0 ∧ ∃ t' m' k', k' ≠ 1 ∧ t < t' ∧ m < m' ∧ m' + e ≤ t' ∧ pt_S b L T k0 t' m' (k' :: ts) v w) ∨ (r = -1 ∧ pt_X b L T m v w)) := by
  have hbig : px_big = 1000000 := rfl
  obtain ⟨htT, hT⟩ := pt_T4 hS.1
  obtain ⟨v1, w1, r, b1, b2, b3, b4, b5⟩ := pt_unit hS hP (by omega) (by omega)
  unfold f_Reader_readSum f_M_readSum f_M_readProduct
  rw [b1, b2, Option.bind_some, Option.bind_some]
  dsimp only
  rcases b5 with ⟨rfl, ht1, k2, hk2, hS2⟩ | ⟨rfl, hX⟩
  · rw [if_neg (by decide)]
    obtain ⟨v3, w3, i1, i2, i3⟩ := pt_prods (b := b) (L := L) (T := T) (k0 := k0) (e := e) (ts := ts) (by omega) (sk := 4) (by decide) 0 (T - (t + 1)) px_big px_big (t + 1) (m + 1) 0 k2 v1 w1 rfl (by omega) (by omega) (by omega) (by omega) hk2 hS2 (pt_Pfr hP b3 b4)
    have f3 : pt_fl m u v3 := pt_flT b3 i1 (by omega)
    have g3 : pt_gs z w3 := pt_gsT b4 i2
    rcases i3 with ⟨t', m', k', fu', x2', j1, j2, j3, j4, j5, j6, j7, j8, j9, j10, j11⟩ | ⟨j1, j2, j3⟩
    · obtain ⟨htT', _⟩ := pt_T4 j5.1
      obtain ⟨fu', rfl⟩ : ∃ q, fu' = q + 1 := ⟨fu' - 1, by omega⟩
      obtain ⟨p1, p2, p3, p4⟩ := pt_A_tok j5.1
      obtain ⟨v5, w5, r5, q1, q2, q3, q4, q5⟩ := pt_sumL (b := b) (L := L) (T := T) (k0 := k0) (e := e) (ts := ts) hl (T - t') fu' px_big t' m' x2' k' v3 w3 rfl (by omega) (by omega) j10 j4 j1 j5 (pt_Pfr hP f3 g3)
      have j8' : l_Reader_readSum_6 px_big v1 0 0 = l_Reader_readSum_6 (fu' + 1) v3 0 (x2' : Int) := j8
      rw [j8', j11, Option.bind_some, l_Reader_readSum_6, if_neg (show ¬ (400 : Int) ≤ (x2' : Int) by omega), if_pos j5.2.2.1, if_pos p1, p2, if_neg j6, if_neg j7, if_pos rfl]
      dsimp only
      rw [if_neg pt_0n1]
      refine ⟨v5, w5, r5, q1, q2, pt_flT f3 q3 (by omega), pt_gsT g3 q4, ?_⟩
      rcases q5 with ⟨y0, t2, m2, k2, y1, y2, y3, y4, y5⟩ | ⟨y0, y1⟩
      · exact Or.inl ⟨y0, t2, m2, k2, y1, by omega, by omega, y4, y5⟩
      · exact Or.inr ⟨y0, pt_Xmo y1 (by omega)⟩
    · have j1' : l_Reader_readSum_6 px_big v1 0 0 = some v3 := j1
      rw [j1', j2, Option.bind_some]
      exact ⟨v3, w3, -1, rfl, rfl, f3, g3, Or.inr ⟨rfl, pt_Xmo j3 (by omega)⟩⟩
  · have e1 : l_Reader_readSum_6 px_big v1 0 0 = some v1 := pt_rsD hX.1 999999 0 0
    rw [if_pos rfl, Option.bind_some, e1]
    exact ⟨v1, w1, -1, rfl, rfl, b3, b4, Or.inr ⟨rfl, hX⟩⟩
