/-! the call HIT -/
theorem pz_hs_riv {h k : Nat → Int} {n : Nat} (e : ∀ i, i < n → (h i = 1 ↔ k i = 1)) : pz_hs h n = pz_hs k n := by
  unfold pz_hs
  refine pz_fo_congr _ _ _ (fun j _ h2 a => ?_)
  have := e j (by omega)
  by_cases hj : h j = 1
  · rw [if_pos hj, if_pos (this.mp hj)]
  · rw [if_neg hj, if_neg (fun q => hj (this.mpr q))]
/-- LEAST, were a THING with the RIVAL: by the reference -/
theorem pz_hitM {n m mh nW i : Nat} {u z : px_Z} (hW : pz_W n (pz_wo u) z) (hm : u 14 0 = (m : Int)) (hmh : u 28 0 = (mh : Int)) (hnW : (nW : Int) = u 6 4 - u 7 4 + 1) (hw : 1 ≤ nW) (hi : i + 1 < n) (h0 : u 9 i = 0) (h5 : z 150 5 = 0) : ∃ z', f_M_leastHit z (i : Int) = some (if pz_co 10000000 n (u 13) (pz_opc u mh) (u 6 4) (pz_prc u m (i : Int)) nW (pz_hs (u 9) n) (u 7 5 + 1).toNat < 10000000 then pz_co 10000000 n (u 13) (pz_opc u mh) (u 6 4) (pz_prc u m (i : Int)) nW (pz_hs (u 9) n) (u 7 5 + 1).toNat else -1, z') ∧ z' 150 5 = 0 ∧ (∀ j, j < 40 → z' 151 j = z 151 j) ∧ (∀ c j, c ≠ 151 → c ≠ 153 → c ≠ 174 → c ≠ 175 → c ≠ 176 → ¬ (c = 150 ∧ j = 5) → z' c j = z c j) := by
  have hn := hW.1
  obtain ⟨-, r1, r2, r3, r4⟩ := pz_W_nW hW
  obtain ⟨y, t1, t2, t3, t4⟩ := pz_thinks (z := z)
  have hWy : pz_W n (pz_wo u) y := by
    refine pz_W_ek hW pz_ek_rf (fun c j hk => ?_)
    exact t3 c j (fun q => by rw [q] at hk; cases hk) (fun q => by rw [q.1, q.2] at hk; cases hk)
  have hc := hWy.2.2.1.2.2.1 i (by omega)
  have k9 : u 9 i = y 151 (16 + i) := hc.2.1
  have hWt : pz_W n (pz_wo (px_up u 9 i 2)) (px_up y 151 (16 + i) 2) := pz_W_F8 hWy (pz_ag_up pz_ag_rf (by decide)) (pz_ag_up pz_ag_rf (by decide)) (pz_F_riv hWy.2.2.1 hi hn (by rw [← k9]; exact h0) (fun j => pz_up_same u 9 i j 2) (fun j => pz_up_same y 151 (16 + i) j 2)) hWy.2.2.2.2.2.2.2.2
  have hLB : pz_LB n m mh (px_up u 9 i 2) (px_up y 151 (16 + i) 2) := ⟨hWt, hm, hmh⟩
  obtain ⟨x, e2, x1, x2⟩ := pz_findsM hLB hnW ⟨hw, by omega⟩
  obtain ⟨e3, -, -⟩ := pz_leastNowM (pz_LB_ag hLB x1) x2
  obtain ⟨z', d1, d2, d3, d4⟩ := pz_ends (z := x)
  have hhs : pz_hs ((px_up u 9 i 2) 9) n = pz_hs (u 9) n := by
    refine pz_hs_riv (fun j _ => ?_)
    rw [pz_up_same]
    by_cases hji : j = i
    · rw [if_pos hji, hji, h0]; decide
    · rw [if_neg hji]
  have hpr : pz_prc (px_up u 9 i 2) m (-1) = pz_prc u m (i : Int) := by
    funext a b c d
    unfold pz_prc
    have hriv : (if (a : Int) = -1 ∨ (px_up u 9 i 2) 9 a = 2 then (1 : Int) else 0) = (if (a : Int) = (i : Int) ∨ u 9 a = 2 then 1 else 0) := by
      rw [pz_up_same]
      by_cases hai : a = i
      · rw [if_pos hai, if_pos (Or.inr rfl), if_pos (Or.inl (by omega))]
      · rw [if_neg hai]
        by_cases h2 : u 9 a = 2
        · rw [if_pos (Or.inr h2), if_pos (Or.inr h2)]
        · rw [if_neg (by omega), if_neg (by omega)]
    rw [hriv]
    rfl
  have e3' : f_M_leastNow x = some (pz_co 10000000 n (u 13) (pz_opc u mh) (u 6 4) (pz_prc u m (i : Int)) nW (pz_hs (u 9) n) (u 7 5 + 1).toNat) := by
    rw [e3, hhs, hpr]
    rfl
  refine ⟨z', ?_, d2, fun j hj => ?_, fun c j c0 c2 c3 c4 c5 c6 => ?_⟩
  · unfold f_M_leastHit
    rw [t1, Option.bind_some, pz_wr_id (x := 16 + (i : Int)) (by omega) (by omega), if_pos (by omega), show (16 + (i : Int)).toNat = 16 + i by omega, e2, Option.bind_some, e3', Option.bind_some, d1, Option.bind_some]
    by_cases hq : pz_co 10000000 n (u 13) (pz_opc u mh) (u 6 4) (pz_prc u m (i : Int)) nW (pz_hs (u 9) n) (u 7 5 + 1).toNat < 10000000
    · rw [if_pos hq, if_pos hq]
    · rw [if_neg hq, if_neg hq]
  · rw [d4 j hj, x1 153 j (by decide), pz_up_c (by decide), t4 j hj]
  · rw [d3 c j c0 c6, x1 c j (by simp only [List.mem_cons, List.not_mem_nil, or_false]; omega), pz_up_c c0, t3 c j c2 c6]
def pz_fh (z z' : px_Z) : Prop := z' 150 5 = 0 ∧ (∀ j, j < 40 → z' 151 j = z 151 j) ∧ (∀ c j, c ≠ 151 → c ≠ 153 → c ≠ 174 → c ≠ 175 → c ≠ 176 → ¬ (c = 150 ∧ j = 5) → z' c j = z c j)
theorem pz_fh_kp {z z' : px_Z} (h : pz_fh z z') : pz_ek pz_kp z z' := by
  intro c i hk
  by_cases c0 : c = 151
  · subst c0
    exact h.2.1 i (of_decide_eq_true hk)
  · exact h.2.2 c i c0 (fun q => by rw [q] at hk; cases hk) (fun q => by rw [q] at hk; cases hk) (fun q => by rw [q] at hk; cases hk) (fun q => by rw [q] at hk; cases hk) (fun q => by rw [q.1, q.2] at hk; cases hk)
theorem pz_fh_tr {z y x : px_Z} (h1 : pz_fh z y) (h2 : pz_fh y x) : pz_fh z x := ⟨h2.1, fun j hj => (h2.2.1 j hj).trans (h1.2.1 j hj), fun c j a b c' d e f => (h2.2.2 c j a b c' d e f).trans (h1.2.2 c j a b c' d e f)⟩
theorem pz_sol_up {n m mh i : Nat} {v : Int} {s : px_Z} (hi : 13 ≤ i) (h : pz_sol n m mh s) : pz_sol n m mh (px_up s 145 i v) := by
  have ha : pz_ag [20, 46, 145, 146, 147, 148, 149] s (px_up s 145 i v) := pz_ag_up pz_ag_rf (by decide)
  have hc : ∀ c, c ≠ 145 → (px_up s 145 i v) c = s c := fun c hc => funext (fun j => pz_up_c hc)
  have hk : ∀ k, k < 13 → (px_up s 145 i v) 145 k = s 145 k := fun k hk => pz_up_i (by omega)
  unfold pz_sol pz_bl at h ⊢
  rw [hk 5 (by decide), hk 6 (by decide), hk 9 (by decide), hk 10 (by decide), hk 11 (by decide), hk 12 (by decide), pz_opc_ag ha, pz_prc_ag ha, hc 9 (by decide), hc 13 (by decide), hc 6 (by decide), hc 7 (by decide), hc 147 (by decide)]
  exact h
/-- the reference's loop: the hardest -/
theorem pz_hitZ {n m mh nW : Nat} {x1 : Int} {K2 : px_Z → Int → Int → Int → Option (Int × px_Z)} {s : px_Z} (hw : 1 ≤ nW) (hm : s 14 0 = (m : Int)) (hmh : s 28 0 = (mh : Int)) (hnW : (nW : Int) = s 6 4 - s 7 4 + 1) : ∀ (r gu i : Nat) (z : px_Z) (b : Int × Int), i + r = n - 1 → r < gu → pz_W n (pz_wo s) z → z 150 5 = 0 → -1 ≤ b.2 → ∃ z', l_M_hit_21 K2 gu z x1 b.1 b.2 (i : Int) = K2 z' x1 (pz_hw (s 9) (pz_hx n m mh s) r i b).1 (pz_hw (s 9) (pz_hx n m mh s) r i b).2 ∧ pz_fh z z' := by
  intro r
  induction r with
  | zero =>
    intro gu i z b hi hg hW h5 hmo
    obtain ⟨g, rfl⟩ : ∃ g, gu = g + 1 := ⟨gu - 1, by omega⟩
    have hn := hW.1
    have b2 : z 150 6 = (n : Int) := hW.2.1.2.1
    rw [l_M_hit_21, b2, pz_wr_pred (by omega), if_pos (by omega)]
    exact ⟨z, rfl, h5, fun _ _ => rfl, fun _ _ _ _ _ _ _ _ => rfl⟩
  | succ r ih =>
    intro gu i z b hi hg hW h5 hmo
    obtain ⟨g, rfl⟩ : ∃ g, gu = g + 1 := ⟨gu - 1, by omega⟩
    have hn := hW.1
    obtain ⟨-, r1, r2, r3, r4⟩ := pz_W_nW hW
    have b2 : z 150 6 = (n : Int) := hW.2.1.2.1
    have k9 : s 9 i = z 151 (16 + i) := (hW.2.2.1.2.2.1 i (by omega)).2.1
    have hhw : pz_hw (s 9) (pz_hx n m mh s) (r + 1) i b = pz_hw (s 9) (pz_hx n m mh s) r (i + 1) (if s 9 i = 0 then (if 536870912 ≤ pz_hx n m mh s i then b else (if pz_hx n m mh s i ≤ b.2 then b else ((i : Int), pz_hx n m mh s i))) else b) := rfl
    rw [hhw, l_M_hit_21, b2, pz_wr_pred (by omega), pz_wr_id (x := 16 + (i : Int)) (by omega) (by omega), show (16 + (i : Int)).toNat = 16 + i by omega, ← k9, pz_wr_suc (i := i) (by omega)]
    simp only [if_neg (show ¬ ((n : Int) - 1 ≤ (i : Int)) by omega), if_pos (show 0 ≤ 16 + (i : Int) ∧ 16 + (i : Int) < 40 by omega)]
    by_cases h0 : s 9 i = 0
    · rw [if_pos h0, if_pos h0]
      obtain ⟨z1, e2, hz1⟩ := pz_hitM hW hm hmh hnW hw (show i + 1 < n by omega) h0 h5
      have hfh : pz_fh z z1 := hz1
      have hWz1 : pz_W n (pz_wo s) z1 := pz_W_ek hW pz_ek_rf (pz_fh_kp hfh)
      have hp : ∀ t w c q, 1 ≤ pz_prc s m (i : Int) t w c q ∧ pz_prc s m (i : Int) t w c q ≤ 9999 := fun t w c q => pz_pr_rg
      have rl1 := pz_co_rl (n := n) (af := s 13) (op := pz_opc s mh) (th := s 6 4) hp nW (by omega) (pz_hs (s 9) n) (s 7 5 + 1).toNat
      have hxe : pz_hx n m mh s i = pz_co 536870912 n (s 13) (pz_opc s mh) (s 6 4) (pz_prc s m (i : Int)) nW (pz_hs (s 9) n) (s 7 5 + 1).toNat := by
        unfold pz_hx
        rw [if_pos (by omega), show (s 6 4 - s 7 4 + 1).toNat = nW by omega]
      rw [← hxe] at rl1
      rw [e2, Option.bind_some]
      dsimp only
      have hnx : ∀ b' : Int × Int, -1 ≤ b'.2 → ∃ z', l_M_hit_21 K2 g z1 x1 b'.1 b'.2 ((i + 1 : Nat) : Int) = K2 z' x1 (pz_hw (s 9) (pz_hx n m mh s) r (i + 1) b').1 (pz_hw (s 9) (pz_hx n m mh s) r (i + 1) b').2 ∧ pz_fh z z' := by
        intro b' hb'
        obtain ⟨z', a2, a5⟩ := ih g (i + 1) z1 b' (by omega) (by omega) hWz1 hz1.1 hb'
        exact ⟨z', a2, pz_fh_tr hfh a5⟩
      unfold f_M_greater
      by_cases hfin : pz_co 10000000 n (s 13) (pz_opc s mh) (s 6 4) (pz_prc s m (i : Int)) nW (pz_hs (s 9) n) (s 7 5 + 1).toNat < 10000000
      · have hsum : pz_hx n m mh s i = pz_co 10000000 n (s 13) (pz_opc s mh) (s 6 4) (pz_prc s m (i : Int)) nW (pz_hs (s 9) n) (s 7 5 + 1).toNat := by
          unfold pz_rl at rl1; omega
        rw [if_pos hfin, ← hsum, if_neg (show ¬ ((536870912 : Int) ≤ pz_hx n m mh s i) by omega)]
        by_cases hmx : pz_hx n m mh s i ≤ b.2
        · simp only [if_pos hmx]
          exact hnx b hmo
        · simp only [if_neg hmx]
          exact hnx ((i : Int), pz_hx n m mh s i) (by show -1 ≤ pz_hx n m mh s i; omega)
      · rw [if_neg hfin, if_pos (show (536870912 : Int) ≤ pz_hx n m mh s i by unfold pz_rl at rl1; omega)]
        simp only [if_pos hmo]
        exact hnx b hmo
    · rw [if_neg h0, if_neg h0]
      unfold f_M_greater
      simp only [if_pos hmo]
      exact ih g (i + 1) z b (by omega) (by omega) hW h5 hmo
/-- the class's loop: the hardest -/
theorem pz_hitL {n m mh : Nat} {s z : px_Z} (hW : pz_W n (pz_wo s) z) (hm : s 14 0 = (m : Int)) (hmh : s 28 0 = (mh : Int)) : ∀ (r fu i : Nat) (u : px_Z) (b : Int × Int), i + r + 1 = max n 1 → r < fu → pz_ag [20, 46, 145, 146, 147, 148, 149] s u → pz_Cs n m mh u → u 145 13 = 1 → u 145 14 = b.1 → u 145 15 = b.2 → ∃ u', l_Least_findHardest_15 fu u (i : Int) = some u' ∧ pz_ag [20, 46, 145, 146, 147, 148, 149] s u' ∧ pz_Cs n m mh u' ∧ u' 145 13 = 1 ∧ u' 145 14 = (pz_hw (s 9) (pz_hx n m mh s) r i b).1 ∧ u' 145 15 = (pz_hw (s 9) (pz_hx n m mh s) r i b).2 := by
  intro r
  induction r with
  | zero =>
    intro fu i u b hi hf ha hC h13 h14 h15
    obtain ⟨f, rfl⟩ : ∃ f, fu = f + 1 := ⟨fu - 1, by omega⟩
    have hn := hW.1
    have b1 : u 6 1 = (n : Int) := (ha 6 1 (by decide)).trans hW.2.1.1
    rw [l_Least_findHardest_15, b1, pz_wr_pred (by omega), if_pos (by omega)]
    exact ⟨u, rfl, ha, hC, h13, h14, h15⟩
  | succ r ih =>
    intro fu i u b hi hf ha hC h13 h14 h15
    obtain ⟨f, rfl⟩ : ∃ f, fu = f + 1 := ⟨fu - 1, by omega⟩
    have hn := hW.1
    have b1 : u 6 1 = (n : Int) := (ha 6 1 (by decide)).trans hW.2.1.1
    have u9 : u 9 i = s 9 i := ha 9 i (by decide)
    have hhw : pz_hw (s 9) (pz_hx n m mh s) (r + 1) i b = pz_hw (s 9) (pz_hx n m mh s) r (i + 1) (if s 9 i = 0 then (if 536870912 ≤ pz_hx n m mh s i then b else (if pz_hx n m mh s i ≤ b.2 then b else ((i : Int), pz_hx n m mh s i))) else b) := rfl
    rw [hhw, l_Least_findHardest_15, b1, pz_wr_pred (by omega), if_neg (by omega), if_pos (by omega), Int.toNat_natCast, u9, pz_wr_suc (i := i) (by omega)]
    by_cases h0 : s 9 i = 0
    · rw [if_pos h0, if_pos h0]
      have hWu := pz_W_think hW ha
      obtain ⟨v, e1, hv, v13, hlo, hsol, h7⟩ := pz_solved (tk := (i : Int)) hWu ((ha 14 0 (by decide)).trans hm) ((ha 28 0 (by decide)).trans hmh) hC (by omega)
      have hav := pz_ag_tr ha hv
      have hCv : pz_Cs n m mh v := Or.inr ⟨hlo, hsol⟩
      have k13 := (v13 13 (by decide)).trans h13
      have k14 := (v13 14 (by decide)).trans h14
      have k15 := (v13 15 (by decide)).trans h15
      have v64 : v 6 4 = s 6 4 := hav 6 4 (by decide)
      have v74 : v 7 4 = s 7 4 := hav 7 4 (by decide)
      have hx : v 145 11 = pz_hx n m mh s i := by
        rw [← pz_hx_ag hav]
        unfold pz_hx
        by_cases hle : v 7 4 ≤ v 6 4
        · rw [if_pos hle, (hsol.2.2.2 hle).1, h7]
        · rw [if_neg hle]
          exact hsol.2.2.1 (by omega)
      rw [e1, Option.bind_some]
      unfold f_Least_canBe
      rw [hx, k15]
      by_cases hN : (536870912 : Int) ≤ pz_hx n m mh s i
      · rw [if_pos hN, if_pos hN, if_pos rfl]
        exact ih f (i + 1) v b (by omega) (by omega) hav hCv k13 k14 k15
      · rw [if_neg hN, if_neg hN, if_neg (show ¬ ((1 : Int) = 0) by decide)]
        by_cases hmx : pz_hx n m mh s i ≤ b.2
        · rw [if_pos hmx, if_pos hmx]
          exact ih f (i + 1) v b (by omega) (by omega) hav hCv k13 k14 k15
        · rw [if_neg hmx, if_neg hmx]
          refine ih f (i + 1) _ ((i : Int), pz_hx n m mh s i) (by omega) (by omega) (pz_ag_up (pz_ag_up hav (by decide)) (by decide)) (Or.inr ⟨?_, ?_⟩) ?_ rfl rfl
          · exact hlo
          · exact pz_sol_up (by decide) (pz_sol_up (by decide) hsol)
          · exact k13
    · rw [if_neg h0, if_neg h0]
      exact ih f (i + 1) u b (by omega) (by omega) ha hC h13 h14 h15
/-- the class's hardest -/
theorem pz_hardest {n m mh : Nat} {s z : px_Z} (hW : pz_W n (pz_wo s) z) (hm : s 14 0 = (m : Int)) (hmh : s 28 0 = (mh : Int)) (hCs : pz_Cs n m mh s) (hCh : pz_Ch n m mh s) : ∃ u, f_Least_findHardest s = some u ∧ pz_ag [20, 46, 145, 146, 147, 148, 149] s u ∧ pz_C n u ∧ u 145 14 = (pz_hw (s 9) (pz_hx n m mh s) (n - 1) 0 (-1, -1)).1 ∧ u 145 15 = (pz_hw (s 9) (pz_hx n m mh s) (n - 1) 0 (-1, -1)).2 := by
  unfold f_Least_findHardest
  by_cases h0 : s 145 13 = 0
  · rw [if_pos h0]
    have hsx : pz_Cs n m mh (px_up (px_up (px_up s 145 13 1) 145 14 (-1)) 145 15 (-1)) := by
      rcases hCs with hCs | ⟨q1, q2⟩
      · exact Or.inl hCs
      · exact Or.inr ⟨q1, pz_sol_up (by decide) (pz_sol_up (by decide) (pz_sol_up (by decide) q2))⟩
    obtain ⟨u, e1, e2, e3, e4, e5, e6⟩ := pz_hitL hW hm hmh (n - 1) px_big 0 _ (-1, -1) (by omega) (pz_big_lt (by have := hW.1; omega)) (pz_ag_up (pz_ag_up (pz_ag_up pz_ag_rf (by decide)) (by decide)) (by decide)) hsx rfl rfl rfl
    refine ⟨u, e1, e2, Or.inr ⟨m, mh, (e2 14 0 (by decide)).trans hm, (e2 28 0 (by decide)).trans hmh, e3, Or.inr ?_⟩, e5, e6⟩
    rw [pz_hx_ag e2, show u 9 = s 9 from funext (fun i => e2 9 i (by decide)), e5, e6]
  · rw [if_neg h0]
    rcases hCh with hCh | hCh
    · exact absurd hCh h0
    · exact ⟨s, rfl, pz_ag_rf, Or.inr ⟨m, mh, hm, hmh, hCs, Or.inr hCh⟩, by rw [← hCh], by rw [← hCh]⟩
theorem pz_hw_no {h x : Nat → Int} (hx : ∀ i, 536870912 ≤ x i) : ∀ (r i : Nat) (b : Int × Int), pz_hw h x r i b = b := by
  intro r
  induction r with
  | zero => intro i b; rfl
  | succ r ih =>
    intro i b
    have hhw : pz_hw h x (r + 1) i b = pz_hw h x r (i + 1) (if h i = 0 then (if 536870912 ≤ x i then b else (if x i ≤ b.2 then b else ((i : Int), x i))) else b) := rfl
    rw [hhw, if_pos (hx i), ih]
    split <;> rfl
theorem po_hit {s : px_Z} (h : pz_I s) (v : Int) : pz_op (f_R_hit s v) (fun x => f_M_hit x v) := by
  have h' := h
  obtain ⟨n, hW, hU, hM, hT, hX, hC⟩ := h
  have hn := hW.1
  obtain ⟨-, r1, r2, r3, r4⟩ := pz_W_nW hW
  obtain ⟨m, mh, hm, hmh, hCs, hCh⟩ := pz_C_get hW hC
  obtain ⟨u, e1, ha, hCu, u14, u15⟩ := pz_hardest hW hm hmh hCs hCh
  have hR0 : f_R_hit s v = if 0 ≤ v ∧ v ≤ 1 then (if v = 0 then some (u 145 14, u) else some (u 145 15, u)) else some (-1, s) := by
    unfold f_R_hit
    rw [pz_within, pz_i1, e1, Option.bind_some]
  have hM0 : ∀ u : px_Z, f_M_weeksLeft (px_up u 150 0 0) = s 6 4 - s 7 4 + 1 → f_M_hit u v = if 0 ≤ v ∧ v ≤ 1 then (if 1 ≤ s 6 4 - s 7 4 + 1 then l_M_hit_21 (fun s x1 x2 x3 => if (x1) = (0) then some (x2, s) else some (x3, s)) px_big (px_up u 150 0 0) v (-1) (-1) 0 else some (-1, px_up u 150 0 0)) else some (-1, px_up u 150 0 0) := by
    intro u hu
    unfold f_M_hit
    rw [pz_isIn, pz_i1, hu]
  have hek : pz_ek pz_kp s (px_up u 150 0 0) := pz_ek_up rfl (pz_ek_ag (L := [20, 46, 145, 146, 147, 148, 149]) ⟨fun _ => rfl, fun _ => rfl, fun _ => rfl, fun _ => rfl, fun _ => rfl, fun _ => rfl, fun _ => rfl, trivial⟩ ha pz_ek_rf)
  have hWs : pz_W n (pz_wo s) (px_up u 150 0 0) := pz_W_ek hW pz_ek_rf hek
  have hIu := pz_I_think hW hU hM hT hX ha hCu
  by_cases hv : 0 ≤ v ∧ v ≤ 1
  · rw [if_pos hv] at hR0
    by_cases hle : s 7 4 ≤ s 6 4
    · obtain ⟨nW, hnW⟩ : ∃ nW : Nat, (nW : Int) = s 6 4 - s 7 4 + 1 := ⟨(s 6 4 - s 7 4 + 1).toNat, by omega⟩
      obtain ⟨z', b2, b5⟩ := pz_hitZ (n := n) (m := m) (mh := mh) (nW := nW) (x1 := v) (K2 := fun s x1 x2 x3 => if (x1) = (0) then some (x2, s) else some (x3, s)) (by omega) hm hmh hnW (n - 1) px_big 0 (px_up u 150 0 0) (-1, -1) (by omega) (pz_big_lt (by omega)) hWs ((ha 150 5 (by decide)).trans hX.2.2.1) (by decide)
      have hIy : pz_I z' := by
        refine pz_I_ek (pz_I_told hIu) (fun c i hk => ?_)
        by_cases c0 : c = 151
        · subst c0
          by_cases hi : i < 40
          · exact b5.2.1 i hi
          · exfalso
            have : pz_kI 151 i = decide (i < 40) := by
              show (_ || _ || _ || _ || _ || _ || _) = _
              simp [pz_kR, pz_ku, pz_kc, pz_kp, pz_kb, pz_kU, pz_kM, pz_kT, pz_kX, pz_kC]
            rw [this] at hk
            exact hi (of_decide_eq_true hk)
        · by_cases c5 : c = 150 ∧ i = 5
          · rw [c5.1, c5.2, b5.1]
            exact ((ha 150 5 (by decide)).trans hX.2.2.1).symm
          · exact b5.2.2 c i c0 (fun q => by rw [q] at hk; cases hk) (fun q => by rw [q] at hk; cases hk) (fun q => by rw [q] at hk; cases hk) (fun q => by rw [q] at hk; cases hk) c5
      have hMu : f_M_hit u v = (if v = 0 then some (u 145 14, z') else some (u 145 15, z')) := by
        rw [hM0 u (pz_W_nW hWs).1, if_pos hv, if_pos (by omega), u14, u15]
        exact b2
      by_cases v0 : v = 0
      · rw [if_pos v0] at hMu hR0
        exact ⟨_, u, z', hR0, hMu, hIy⟩
      · rw [if_neg v0] at hMu hR0
        exact ⟨_, u, z', hR0, hMu, hIy⟩
    · have hno := pz_hw_no (h := s 9) (x := pz_hx n m mh s) (fun i => by unfold pz_hx; rw [if_neg hle]; exact Int.le_refl _) (n - 1) 0 (-1, -1)
      rw [hno] at u14 u15
      have hMu : f_M_hit u v = some (-1, px_up u 150 0 0) := by
        rw [hM0 u (pz_W_nW hWs).1, if_pos hv, if_neg (by omega)]
      rw [u14, u15] at hR0
      by_cases v0 : v = 0
      · rw [if_pos v0] at hR0
        exact ⟨_, u, _, hR0, hMu, pz_I_told hIu⟩
      · rw [if_neg v0] at hR0
        exact ⟨_, u, _, hR0, hMu, pz_I_told hIu⟩
  · rw [if_neg hv] at hR0
    refine ⟨-1, s, px_up s 150 0 0, hR0, ?_, pz_I_told h'⟩
    show f_M_hit s v = _
    have hWs2 : pz_W n (pz_wo s) (px_up s 150 0 0) := pz_W_ek hW pz_ek_rf (pz_ek_up rfl pz_ek_rf)
    rw [hM0 s (pz_W_nW hWs2).1, if_neg hv]
