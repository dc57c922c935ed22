/-! the call HIT -/
theorem pz_hs_riv {h k : Nat → Int} {n : Nat} (e : ∀ i, i < n → (h i = 1 ↔ k i = 1)) : pz_hs h n = pz_hs k n := by
  unfold pz_hs
  refine pz_fo_congr _ _ _ (fun j _ h2 a => ?_)
  have := e j (by omega)
  by_cases hj : h j = 1
  · rw [if_pos hj, if_pos (this.mp hj)]
  · rw [if_neg hj, if_neg (fun q => hj (this.mpr q))]
/-- LEAST, were a THING with the RIVAL: by the reference -/
theorem pz_hitM {n m mh nW i : Nat} {u z : px_Z} (hW : pz_W n (pz_wo u) z) (hm : u 14 0 = (m : Int)) (hmh : u 28 0 = (mh : Int)) (hnW : (nW : Int) = u 6 4 - u 7 4 + 1) (hw : 1 ≤ nW) (hi : i + 1 < n) (h0 : u 9 i = 0) (h5 : z 149 5 = 0) : ∃ z', f_M_leastHit z (i : Int) = some (if pz_co 10000000 n (u 13) (pz_opc u mh) (u 6 4) (pz_prc u m (i : Int)) nW (pz_hs (u 9) n) (u 7 5 + 1).toNat < 10000000 then pz_co 10000000 n (u 13) (pz_opc u mh) (u 6 4) (pz_prc u m (i : Int)) nW (pz_hs (u 9) n) (u 7 5 + 1).toNat else -1, z') ∧ z' 149 5 = 0 ∧ (∀ j, j < 40 → z' 150 j = z 150 j) ∧ (∀ c j, c ≠ 150 → c ≠ 152 → c ≠ 173 → c ≠ 174 → c ≠ 175 → ¬ (c = 149 ∧ j = 5) → z' c j = z c j) := by
  have hn := hW.1
  obtain ⟨-, r1, r2, r3, r4⟩ := pz_W_nW hW
  obtain ⟨y, t1, t2, t3, t4⟩ := pz_thinks (z := z)
  have hWy : pz_W n (pz_wo u) y := by
    refine pz_W_ek hW pz_ek_rf (fun c j hk => ?_)
    exact t3 c j (fun q => by rw [q] at hk; cases hk) (fun q => by rw [q.1, q.2] at hk; cases hk)
  have hc := hWy.2.2.1.2.2.1 i (by omega)
  have k9 : u 9 i = y 150 (16 + i) := hc.2.1
  have hWt : pz_W n (pz_wo (px_up u 9 i 2)) (px_up y 150 (16 + i) 2) := pz_W_F8 hWy (pz_ag_up pz_ag_rf (by decide)) (pz_ag_up pz_ag_rf (by decide)) (pz_F_riv hWy.2.2.1 hi hn (by rw [← k9]; exact h0) (fun j => pz_up_same u 9 i j 2) (fun j => pz_up_same y 150 (16 + i) j 2)) hWy.2.2.2.2.2.2.2.2
  have hLB : pz_LB n m mh (px_up u 9 i 2) (px_up y 150 (16 + i) 2) := ⟨hWt, hm, hmh⟩
  obtain ⟨x, e2, x1, x2⟩ := pz_findsM hLB hnW ⟨hw, by omega⟩
  obtain ⟨e3, -, -⟩ := pz_leastNowM (pz_LB_ag hLB x1) x2
  obtain ⟨z', d1, d2, d3, d4⟩ := pz_ends (z := x)
  have hhs : pz_hs ((px_up u 9 i 2) 9) n = pz_hs (u 9) n := by
    refine pz_hs_riv (fun j _ => ?_)
    rw [pz_up_same]
    by_cases hji : j = i
    · rw [if_pos hji, hji, h0]; decide
    · rw [if_neg hji]
  have hpr : pz_prc (px_up u 9 i 2) m (-1) = pz_prc u m (i : Int) := by
    funext a b c d
    unfold pz_prc
    have hriv : (if (a : Int) = -1 ∨ (px_up u 9 i 2) 9 a = 2 then (1 : Int) else 0) = (if (a : Int) = (i : Int) ∨ u 9 a = 2 then 1 else 0) := by
      rw [pz_up_same]
      by_cases hai : a = i
      · rw [if_pos hai, if_pos (Or.inr rfl), if_pos (Or.inl (by omega))]
      · rw [if_neg hai]
        by_cases h2 : u 9 a = 2
        · rw [if_pos (Or.inr h2), if_pos (Or.inr h2)]
        · rw [if_neg (by omega), if_neg (by omega)]
    rw [hriv]
    rfl
  have e3' : f_M_leastNow x = some (pz_co 10000000 n (u 13) (pz_opc u mh) (u 6 4) (pz_prc u m (i : Int)) nW (pz_hs (u 9) n) (u 7 5 + 1).toNat) := by
    rw [e3, hhs, hpr]
    rfl
  refine ⟨z', ?_, d2, fun j hj => ?_, fun c j c0 c2 c3 c4 c5 c6 => ?_⟩
  · unfold f_M_leastHit
    rw [t1, Option.bind_some, pz_wr_id (x := 16 + (i : Int)) (by omega) (by omega), if_pos (by omega), show (16 + (i : Int)).toNat = 16 + i by omega, e2, Option.bind_some, e3', Option.bind_some, d1, Option.bind_some]
    by_cases hq : pz_co 10000000 n (u 13) (pz_opc u mh) (u 6 4) (pz_prc u m (i : Int)) nW (pz_hs (u 9) n) (u 7 5 + 1).toNat < 10000000
    · rw [if_pos hq, if_pos hq]
    · rw [if_neg hq, if_neg hq]
  · rw [d4 j hj, x1 152 j (by decide), pz_up_c (by decide), t4 j hj]
  · rw [d3 c j c0 c6, x1 c j (by simp only [List.mem_cons, List.not_mem_nil, or_false]; omega), pz_up_c c0, t3 c j c2 c6]
def pz_fh (z z' : px_Z) : Prop := z' 149 5 = 0 ∧ (∀ j, j < 40 → z' 150 j = z 150 j) ∧ (∀ c j, c ≠ 150 → c ≠ 152 → c ≠ 173 → c ≠ 174 → c ≠ 175 → ¬ (c = 149 ∧ j = 5) → z' c j = z c j)
theorem pz_fh_kp {z z' : px_Z} (h : pz_fh z z') : pz_ek pz_kp z z' := by
  intro c i hk
  by_cases c0 : c = 150
  · subst c0
    exact h.2.1 i (of_decide_eq_true hk)
  · exact h.2.2 c i c0 (fun q => by rw [q] at hk; cases hk) (fun q => by rw [q] at hk; cases hk) (fun q => by rw [q] at hk; cases hk) (fun q => by rw [q] at hk; cases hk) (fun q => by rw [q.1, q.2] at hk; cases hk)
theorem pz_fh_tr {z y x : px_Z} (h1 : pz_fh z y) (h2 : pz_fh y x) : pz_fh z x := ⟨h2.1, fun j hj => (h2.2.1 j hj).trans (h1.2.1 j hj), fun c j a b c' d e f => (h2.2.2 c j a b c' d e f).trans (h1.2.2 c j a b c' d e f)⟩
theorem pz_hitP {n nW : Nat} {x1 : Int} {K1 K2 : px_Z → Int → Int → Int → Option (Int × px_Z)} (hw : 1 ≤ nW) : ∀ (r fu gu i : Nat) (s z : px_Z) (be mo : Int), i + r + 1 = max n 1 → r < fu → r < gu → pz_W n (pz_wo s) z → pz_C n s → z 149 5 = 0 → (nW : Int) = s 6 4 - s 7 4 + 1 → -1 ≤ mo → ∃ s' z' be' mo', l_R_hit_13 K1 fu s x1 mo be (i : Int) = K1 s' x1 mo' be' ∧ l_M_hit_21 K2 gu z x1 be mo (i : Int) = K2 z' x1 be' mo' ∧ pz_C n s' ∧ pz_ag [20, 46, 145, 146, 147, 148] s s' ∧ pz_fh z z' := by
  intro r
  induction r with
  | zero =>
    intro fu gu i s z be mo hi hf hg hW hC h5 hnW hmo
    obtain ⟨f, rfl⟩ : ∃ f, fu = f + 1 := ⟨fu - 1, by omega⟩
    obtain ⟨g, rfl⟩ : ∃ g, gu = g + 1 := ⟨gu - 1, by omega⟩
    have hn := hW.1
    have b1 : s 6 1 = (n : Int) := hW.2.1.1
    have b2 : z 149 6 = (n : Int) := hW.2.1.2.1
    rw [l_R_hit_13, l_M_hit_21, b1, b2, pz_wr_pred (by omega), if_pos (by omega), if_pos (by omega)]
    exact ⟨s, z, be, mo, rfl, rfl, hC, pz_ag_rf, h5, fun _ _ => rfl, fun _ _ _ _ _ _ _ _ => rfl⟩
  | succ r ih =>
    intro fu gu i s z be mo hi hf hg hW hC h5 hnW hmo
    obtain ⟨f, rfl⟩ : ∃ f, fu = f + 1 := ⟨fu - 1, by omega⟩
    obtain ⟨g, rfl⟩ : ∃ g, gu = g + 1 := ⟨gu - 1, by omega⟩
    have hn := hW.1
    obtain ⟨-, r1, r2, r3, r4⟩ := pz_W_nW hW
    have b1 : s 6 1 = (n : Int) := hW.2.1.1
    have b2 : z 149 6 = (n : Int) := hW.2.1.2.1
    have k9 : s 9 i = z 150 (16 + i) := (hW.2.2.1.2.2.1 i (by omega)).2.1
    rw [l_R_hit_13, l_M_hit_21, b1, b2, pz_wr_pred (by omega), pz_wr_id (x := 16 + (i : Int)) (by omega) (by omega), show (16 + (i : Int)).toNat = 16 + i by omega, Int.toNat_natCast, ← k9, pz_wr_suc (i := i) (by omega)]
    simp only [if_neg (show ¬ ((n : Int) - 1 ≤ (i : Int)) by omega), if_pos (show 0 ≤ (i : Int) ∧ (i : Int) < 8 by omega), if_pos (show 0 ≤ 16 + (i : Int) ∧ 16 + (i : Int) < 40 by omega)]
    by_cases h0 : s 9 i = 0
    · rw [if_pos h0, if_pos h0]
      obtain ⟨u, e1, ha, h7, m, mh, hm, hmh, hsol⟩ := pz_solved (tk := (i : Int)) hW hC (by omega)
      have hCu : pz_C n u := Or.inr ⟨by rw [h7]; omega, m, mh, hm, hmh, hsol⟩
      have hWu := pz_W_think hW ha
      have u64 : u 6 4 = s 6 4 := ha 6 4 (by decide)
      have u74 : u 7 4 = s 7 4 := ha 7 4 (by decide)
      have hnWu : (nW : Int) = u 6 4 - u 7 4 + 1 := by rw [u64, u74]; exact hnW
      obtain ⟨z1, e2, hz1⟩ := pz_hitM hWu hm hmh hnWu hw (show i + 1 < n by omega) ((ha 9 i (by decide)).trans h0) h5
      have hfh : pz_fh z z1 := hz1
      have hWz1 : pz_W n (pz_wo u) z1 := pz_W_ek hWu pz_ek_rf (pz_fh_kp hfh)
      obtain ⟨q1, q2, q3⟩ := hsol
      obtain ⟨p1, p2, p3⟩ := q3 (by omega)
      rw [h7, show (u 6 4 - u 7 4 + 1).toNat = nW by omega] at p1
      have hp : ∀ t w c q, 1 ≤ pz_prc u m (i : Int) t w c q ∧ pz_prc u m (i : Int) t w c q ≤ 9999 := fun t w c q => pz_pr_rg
      have rl1 := pz_co_rl (n := n) (af := u 13) (op := pz_opc u mh) (th := u 6 4) hp nW (by omega) (pz_hs (u 9) n) (u 7 5 + 1).toNat
      rw [← p1] at rl1
      rw [e1, e2, Option.bind_some, Option.bind_some]
      dsimp only
      have hnx : ∀ (be' mo' : Int), -1 ≤ mo' → ∃ s' z' be2 mo2, l_R_hit_13 K1 f u x1 mo' be' ((i + 1 : Nat) : Int) = K1 s' x1 mo2 be2 ∧ l_M_hit_21 K2 g z1 x1 be' mo' ((i + 1 : Nat) : Int) = K2 z' x1 be2 mo2 ∧ pz_C n s' ∧ pz_ag [20, 46, 145, 146, 147, 148] s s' ∧ pz_fh z z' := by
        intro be' mo' hmo'
        obtain ⟨s', z', be2, mo2, a1, a2, a3, a4, a5⟩ := ih f g (i + 1) u z1 be' mo' (by omega) (by omega) (by omega) hWz1 hCu hz1.1 hnWu hmo'
        exact ⟨s', z', be2, mo2, a1, a2, a3, pz_ag_tr ha a4, pz_fh_tr hfh a5⟩
      unfold f_Least_canBe f_M_greater
      by_cases hfin : pz_co 10000000 n (u 13) (pz_opc u mh) (u 6 4) (pz_prc u m (i : Int)) nW (pz_hs (u 9) n) (u 7 5 + 1).toNat < 10000000
      · have hsum : u 145 8 = pz_co 10000000 n (u 13) (pz_opc u mh) (u 6 4) (pz_prc u m (i : Int)) nW (pz_hs (u 9) n) (u 7 5 + 1).toNat := by
          unfold pz_rl at rl1; omega
        rw [if_pos hfin, ← hsum, if_neg (show ¬ ((if (536870912 : Int) ≤ u 145 8 then (0 : Int) else 1) = 0) by rw [if_neg (by omega)]; decide)]
        by_cases hmx : u 145 8 ≤ mo
        · simp only [if_pos hmx]
          exact hnx be mo hmo
        · simp only [if_neg hmx]
          exact hnx (i : Int) (u 145 8) (by omega)
      · rw [if_neg hfin, if_pos (show (if (536870912 : Int) ≤ u 145 8 then (0 : Int) else 1) = 0 by rw [if_pos (by unfold pz_rl at rl1; omega)])]
        simp only [if_pos hmo]
        exact hnx be mo hmo
    · rw [if_neg h0, if_neg h0]
      unfold f_M_greater
      simp only [if_pos hmo]
      exact ih f g (i + 1) s z be mo (by omega) (by omega) (by omega) hW hC h5 hnW hmo
theorem pz_hit0 {n : Nat} {x1 : Int} {K1 : px_Z → Int → Int → Int → Option (Int × px_Z)} : ∀ (r fu i : Nat) (s z : px_Z), i + r + 1 = max n 1 → r < fu → pz_W n (pz_wo s) z → pz_C n s → s 6 4 < s 7 4 → ∃ s', l_R_hit_13 K1 fu s x1 (-1) (-1) (i : Int) = K1 s' x1 (-1) (-1) ∧ pz_C n s' ∧ pz_ag [20, 46, 145, 146, 147, 148] s s' := by
  intro r
  induction r with
  | zero =>
    intro fu i s z hi hf hW hC hlt
    obtain ⟨f, rfl⟩ : ∃ f, fu = f + 1 := ⟨fu - 1, by omega⟩
    have hn := hW.1
    have b1 : s 6 1 = (n : Int) := hW.2.1.1
    rw [l_R_hit_13, b1, pz_wr_pred (by omega), if_pos (by omega)]
    exact ⟨s, rfl, hC, pz_ag_rf⟩
  | succ r ih =>
    intro fu i s z hi hf hW hC hlt
    obtain ⟨f, rfl⟩ : ∃ f, fu = f + 1 := ⟨fu - 1, by omega⟩
    have hn := hW.1
    have b1 : s 6 1 = (n : Int) := hW.2.1.1
    rw [l_R_hit_13, b1, pz_wr_pred (by omega), if_neg (by omega), if_pos (by omega), Int.toNat_natCast, pz_wr_suc (i := i) (by omega)]
    by_cases h0 : s 9 i = 0
    · rw [if_pos h0]
      obtain ⟨u, e1, ha, h7, m, mh, hm, hmh, hsol⟩ := pz_solved (tk := (i : Int)) hW hC (by omega)
      have hCu : pz_C n u := Or.inr ⟨by rw [h7]; omega, m, mh, hm, hmh, hsol⟩
      have hWu := pz_W_think hW ha
      have u64 : u 6 4 = s 6 4 := ha 6 4 (by decide)
      have u74 : u 7 4 = s 7 4 := ha 7 4 (by decide)
      have hcb : f_Least_canBe u = 0 := by
        unfold f_Least_canBe
        rw [hsol.2.1 (by omega), if_pos (by decide)]
      rw [e1, Option.bind_some, if_pos hcb]
      obtain ⟨s', a1, a2, a3⟩ := ih f (i + 1) u z (by omega) (by omega) hWu hCu (by omega)
      exact ⟨s', a1, a2, pz_ag_tr ha a3⟩
    · rw [if_neg h0]
      exact ih f (i + 1) s z (by omega) (by omega) hW hC hlt
theorem po_hit {s : px_Z} (h : pz_I s) (v : Int) : pz_op (f_R_hit s v) (fun x => f_M_hit x v) := by
  have h' := h
  obtain ⟨n, hW, hU, hM, hT, hX, hC⟩ := h
  have hn := hW.1
  obtain ⟨-, r1, r2, r3, r4⟩ := pz_W_nW hW
  have hR0 : f_R_hit s v = if 0 ≤ v ∧ v ≤ 1 then l_R_hit_13 (fun s x1 x2 x3 => if (x1) = (0) then some (x3, s) else some (x2, s)) px_big s v (-1) (-1) 0 else some (-1, s) := by
    unfold f_R_hit
    rw [pz_within, pz_i1]
  have hM0 : ∀ u : px_Z, f_M_weeksLeft (px_up u 149 0 0) = s 6 4 - s 7 4 + 1 → f_M_hit u v = if 0 ≤ v ∧ v ≤ 1 then (if 1 ≤ s 6 4 - s 7 4 + 1 then l_M_hit_21 (fun s x1 x2 x3 => if (x1) = (0) then some (x2, s) else some (x3, s)) px_big (px_up u 149 0 0) v (-1) (-1) 0 else some (-1, px_up u 149 0 0)) else some (-1, px_up u 149 0 0) := by
    intro u hu
    unfold f_M_hit
    rw [pz_isIn, pz_i1, hu]
  by_cases hv : 0 ≤ v ∧ v ≤ 1
  · rw [if_pos hv] at hR0
    by_cases hle : s 7 4 ≤ s 6 4
    · obtain ⟨nW, hnW⟩ : ∃ nW : Nat, (nW : Int) = s 6 4 - s 7 4 + 1 := ⟨(s 6 4 - s 7 4 + 1).toNat, by omega⟩
      -- the class's state is found with any state of the reference beside it
      obtain ⟨u, z0, be0, mo0, a1, -, a3, a4, -⟩ := pz_hitP (n := n) (nW := nW) (x1 := v) (K1 := fun s x1 x2 x3 => if (x1) = (0) then some (x3, s) else some (x2, s)) (K2 := fun s x1 x2 x3 => if (x1) = (0) then some (x2, s) else some (x3, s)) (by omega) (max n 1 - 1) px_big px_big 0 s s (-1) (-1) (by omega) (pz_big_lt (by omega)) (pz_big_lt (by omega)) hW hC hX.2.2.1 hnW (by decide)
      have hek : pz_ek pz_kp s (px_up u 149 0 0) := pz_ek_up rfl (pz_ek_ag (L := [20, 46, 145, 146, 147, 148]) ⟨fun _ => rfl, fun _ => rfl, fun _ => rfl, fun _ => rfl, fun _ => rfl, fun _ => rfl, trivial⟩ a4 pz_ek_rf)
      have hWs : pz_W n (pz_wo s) (px_up u 149 0 0) := pz_W_ek hW pz_ek_rf hek
      obtain ⟨u2, z', be, mo, b1, b2, b3, b4, b5⟩ := pz_hitP (n := n) (nW := nW) (x1 := v) (K1 := fun s x1 x2 x3 => if (x1) = (0) then some (x3, s) else some (x2, s)) (K2 := fun s x1 x2 x3 => if (x1) = (0) then some (x2, s) else some (x3, s)) (by omega) (max n 1 - 1) px_big px_big 0 s (px_up u 149 0 0) (-1) (-1) (by omega) (pz_big_lt (by omega)) (pz_big_lt (by omega)) hWs hC ((a4 149 5 (by decide)).trans hX.2.2.1) hnW (by decide)
      have hRa := hR0.trans a1
      have hRb := hR0.trans b1
      have hIu := pz_I_think hW hU hM hT hX a4 a3
      have hIy : pz_I z' := by
        refine pz_I_ek (pz_I_told hIu) (fun c i hk => ?_)
        by_cases c0 : c = 150
        · subst c0
          by_cases hi : i < 40
          · exact b5.2.1 i hi
          · exfalso
            have : pz_kI 150 i = decide (i < 40) := by
              show (_ || _ || _ || _ || _ || _ || _) = _
              simp [pz_kR, pz_ku, pz_kc, pz_kp, pz_kb, pz_kU, pz_kM, pz_kT, pz_kX, pz_kC]
            rw [this] at hk
            exact hi (of_decide_eq_true hk)
        · by_cases c5 : c = 149 ∧ i = 5
          · rw [c5.1, c5.2, b5.1]
            exact ((a4 149 5 (by decide)).trans hX.2.2.1).symm
          · exact b5.2.2 c i c0 (fun q => by rw [q] at hk; cases hk) (fun q => by rw [q] at hk; cases hk) (fun q => by rw [q] at hk; cases hk) (fun q => by rw [q] at hk; cases hk) c5
      have hMu : f_M_hit u v = (if v = 0 then some (be, z') else some (mo, z')) := by
        rw [hM0 u (pz_W_nW hWs).1, if_pos hv, if_pos (by omega)]
        exact b2
      have e1 : (if v = 0 then some (be0, u) else some (mo0, u)) = (if v = 0 then some (be, u2) else some (mo, u2)) := hRa.symm.trans hRb
      by_cases v0 : v = 0
      · rw [if_pos v0, if_pos v0] at e1
        cases e1
        rw [if_pos v0] at hMu
        exact ⟨be0, u, z', hRa.trans (if_pos v0), hMu, hIy⟩
      · rw [if_neg v0, if_neg v0] at e1
        cases e1
        rw [if_neg v0] at hMu
        exact ⟨mo0, u, z', hRa.trans (if_neg v0), hMu, hIy⟩
    · obtain ⟨u, a1, a2, a3⟩ := pz_hit0 (n := n) (x1 := v) (K1 := fun s x1 x2 x3 => if (x1) = (0) then some (x3, s) else some (x2, s)) (max n 1 - 1) px_big 0 s s (by omega) (pz_big_lt (by omega)) hW hC (by omega)
      have hIu := pz_I_think hW hU hM hT hX a3 a2
      have hWs : pz_W n (pz_wo s) (px_up u 149 0 0) := pz_W_ek hW pz_ek_rf (pz_ek_up rfl (pz_ek_ag (L := [20, 46, 145, 146, 147, 148]) ⟨fun _ => rfl, fun _ => rfl, fun _ => rfl, fun _ => rfl, fun _ => rfl, fun _ => rfl, trivial⟩ a3 pz_ek_rf))
      refine ⟨-1, u, px_up u 149 0 0, (hR0.trans a1).trans ?_, ?_, pz_I_told hIu⟩
      · by_cases v0 : v = 0
        · exact if_pos v0
        · exact if_neg v0
      · show f_M_hit u v = _
        rw [hM0 u (pz_W_nW hWs).1, if_pos hv, if_neg (by omega)]
  · rw [if_neg hv] at hR0
    refine ⟨-1, s, px_up s 149 0 0, hR0, ?_, pz_I_told h'⟩
    show f_M_hit s v = _
    have hWs : pz_W n (pz_wo s) (px_up s 149 0 0) := pz_W_ek hW pz_ek_rf (pz_ek_up rfl pz_ek_rf)
    rw [hM0 s (pz_W_nW hWs).1, if_neg hv]
