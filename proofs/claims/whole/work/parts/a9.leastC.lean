/-! the call LEAST -/
theorem pz_prc_ag {m : Nat} {s u : px_Z} (h : pz_ag [20, 46, 145, 146, 147, 148, 149] s u) (tk : Int) : pz_prc u m tk = pz_prc s m tk := by
  have hc : ∀ c, c ∉ [20, 46, 145, 146, 147, 148, 149] → u c = s c := fun c hc => funext (fun i => h c i hc)
  funext a b c d
  unfold pz_prc
  rw [hc 15 (by decide), hc 16 (by decide), hc 17 (by decide), hc 18 (by decide), hc 19 (by decide), hc 12 (by decide), hc 8 (by decide), hc 9 (by decide), hc 7 (by decide)]
theorem pz_opc_ag {mh : Nat} {s u : px_Z} (h : pz_ag [20, 46, 145, 146, 147, 148, 149] s u) : pz_opc u mh = pz_opc s mh := by
  have hc : ∀ c, c ∉ [20, 46, 145, 146, 147, 148, 149] → u c = s c := fun c hc => funext (fun i => h c i hc)
  funext w
  unfold pz_opc
  rw [hc 29 (by decide), hc 30 (by decide), hc 31 (by decide), hc 32 (by decide), hc 33 (by decide), hc 7 (by decide)]
theorem pz_hx_ag {n m mh : Nat} {s u : px_Z} (h : pz_ag [20, 46, 145, 146, 147, 148, 149] s u) : pz_hx n m mh u = pz_hx n m mh s := by
  have hc : ∀ c, c ∉ [20, 46, 145, 146, 147, 148, 149] → u c = s c := fun c hc => funext (fun i => h c i hc)
  funext i
  unfold pz_hx
  rw [pz_opc_ag h, pz_prc_ag h, hc 9 (by decide), hc 13 (by decide), hc 6 (by decide), hc 7 (by decide)]
theorem pz_Ch_ag {n m mh : Nat} {s u : px_Z} (hC : pz_Ch n m mh s) (h : pz_ag [20, 46, 145, 146, 147, 148, 149] s u) (h13 : ∀ i, 13 ≤ i → u 145 i = s 145 i) : pz_Ch n m mh u := by
  unfold pz_Ch at hC ⊢
  rw [pz_hx_ag h, h13 13 (by decide), h13 14 (by decide), h13 15 (by decide), show u 9 = s 9 from funext (fun i => h 9 i (by decide))]
  exact hC
theorem pz_C_get {n : Nat} {s z : px_Z} (hW : pz_W n (pz_wo s) z) (hC : pz_C n s) : ∃ m mh : Nat, s 14 0 = (m : Int) ∧ s 28 0 = (mh : Int) ∧ pz_Cs n m mh s ∧ pz_Ch n m mh s := by
  rcases hC with hC | hC
  · obtain ⟨m, w4a, -⟩ := hW.2.2.2.2.1.1
    obtain ⟨mh, -, w5b, -⟩ := hW.2.2.2.2.2.1
    exact ⟨m, mh, w4a, w5b, Or.inl hC.1, Or.inl hC.2⟩
  · exact hC
theorem pz_sol_of {n m mh : Nat} {tk : Int} {s u : px_Z} (h : pz_R0 n tk s u) (h1 : s 6 4 < s 7 4 → u 145 11 = 536870912) (h2 : s 7 4 ≤ s 6 4 → u 145 11 = pz_co 536870912 n (s 13) (pz_opc s mh) (s 6 4) (pz_prc s m tk) (s 6 4 - s 7 4 + 1).toNat (pz_hs (s 9) n) (s 7 5 + 1).toNat ∧ u 145 12 = pz_co 536870912 n (s 13) (pz_opc s mh) (s 6 4) (pz_prc s m tk) (s 6 4 - s 7 4).toNat (pz_hs (s 9) n) (s 7 5 + 1).toNat ∧ (pz_bl u = false → pz_nq (pz_prc s m tk)) ∧ (∀ r : Nat, (r : Int) ≤ s 6 4 - s 7 4 → ∀ S sl, pz_dom n (pz_hs (s 9) n) S → S < 2 ^ (n - 1) → pz_slot (pz_bl u) (pz_hs (s 9) n) S sl → pz_nib (u 147 (128 * (s 6 4 - r).toNat + S)) sl = (pz_ch 536870912 n (s 13) (pz_opc s mh) (s 6 4) (pz_prc s m tk) r S (pz_lq (pz_hs (s 9) n) (s 7 5 + 1).toNat S sl) : Int))) : pz_sol n m mh u := by
  have hc : ∀ c, c ∉ [20, 46, 145, 146, 147, 148, 149] → u c = s c := fun c hc => funext (fun i => h.1 c i hc)
  have hp : pz_prc u m (u 145 10) = pz_prc s m tk := by rw [h.2.2.2.1, pz_prc_ag h.1]
  unfold pz_sol
  rw [pz_opc_ag h.1, hp, hc 9 (by decide), hc 13 (by decide), hc 6 (by decide), hc 7 (by decide)]
  exact ⟨h.2.1, h.2.2.1, h1, h2⟩
theorem pz_solved {n m mh : Nat} {tk : Int} {s z : px_Z} (hW : pz_W n (pz_wo s) z) (hm : s 14 0 = (m : Int)) (hmh : s 28 0 = (mh : Int)) (hC : pz_Cs n m mh s) (htk : -1 ≤ tk) : ∃ u, f_Least_solve s tk = some u ∧ pz_ag [20, 46, 145, 146, 147, 148, 149] s u ∧ (∀ i, 13 ≤ i → u 145 i = s 145 i) ∧ -1 ≤ u 145 10 ∧ pz_sol n m mh u ∧ pz_prc u m (u 145 10) = pz_prc u m tk := by
  obtain ⟨ks, hks, hks400⟩ := pz_W_size hW hm
  have hak := pz_asksFor (u := s) hks400 hks 261
  have key : ∀ tk', -1 ≤ tk' → pz_prc s m tk' = pz_prc s m tk → ∃ u, j_Least_solve_j9 s tk' = some u ∧ pz_ag [20, 46, 145, 146, 147, 148, 149] s u ∧ (∀ i, 13 ≤ i → u 145 i = s 145 i) ∧ -1 ≤ u 145 10 ∧ pz_sol n m mh u ∧ pz_prc u m (u 145 10) = pz_prc u m tk := by
    intro tk' h1 h2
    by_cases he : s 145 10 = tk'
    · rcases hC with hC | ⟨_, q3⟩
      · omega
      · refine ⟨s, ?_, pz_ag_rf, fun _ _ => rfl, by omega, q3, ?_⟩
        · unfold j_Least_solve_j9
          rw [if_pos he]
        · rw [he]; exact h2
    · obtain ⟨u, e, hR, g1, g2⟩ := pz_solveR hW hm hmh he
      refine ⟨u, e, hR.1, hR.2.2.2.2, by rw [hR.2.2.2.1]; exact h1, pz_sol_of hR g1 g2, ?_⟩
      rw [hR.2.2.2.1, pz_prc_ag hR.1, pz_prc_ag hR.1]
      exact h2
  unfold f_Least_solve
  rw [hak, Option.bind_some]
  cases hq : pz_aks s ks 261 with
  | false =>
    rw [if_pos (show (if false = true then (1 : Int) else 0) = 0 by decide)]
    refine key (-1) (by decide) ?_
    funext a b c d
    exact pz_prc_tk hW hm (pz_aks_no hks hq) (-1) tk a b c d
  | true =>
    rw [if_neg (show ¬ ((if true = true then (1 : Int) else 0) = 0) by decide)]
    exact key tk htk rfl
theorem pz_W_think {n : Nat} {s u z : px_Z} (hW : pz_W n (pz_wo s) z) (h : pz_ag [20, 46, 145, 146, 147, 148, 149] s u) : pz_W n (pz_wo u) z := pz_W_ek hW (pz_ek_ag (L := [20, 46, 145, 146, 147, 148, 149]) ⟨fun _ => rfl, fun _ => rfl, fun _ => rfl, fun _ => rfl, fun _ => rfl, fun _ => rfl, fun _ => rfl, trivial⟩ h pz_ek_rf) pz_ek_rf
theorem pz_I_think {n : Nat} {s u : px_Z} (hW : pz_W n (pz_wo s) s) (hU : pz_U n s) (hM : pz_M s) (hT : pz_T s) (hX : pz_X s) (h : pz_ag [20, 46, 145, 146, 147, 148, 149] s u) (hC : pz_C n u) : pz_I u := by
  have ek : ∀ k : Nat → Nat → Bool, (∀ i, k 20 i = false) → (∀ i, k 46 i = false) → (∀ i, k 145 i = false) → (∀ i, k 146 i = false) → (∀ i, k 147 i = false) → (∀ i, k 148 i = false) → (∀ i, k 149 i = false) → pz_ek k s u := fun k a b c d e f g => pz_ek_ag (L := [20, 46, 145, 146, 147, 148, 149]) ⟨a, b, c, d, e, f, g, trivial⟩ h pz_ek_rf
  refine ⟨n, pz_W_ek hW (ek _ ?_ ?_ ?_ ?_ ?_ ?_ ?_) (ek _ ?_ ?_ ?_ ?_ ?_ ?_ ?_), pz_U_ek hU (ek _ ?_ ?_ ?_ ?_ ?_ ?_ ?_), pz_M_ek hM (ek _ ?_ ?_ ?_ ?_ ?_ ?_ ?_), pz_T_ek hT (ek _ ?_ ?_ ?_ ?_ ?_ ?_ ?_), pz_X_ek hX (ek _ ?_ ?_ ?_ ?_ ?_ ?_ ?_), hC⟩
  all_goals (intro i; rfl)
theorem pz_thingR {n m mh nW : Nat} {u z : px_Z} (hW : pz_W n (pz_wo u) z) (hs : pz_sol n m mh u) (h7 : pz_prc u m (u 145 10) = pz_prc u m (-1)) (hle : u 7 4 ≤ u 6 4) (hnW : (nW : Int) = u 6 4 - u 7 4 + 1) (hfin : pz_co 10000000 n (u 13) (pz_opc u mh) (u 6 4) (pz_prc u m (-1)) nW (pz_hs (u 9) n) (u 7 5 + 1).toNat < 10000000) {j : Nat} (hj : j < nW) : f_Least_thingOfWeek u (j : Int) = some (pz_wy n (u 13) (pz_opc u mh) (u 6 4) (pz_prc u m (-1)) nW j 0 (pz_hs (u 9) n) (u 7 5 + 1).toNat) := by
  have hn := hW.1
  have hpw := pz_pow_le hn
  have hhf := pz_half_le hn
  have hlt : pz_hs (u 9) n < 2 ^ n := pz_hs_lt hn
  obtain ⟨-, r1, r2, r3, r4⟩ := pz_W_nW hW
  obtain ⟨s1, s1b, s2, s3⟩ := hs
  obtain ⟨s4, s5, snq, s6⟩ := s3 hle
  rw [h7] at s6 snq
  have h9 : ∀ {α : Type} (A B : α), (if u 145 9 = 0 then A else B) = if pz_bl u = true then B else A := by
    intro α A B
    unfold pz_bl
    by_cases q : u 145 9 = 0
    · simp [q]
    · simp [q]
  generalize pz_bl u = bl at s6 snq h9
  have hp : ∀ t w c q, 1 ≤ pz_prc u m (-1) t w c q ∧ pz_prc u m (-1) t w c q ≤ 9999 := fun t w c q => pz_pr_rg
  have hloop : ∀ (c fu k S slot q : Nat) (x : Int), k + c = j → c + 1 < fu → pz_dom n (pz_hs (u 9) n) S → pz_slot bl (pz_hs (u 9) n) S slot → (bl = true → q = pz_lq (pz_hs (u 9) n) (u 7 5 + 1).toNat S slot) → pz_co 10000000 n (u 13) (pz_opc u mh) (u 6 4) (pz_prc u m (-1)) (nW - k) S q < 10000000 → l_Least_thingOfWeek_9 u (fun x4 => if (8) ≤ (x4) then some (-1) else some x4) fu (j : Int) (S : Int) (slot : Int) x (k : Int) = some (pz_wy n (u 13) (pz_opc u mh) (u 6 4) (pz_prc u m (-1)) nW c k S q) := by
    intro c
    have hstep : ∀ (k S slot q f : Nat) (x : Int), k ≤ j → pz_dom n (pz_hs (u 9) n) S → pz_slot bl (pz_hs (u 9) n) S slot → (bl = true → q = pz_lq (pz_hs (u 9) n) (u 7 5 + 1).toNat S slot) → l_Least_thingOfWeek_9 u (fun x4 => if (8) ≤ (x4) then some (-1) else some x4) (f + 1) (j : Int) (S : Int) (slot : Int) x (k : Int) = (if (8 : Int) ≤ ((pz_ch 536870912 n (u 13) (pz_opc u mh) (u 6 4) (pz_prc u m (-1)) (nW - k - 1) S q : Nat) : Int) then l_Least_thingOfWeek_9 u (fun x4 => if (8) ≤ (x4) then some (-1) else some x4) f (j : Int) (S : Int) (slot : Int) ((pz_ch 536870912 n (u 13) (pz_opc u mh) (u 6 4) (pz_prc u m (-1)) (nW - k - 1) S q : Nat) : Int) ((k + 1 : Nat) : Int) else (if bl = true then l_Least_thingOfWeek_9 u (fun x4 => if (8) ≤ (x4) then some (-1) else some x4) f (j : Int) (px_or (S : Int) (px_shl 1 ((pz_ch 536870912 n (u 13) (pz_opc u mh) (u 6 4) (pz_prc u m (-1)) (nW - k - 1) S q : Nat) : Int))) ((pz_ch 536870912 n (u 13) (pz_opc u mh) (u 6 4) (pz_prc u m (-1)) (nW - k - 1) S q : Nat) : Int) ((pz_ch 536870912 n (u 13) (pz_opc u mh) (u 6 4) (pz_prc u m (-1)) (nW - k - 1) S q : Nat) : Int) ((k + 1 : Nat) : Int) else l_Least_thingOfWeek_9 u (fun x4 => if (8) ≤ (x4) then some (-1) else some x4) f (j : Int) (px_or (S : Int) (px_shl 1 ((pz_ch 536870912 n (u 13) (pz_opc u mh) (u 6 4) (pz_prc u m (-1)) (nW - k - 1) S q : Nat) : Int))) 0 ((pz_ch 536870912 n (u 13) (pz_opc u mh) (u 6 4) (pz_prc u m (-1)) (nW - k - 1) S q : Nat) : Int) ((k + 1 : Nat) : Int))) := by
      intro k S slot q f x hk hd hsl hq
      obtain ⟨w, hw⟩ : ∃ w : Nat, u 7 4 + (k : Int) = (w : Int) := ⟨(u 7 4 + (k : Int)).toNat, by omega⟩
      have hw60 : w ≤ 60 := by omega
      have hsl8 := hsl.1
      have hS256 : S ≤ 256 := by have := hd.1; omega
      rw [l_Least_thingOfWeek_9, if_neg (by omega), pz_wr_id (x := u 7 4 + (k : Int)) (by omega) (by omega), hw, if_neg (by omega), s1b, pz_wr_suc (i := k) (by omega)]
      by_cases hall : S = 2 ^ n - 1
      · rw [if_pos (by rw [hall]), if_pos (by decide), hall, pz_ch_all, if_pos (by decide)]
        rfl
      · have hS2 : S < 2 ^ (n - 1) := by
          rcases hd.2.2 with q1 | q1
          · exact q1
          · exact absurd q1 hall
        have hix : 0 ≤ ((128 * w + S : Nat) : Int) ∧ ((128 * w + S : Nat) : Int) < 7808 := by omega
        have hnib := s6 (nW - k - 1) (by omega) S slot hd hS2 hsl
        rw [show u 6 4 - ((nW - k - 1 : Nat) : Int) = (w : Int) by omega, Int.toNat_natCast] at hnib
        unfold pz_nib at hnib
        have hchq : pz_ch 536870912 n (u 13) (pz_opc u mh) (u 6 4) (pz_prc u m (-1)) (nW - k - 1) S (pz_lq (pz_hs (u 9) n) (u 7 5 + 1).toNat S slot) = pz_ch 536870912 n (u 13) (pz_opc u mh) (u 6 4) (pz_prc u m (-1)) (nW - k - 1) S q := by
          cases hb : bl with
          | true => rw [hq hb]
          | false => exact pz_ch_nq (snq hb) _ _ _ _
        rw [hchq] at hnib
        rw [if_neg (by omega), pz_w128 hw60 hS256, if_pos hix, Int.toNat_natCast, pz_w4 hsl8, hnib, h9]
    have hnext : ∀ (k S t : Nat), k < nW → pz_dom n (pz_hs (u 9) n) S → t < n → pz_cC n (u 13) (pz_opc u mh) (u 6 4) (nW - k - 1) S t = true → pz_dom n (pz_hs (u 9) n) (S ||| 2 ^ t) ∧ (bl = true → pz_slot bl (pz_hs (u 9) n) (S ||| 2 ^ t) t) ∧ pz_lq (pz_hs (u 9) n) (u 7 5 + 1).toNat (S ||| 2 ^ t) t = t + 1 := by
      intro k S t hk hd ht hc
      have hcan : pz_can n (u 13) t S = true := by
        unfold pz_cC at hc
        simp only [Bool.and_eq_true] at hc
        exact hc.1
      have hb := pz_canbit hcan
      have hhsb : (pz_hs (u 9) n).testBit t = false := pz_sub_bit hd.2.1 hb
      have hne : S ||| 2 ^ t ≠ pz_hs (u 9) n := fun q2 => by
        have := congrArg (fun x => x.testBit t) q2
        simp only [pz_or_bit, hhsb] at this
        simp at this
      refine ⟨⟨pz_in_all hn hd.1 ht, pz_sub_or t hd.2.1, ?_⟩, fun hbt => ⟨by omega, Or.inr ⟨hbt, hne, by rw [pz_or_bit]; simp, hhsb⟩⟩, by unfold pz_lq; rw [if_neg hne]⟩
      by_cases hin : t + 1 = n
      · right
        unfold pz_can at hcan
        simp only [Bool.and_eq_true, Bool.or_eq_true, decide_eq_true_eq] at hcan
        refine ((pz_him hn hd.1 ht hb).2).mpr ?_
        rcases hcan.2 with q2 | q2
        · omega
        · exact q2
      · rcases hd.2.2 with h3 | h3
        · left
          exact pz_in_all (show n - 1 ≤ 8 by omega) h3 (by omega)
        · exfalso
          rw [h3, Nat.testBit_two_pow_sub_one, decide_eq_false_iff_not] at hb
          omega
    induction c with
    | zero =>
      intro fu k S slot q x hk hf hd hsl hqq hf2
      obtain ⟨f, rfl⟩ : ∃ f, fu = f + 1 + 1 := ⟨fu - 2, by omega⟩
      obtain ⟨c1, c2, c3⟩ := pz_ch_ft (q := q) hn hp (show nW - k - 1 < 61 by omega) (by rw [show nW - k - 1 + 1 = nW - k by omega]; exact hf2)
      rw [hstep k S slot q (f + 1) x (by omega) hd hsl hqq, c1, pz_wy]
      cases hq : pz_ft 10000000 n (u 13) (pz_opc u mh) (u 6 4) (pz_prc u m (-1)) (nW - k - 1) S q with
      | none =>
        show (if (8 : Int) ≤ ((8 : Nat) : Int) then _ else _) = _
        rw [if_pos (by decide), l_Least_thingOfWeek_9, if_pos (by omega)]
        rfl
      | some t =>
        obtain ⟨t1, t2, t3⟩ := c2 t hq
        show (if (8 : Int) ≤ ((t : Nat) : Int) then _ else _) = _
        rw [if_neg (by omega)]
        by_cases hb : bl = true
        · rw [if_pos hb, l_Least_thingOfWeek_9, if_pos (by omega)]
          show (if (8 : Int) ≤ (t : Int) then some (-1) else some (t : Int)) = some (t : Int)
          rw [if_neg (by omega)]
        · rw [if_neg hb, l_Least_thingOfWeek_9, if_pos (by omega)]
          show (if (8 : Int) ≤ (t : Int) then some (-1) else some (t : Int)) = some (t : Int)
          rw [if_neg (by omega)]
    | succ c ih =>
      intro fu k S slot q x hk hf hd hsl hqq hf2
      obtain ⟨f, rfl⟩ : ∃ f, fu = f + 1 := ⟨fu - 1, by omega⟩
      obtain ⟨c1, c2, c3⟩ := pz_ch_ft (q := q) hn hp (show nW - k - 1 < 61 by omega) (by rw [show nW - k - 1 + 1 = nW - k by omega]; exact hf2)
      rw [hstep k S slot q f x (by omega) hd hsl hqq, c1, pz_wy]
      cases hq : pz_ft 10000000 n (u 13) (pz_opc u mh) (u 6 4) (pz_prc u m (-1)) (nW - k - 1) S q with
      | none =>
        show (if (8 : Int) ≤ ((8 : Nat) : Int) then _ else _) = _
        rw [if_pos (by decide)]
        exact ih f (k + 1) S slot q _ (by omega) (by omega) hd hsl hqq (by rw [show nW - (k + 1) = nW - k - 1 by omega]; exact c3 hq)
      | some t =>
        obtain ⟨t1, t2, t3⟩ := c2 t hq
        obtain ⟨n1, n2, n3⟩ := hnext k S t (by omega) hd t1 t2
        show (if (8 : Int) ≤ ((t : Nat) : Int) then _ else _) = _
        rw [if_neg (by omega)]
        show (if bl = true then l_Least_thingOfWeek_9 u _ f (j : Int) (px_or (S : Int) (px_shl 1 (t : Int))) (t : Int) (t : Int) ((k + 1 : Nat) : Int) else l_Least_thingOfWeek_9 u _ f (j : Int) (px_or (S : Int) (px_shl 1 (t : Int))) 0 (t : Int) ((k + 1 : Nat) : Int)) = _
        rw [pz_add (show S < 256 by have := hd.1; omega) (show t < 8 by omega)]
        have hco : pz_co 10000000 n (u 13) (pz_opc u mh) (u 6 4) (pz_prc u m (-1)) (nW - (k + 1)) (S ||| 2 ^ t) (t + 1) < 10000000 := by rw [show nW - (k + 1) = nW - k - 1 by omega]; exact t3
        by_cases hb : bl = true
        · rw [if_pos hb]
          exact ih f (k + 1) (S ||| 2 ^ t) t (t + 1) (t : Int) (by omega) (by omega) n1 (n2 hb) (fun _ => n3.symm) hco
        · rw [if_neg hb]
          exact ih f (k + 1) (S ||| 2 ^ t) 0 (t + 1) (t : Int) (by omega) (by omega) n1 ⟨by decide, Or.inl ⟨Or.inl (by cases bl with | false => rfl | true => exact absurd rfl hb), rfl⟩⟩ (fun q2 => absurd q2 hb) hco
  have hd := pz_dom_hs hW
  have h0 := hloop j px_big 0 (pz_hs (u 9) n) 0 (u 7 5 + 1).toNat 8 (by omega) (pz_big_lt (by omega)) hd ⟨by decide, Or.inl ⟨Or.inr rfl, rfl⟩⟩ (fun _ => by unfold pz_lq; rw [if_pos rfl]) (by
    rw [Nat.sub_zero]
    exact hfin)
  unfold f_Least_thingOfWeek
  rw [s1]
  exact h0
theorem po_least {s : px_Z} (h : pz_I s) (v : Int) (hv : -2147483648 ≤ v ∧ v < 2147483648) : pz_op (f_R_least s v) (fun x => f_M_least x v) := by
  obtain ⟨n, hW, hU, hM, hT, hX, hC⟩ := h
  obtain ⟨m, mh, hm0, hmh0, hCs, hCh⟩ := pz_C_get hW hC
  obtain ⟨u, e1, ha, h13, hlo, hsol, h7⟩ := pz_solved (tk := -1) hW hm0 hmh0 hCs (by decide)
  have hm := (ha 14 0 (by decide)).trans hm0
  have hmh := (ha 28 0 (by decide)).trans hmh0
  have hCu : pz_C n u := Or.inr ⟨m, mh, hm, hmh, Or.inr ⟨hlo, hsol⟩, pz_Ch_ag hCh ha h13⟩
  have hIu := pz_I_think hW hU hM hT hX ha hCu
  have hIt := pz_I_told hIu
  have hWu : pz_W n (pz_wo u) (px_up u 150 0 0) := pz_W_ek (pz_W_think hW ha) pz_ek_rf (pz_ek_up rfl (pz_ek_ag (L := [20, 46, 145, 146, 147, 148, 149]) ⟨fun _ => rfl, fun _ => rfl, fun _ => rfl, fun _ => rfl, fun _ => rfl, fun _ => rfl, fun _ => rfl, trivial⟩ ha pz_ek_rf))
  obtain ⟨hwl, r1, r2, r3, r4⟩ := pz_W_nW hWu
  have hLB : pz_LB n m mh u (px_up u 150 0 0) := ⟨hWu, hm, hmh⟩
  have hn := hW.1
  have hsol2 := hsol
  obtain ⟨q1, q1b, q2, q3⟩ := hsol
  have hR0 : f_R_least s v = if f_Least_canBe u = 0 then some (-1, u) else (if v = 0 then some (u 145 11, u) else (if v = 1 then some (f_Least_costOfWaiting u, u) else (if v < 10 then some (-1, u) else (if px_wr (v - 10) ≤ px_wr (u 6 4 - u 7 4) then (f_Least_thingOfWeek u (px_wr (v - 10))).bind (fun q7 => some (q7, u)) else some (-1, u))))) := by
    unfold f_R_least
    rw [e1, Option.bind_some]
  have hM0 : f_M_least u v = if u 6 4 - u 7 4 + 1 < 1 then some (-1, px_up u 150 0 0) else (if 0 ≤ v ∧ v ≤ 1 then j_M_least_j25 (px_up u 150 0 0) v else (if 10 ≤ v ∧ v ≤ 9 + (u 6 4 - u 7 4 + 1) then j_M_least_j25 (px_up u 150 0 0) v else some (-1, px_up u 150 0 0))) := by
    unfold f_M_least
    rw [hwl, pz_isIn, pz_isIn, pz_i1, pz_i1, pz_wr_id (x := 9 + (u 6 4 - u 7 4 + 1)) (by omega) (by omega)]
  by_cases hle : u 7 4 ≤ u 6 4
  · obtain ⟨nW, hnW⟩ : ∃ nW : Nat, (nW : Int) = u 6 4 - u 7 4 + 1 := ⟨(u 6 4 - u 7 4 + 1).toNat, by omega⟩
    obtain ⟨p1, p2, p3⟩ := q3 hle
    rw [h7, show (u 6 4 - u 7 4 + 1).toNat = nW by omega] at p1
    rw [h7, show (u 6 4 - u 7 4).toNat = nW - 1 by omega] at p2
    have hp : ∀ t w c q, 1 ≤ pz_prc u m (-1) t w c q ∧ pz_prc u m (-1) t w c q ≤ 9999 := fun t w c q => pz_pr_rg
    have rl1 := pz_co_rl (n := n) (af := u 13) (op := pz_opc u mh) (th := u 6 4) hp nW (by omega) (pz_hs (u 9) n) (u 7 5 + 1).toNat
    have rl2 := pz_co_rl (n := n) (af := u 13) (op := pz_opc u mh) (th := u 6 4) hp (nW - 1) (by omega) (pz_hs (u 9) n) (u 7 5 + 1).toNat
    rw [← p1] at rl1
    rw [← p2] at rl2
    obtain ⟨y, e2, k1, k2⟩ := pz_findsM hLB hnW (by omega)
    have hLBy := pz_LB_ag hLB k1
    obtain ⟨e3, hq0, e6⟩ := pz_leastNowM hLBy k2
    have hIy : pz_I y := pz_I_ek hIt (pz_ek_ag (L := [174, 175, 176]) ⟨fun _ => rfl, fun _ => rfl, fun _ => rfl, trivial⟩ k1 pz_ek_rf)
    have hj : ∀ x, j_M_least_j25 (px_up u 150 0 0) x = (if pz_co 10000000 n (u 13) (pz_opc u mh) (u 6 4) (pz_prc u m (-1)) nW (pz_hs (u 9) n) (u 7 5 + 1).toNat < 10000000 then (if x < 10 then (if x = 0 then some (pz_co 10000000 n (u 13) (pz_opc u mh) (u 6 4) (pz_prc u m (-1)) nW (pz_hs (u 9) n) (u 7 5 + 1).toNat, y) else (if pz_co 10000000 n (u 13) (pz_opc u mh) (u 6 4) (pz_prc u m (-1)) (nW - 1) (pz_hs (u 9) n) (u 7 5 + 1).toNat < 10000000 then some (px_wr (pz_co 10000000 n (u 13) (pz_opc u mh) (u 6 4) (pz_prc u m (-1)) (nW - 1) (pz_hs (u 9) n) (u 7 5 + 1).toNat - pz_co 10000000 n (u 13) (pz_opc u mh) (u 6 4) (pz_prc u m (-1)) nW (pz_hs (u 9) n) (u 7 5 + 1).toNat), y) else some (-1, y))) else (f_M_thingIn y (px_wr (x - 10))).bind (fun q11 => some (q11.1, q11.2))) else some (-1, y)) := by
      intro x
      have hlt : pz_hs (u 9) n < 2 ^ n := pz_hs_lt hn
      have hpw := pz_pow_le hn
      obtain ⟨la1, la2, la3⟩ := pz_la (y := y) (k := 1) (S := pz_hs (u 9) n) (q := (u 7 5 + 1).toNat) (by omega) (by omega) (by omega)
      have hk2 := k2 1 (pz_hs (u 9) n) (u 7 5 + 1).toNat (by omega) hlt (Nat.and_self _) hq0
      have hbb : 0 ≤ ((pz_lx 1 (pz_hs (u 9) n) (u 7 5 + 1).toNat : Nat) : Int) ∧ ((pz_lx 1 (pz_hs (u 9) n) (u 7 5 + 1).toNat : Nat) : Int) < 142848 := ⟨la2, la3⟩
      unfold j_M_least_j25
      rw [e2, Option.bind_some, e3, Option.bind_some, pz_W_homeM hLBy.1, Option.bind_some, e6, show f_M_leastAt y 1 ((pz_hs (u 9) n : Nat) : Int) (((u 7 5 + 1).toNat : Nat) : Int) = _ from la1, if_pos hbb, Int.toNat_natCast, hk2]
    rw [if_neg (by omega)] at hM0
    by_cases hfin : pz_co 10000000 n (u 13) (pz_opc u mh) (u 6 4) (pz_prc u m (-1)) nW (pz_hs (u 9) n) (u 7 5 + 1).toNat < 10000000
    · have hsum : u 145 11 = pz_co 10000000 n (u 13) (pz_opc u mh) (u 6 4) (pz_prc u m (-1)) nW (pz_hs (u 9) n) (u 7 5 + 1).toNat := by
        unfold pz_rl at rl1; omega
      have hcb : ¬ (f_Least_canBe u = 0) := by
        unfold f_Least_canBe
        rw [if_neg (by omega)]
        decide
      rw [if_neg hcb] at hR0
      by_cases v0 : v = 0
      · rw [if_pos v0] at hR0
        rw [if_pos (by omega), hj, if_pos hfin, if_pos (by omega), if_pos v0] at hM0
        exact ⟨_, u, y, hR0, by rw [hsum]; exact hM0, hIy⟩
      · rw [if_neg v0] at hR0
        by_cases v1 : v = 1
        · rw [if_pos v1] at hR0
          rw [if_pos (by omega), hj, if_pos hfin, if_pos (by omega), if_neg v0] at hM0
          unfold f_Least_costOfWaiting at hR0
          by_cases hl : pz_co 10000000 n (u 13) (pz_opc u mh) (u 6 4) (pz_prc u m (-1)) (nW - 1) (pz_hs (u 9) n) (u 7 5 + 1).toNat < 10000000
          · have hwt : u 145 12 = pz_co 10000000 n (u 13) (pz_opc u mh) (u 6 4) (pz_prc u m (-1)) (nW - 1) (pz_hs (u 9) n) (u 7 5 + 1).toNat := by
              unfold pz_rl at rl2; omega
            rw [if_pos hl] at hM0
            rw [if_neg (by omega), hwt, hsum] at hR0
            exact ⟨_, u, y, hR0, hM0, hIy⟩
          · rw [if_neg hl] at hM0
            rw [if_pos (by unfold pz_rl at rl2; omega)] at hR0
            exact ⟨_, u, y, hR0, hM0, hIy⟩
        · rw [if_neg v1] at hR0
          by_cases v10 : v < 10
          · rw [if_pos v10] at hR0
            rw [if_neg (by omega), if_neg (by omega)] at hM0
            exact ⟨_, u, _, hR0, hM0, hIt⟩
          · rw [if_neg v10, pz_wr_id (x := v - 10) (by omega) (by omega), pz_wr_id (x := u 6 4 - u 7 4) (by omega) (by omega)] at hR0
            rw [if_neg (by omega)] at hM0
            by_cases vr : v - 10 ≤ u 6 4 - u 7 4
            · rw [if_pos vr] at hR0
              obtain ⟨j, hjj⟩ : ∃ j : Nat, v - 10 = (j : Int) := ⟨(v - 10).toNat, by omega⟩
              rw [if_pos (by omega), hj, if_pos hfin, if_neg v10, pz_wr_id (x := v - 10) (by omega) (by omega), hjj] at hM0
              obtain ⟨y2, t1, t2⟩ := pz_thingM hLBy hnW (by omega) k2 (j := j) (by omega)
              rw [t1, Option.bind_some] at hM0
              rw [hjj, pz_thingR hWu hsol2 h7 hle hnW hfin (by omega), Option.bind_some] at hR0
              refine ⟨_, u, y2, hR0, hM0, pz_I_ek hIy (pz_ek_ag (L := [174, 175]) ⟨fun _ => rfl, fun _ => rfl, trivial⟩ t2 pz_ek_rf)⟩
            · rw [if_neg vr] at hR0
              rw [if_neg (by omega)] at hM0
              exact ⟨_, u, _, hR0, hM0, hIt⟩
    · have hcb : f_Least_canBe u = 0 := by
        unfold f_Least_canBe
        rw [if_pos (by unfold pz_rl at rl1; omega)]
      rw [if_pos hcb] at hR0
      by_cases va : 0 ≤ v ∧ v ≤ 1
      · rw [if_pos va, hj, if_neg hfin] at hM0
        exact ⟨_, u, y, hR0, hM0, hIy⟩
      · rw [if_neg va] at hM0
        by_cases vb : 10 ≤ v ∧ v ≤ 9 + (u 6 4 - u 7 4 + 1)
        · rw [if_pos vb, hj, if_neg hfin] at hM0
          exact ⟨_, u, y, hR0, hM0, hIy⟩
        · rw [if_neg vb] at hM0
          exact ⟨_, u, _, hR0, hM0, hIt⟩
  · have hcb : f_Least_canBe u = 0 := by
      unfold f_Least_canBe
      rw [q2 (by omega), if_pos (by decide)]
    rw [if_pos hcb] at hR0
    rw [if_pos (by omega)] at hM0
    exact ⟨_, u, _, hR0, hM0, hIt⟩
