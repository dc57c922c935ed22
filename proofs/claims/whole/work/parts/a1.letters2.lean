/-! the first ORDER of LETTERS -/
def pz_bf (L : Nat → Nat) (j i : Nat) : Bool := decide (pz_cnt (L i) < pz_cnt (L j)) || (decide (pz_cnt (L j) = pz_cnt (L i)) && decide (j < i))
theorem pz_bf_iff {L : Nat → Nat} {j i : Nat} : pz_bf L j i = true ↔ (pz_cnt (L i) < pz_cnt (L j) ∨ (pz_cnt (L j) = pz_cnt (L i) ∧ j < i)) := by
  unfold pz_bf
  simp only [Bool.or_eq_true, Bool.and_eq_true, decide_eq_true_eq]
def pz_ahd (N : Nat) (L : Nat → Nat) (i : Nat) : Nat := pz_nm (fun j => pz_bf L j i) N
set_option maxRecDepth 100000 in
theorem pz_k7 : pz_ra 9 (fun N => pz_ra (2 ^ N) (fun S => decide (pz_cnt S = pz_nm (fun i => S.testBit i) N))) = true := by decide +kernel
theorem pz_cnt_nm {N S : Nat} (hN : N ≤ 8) (hS : S < 2 ^ N) : pz_cnt S = pz_nm (fun i => S.testBit i) N := by
  have h := pz_ra_at (pz_ra_at pz_k7 (show N < 9 by omega)) hS
  simpa only [decide_eq_true_eq] using h
theorem pz_nm_lt {f : Nat → Bool} {t : Nat} : ∀ n, t < n → f t = false → pz_nm f n < n := by
  intro n
  induction n with
  | zero => intro h; omega
  | succ n ih =>
    intro ht hf
    rw [pz_nm]
    by_cases htn : t = n
    · subst htn
      rw [hf]
      have := pz_nm_le (f := f) t
      simp only [Bool.false_eq_true, if_false]
      omega
    · have := ih (by omega) hf
      split <;> omega
theorem pz_nm_strict {f g : Nat → Bool} {t : Nat} : ∀ n, t < n → f t = false → g t = true → (∀ i, i < n → f i = true → g i = true) → pz_nm f n < pz_nm g n := by
  intro n
  induction n with
  | zero => intro h; omega
  | succ n ih =>
    intro ht hf hg h
    rw [pz_nm, pz_nm]
    by_cases htn : t = n
    · subst htn
      rw [hf, hg]
      have := pz_nm_mono (f := f) (g := g) t (fun i hi => h i (by omega))
      simp only [Bool.false_eq_true, if_false, if_true]
      omega
    · have h1 := ih (by omega) hf hg (fun i hi => h i (by omega))
      have h2 := h n (by omega)
      cases hfn : f n
      · simp only [Bool.false_eq_true, if_false]; split <;> omega
      · rw [h2 hfn]; simp only [if_true]; omega
theorem pz_ahd_inj {N : Nat} {L : Nat → Nat} {i j : Nat} (hi : i < N) (hj : j < N) (hne : i ≠ j) : pz_ahd N L i ≠ pz_ahd N L j := by
  have key : ∀ a b, a < N → b < N → pz_bf L a b = true → pz_ahd N L a < pz_ahd N L b := by
    intro a b ha hb h
    refine pz_nm_strict (t := a) N ha ?_ h (fun k hk hka => ?_)
    · cases hq : pz_bf L a a with
      | false => rfl
      | true => rw [pz_bf_iff] at hq; omega
    · rw [pz_bf_iff] at h hka ⊢
      omega
  have htot : pz_bf L i j = true ∨ pz_bf L j i = true := by
    rw [pz_bf_iff, pz_bf_iff]
    omega
  rcases htot with q | q
  · have := key i j hi hj q
    omega
  · have := key j i hj hi q
    omega
theorem pz_ahd_lt {N : Nat} {L : Nat → Nat} {i : Nat} (hi : i < N) : pz_ahd N L i < N := by
  refine pz_nm_lt (t := i) N hi ?_
  cases hq : pz_bf L i i with
  | false => rfl
  | true => rw [pz_bf_iff] at hq; omega
/-- the path goes from the greatest down -/
theorem pz_at_ch {N : Nat} (hN : N ≤ 8) {L : Nat → Nat} (hL : ∀ i, i < N → L i < 256) (hch : ∀ i j, i < N → j < N → L i &&& L j = L i ∨ L j &&& L i = L j) : ∀ (k S : Nat), S < 2 ^ N → (∀ j i, j < N → i < N → pz_bf L j i = true → S.testBit i = true → S.testBit j = true) → k + pz_cnt S < N → ∃ t, t < N ∧ pz_at N (pz_cl2 N L) k S = (t : Int) ∧ pz_ahd N L t = pz_cnt S + k := by
  have hpw := pz_pow_le hN
  have hgd : ∀ S, (∀ j i, j < N → i < N → pz_bf L j i = true → S.testBit i = true → S.testBit j = true) → pz_gd N L S := by
    intro S hd u t hu ht hbu hbt
    refine Nat.le_of_not_lt (fun q => ?_)
    have := hd u t hu ht (pz_bf_iff.mpr (Or.inl q)) hbt
    rw [hbu] at this
    cases this
  have hsub : ∀ i j, i < N → j < N → (L i &&& L j = L i ↔ pz_cnt (L i) ≤ pz_cnt (L j)) := by
    intro i j hi hj
    refine ⟨fun q => (pz_sub_cnt (hL i hi) (hL j hj) q).1, fun q => ?_⟩
    rcases hch i j hi hj with q2 | q2
    · exact q2
    · have h3 := pz_sub_cnt (hL j hj) (hL i hi) q2
      have h4 := h3.2 (by omega)
      rw [h4, Nat.and_self]
  -- one step
  have hone : ∀ S, S < 2 ^ N → (∀ j i, j < N → i < N → pz_bf L j i = true → S.testBit i = true → S.testBit j = true) → pz_cnt S < N → ∃ t, t < N ∧ pz_nx N (pz_cl2 N L) S = some t ∧ S.testBit t = false ∧ pz_ahd N L t = pz_cnt S ∧ (∀ j i, j < N → i < N → pz_bf L j i = true → (S ||| 2 ^ t).testBit i = true → (S ||| 2 ^ t).testBit j = true) := by
    intro S hS hd hc
    have hA : S ≠ 2 ^ N - 1 := fun q => by
      have := (pz_cnt_le hN hS).2.mp q
      omega
    have hg := hgd S hd
    have hT : pz_ot N (pz_cl2 N L) S ≠ 0 := by
      rw [pz_ot_ch hN hL hch _ S rfl hS hg]
      have := pz_pw_pos (g := pz_ow N L S) 9
      omega
    obtain ⟨t, e, h1, h2, h3⟩ := pz_nx_some hN hS hA (fun t _ hc' => pz_cl2_bit hc') hT
    have hbt := pz_cl2_bit h2
    have hfirst := pz_fi_first _ _ _ e
    have hlt := pz_in_all hN hS h1
    -- all that are out are not above it
    have hmax : ∀ u, u < N → S.testBit u = false → pz_cnt (L u) ≤ pz_cnt (L t) := by
      intro u hu hbu
      refine Nat.le_of_not_lt (fun q => h3 ?_)
      refine pz_ot_Z hN hu h1 (fun q2 => ?_) _ (S ||| 2 ^ t) rfl hlt ?_ ?_
      · have := (hsub u t hu h1).mp q2
        omega
      · rw [pz_or_bit, hbu]
        have : ¬ (t = u) := fun q3 => by rw [q3] at q; omega
        simp [this]
      · rw [pz_or_bit]; simp
    have hin : ∀ j, j < N → pz_bf L j t = true → S.testBit j = true := by
      intro j hj hb
      cases hbj : S.testBit j with
      | true => rfl
      | false =>
        exfalso
        have hm := hmax j hj hbj
        rw [pz_bf_iff] at hb
        have hcj : pz_cnt (L j) = pz_cnt (L t) ∧ j < t := by omega
        have hno := hfirst j (Nat.zero_le _) hcj.2
        have hcan : pz_cl2 N L j S = true := pz_cl2_of hbj (fun o ho hbo => (hsub j o hj ho).mpr (hg j o hj ho hbj hbo))
        have hltj := pz_in_all hN hS hj
        have hTj : pz_ot N (pz_cl2 N L) (S ||| 2 ^ j) ≠ 0 := by
          rw [pz_ot_ch hN hL hch _ (S ||| 2 ^ j) rfl hltj (fun u v hu hv hbu hbv => ?_)]
          · have := pz_pw_pos (g := pz_ow N L (S ||| 2 ^ j)) 9
            omega
          · rw [pz_or_bit] at hbu hbv
            simp only [Bool.or_eq_false_iff, decide_eq_false_iff_not, Bool.or_eq_true, decide_eq_true_eq] at hbu hbv
            rcases hbv with q | q
            · exact hg u v hu hv hbu.1 q
            · rw [← q, hcj.1]
              exact hmax u hu hbu.1
        have hno : (pz_cl2 N L j S && decide (pz_ot N (pz_cl2 N L) (S ||| 2 ^ j) ≠ 0)) = false := hno
        rw [hcan] at hno
        simp only [Bool.true_and, decide_eq_false_iff_not] at hno
        exact hno hTj
    refine ⟨t, h1, e, hbt, ?_, fun j i hj hi hb hbi => ?_⟩
    · rw [pz_cnt_nm hN hS]
      refine pz_nm_congr N (fun j hj => ?_)
      cases hbj : S.testBit j with
      | true =>
        refine pz_bf_iff.mpr ?_
        have hjt : j ≠ t := fun q => by rw [q, hbt] at hbj; cases hbj
        have hnt : ¬ (pz_bf L t j = true) := fun q => by
          have := hd t j h1 hj q hbj
          rw [hbt] at this
          cases this
        rw [pz_bf_iff] at hnt
        omega
      | false =>
        cases hq : pz_bf L j t with
        | false => rfl
        | true => rw [hin j hj hq] at hbj; cases hbj
    · rw [pz_or_bit] at hbi ⊢
      simp only [Bool.or_eq_true, decide_eq_true_eq] at hbi ⊢
      rcases hbi with q | q
      · exact Or.inl (hd j i hj hi hb q)
      · rw [← q] at hb
        exact Or.inl (hin j hj hb)
  intro k
  induction k with
  | zero =>
    intro S hS hd hk
    obtain ⟨t, h1, h2, h3, h4, h5⟩ := hone S hS hd (by omega)
    refine ⟨t, h1, ?_, by omega⟩
    rw [pz_at, h2]
  | succ k ih =>
    intro S hS hd hk
    obtain ⟨t, h1, h2, h3, h4, h5⟩ := hone S hS hd (by omega)
    have hcn := (pz_or_add (show S < 256 by omega) (show t < 8 by omega) h3).2
    obtain ⟨t2, g1, g2, g3⟩ := ih (S ||| 2 ^ t) (pz_in_all hN hS h1) h5 (by omega)
    refine ⟨t2, g1, ?_, by omega⟩
    rw [pz_at, h2]
    exact g2
/-! the class's two answers -/
def pz_cmp (L : Nat → Nat) (i j : Nat) : Bool := decide (L i &&& L j = L i) || decide (L i &&& L j = L j)
theorem pz_letR {s : px_Z} {N : Nat} {L : Nat → Nat} (hN : N ≤ 8) (hL : ∀ i, i < N → L i < 256) (h1 : s 38 0 = (N : Int)) (h2 : ∀ i, i < N → s 39 i = (L i : Int)) : f_Told_letterOrders s = some (if (pz_fi (fun i => (pz_fi (fun j => !pz_cmp L i j) i 0).isSome) N 0).isSome then 0 else ((pz_pw (fun w => pz_nm (fun j => decide (pz_cnt (L j) = w)) N) 9 : Nat) : Int)) := by
  have hin : ∀ (K : Int → Int → Int → Option Int) (x1 : Int) (i : Nat), i < N → ∀ (r fu j : Nat), j + r = i → r < fu → l_Told_letterOrders_12 s K fu x1 (i : Int) (((1 + pz_nm (fun j => decide (L i = L j)) j : Nat)) : Int) (j : Int) = if (pz_fi (fun j => !pz_cmp L i j) r j).isSome then some 0 else K x1 (i : Int) (((1 + pz_nm (fun j => decide (L i = L j)) i : Nat)) : Int) := by
    intro K x1 i hi r
    induction r with
    | zero =>
      intro fu j hj hf
      obtain ⟨f, rfl⟩ : ∃ f, fu = f + 1 := ⟨fu - 1, by omega⟩
      have : j = i := by omega
      subst this
      rw [l_Told_letterOrders_12, if_pos (by omega)]
      rfl
    | succ r ih =>
      intro fu j hj hf
      obtain ⟨f, rfl⟩ : ∃ f, fu = f + 1 := ⟨fu - 1, by omega⟩
      have bi : 0 ≤ (i : Int) ∧ (i : Int) < 8 := by omega
      have bj : 0 ≤ (j : Int) ∧ (j : Int) < 8 := by omega
      have hle := pz_nm_le (f := fun j => decide (L i = L j)) j
      have hLi := hL i hi
      have hLj := hL j (by omega)
      have hnext := ih f (j + 1) (by omega) (by omega)
      rw [l_Told_letterOrders_12, if_neg (by omega), Int.toNat_natCast, Int.toNat_natCast, h2 i hi, h2 j (by omega), pz_and_nat hLi hLj, pz_wr_suc (i := j) (by omega), pz_wr_suc (i := 1 + pz_nm (fun j => decide (L i = L j)) j) (by omega)]
      simp only [if_pos bi, if_pos bj]
      rw [pz_fi]
      have hnm : pz_nm (fun j => decide (L i = L j)) (j + 1) = pz_nm (fun j => decide (L i = L j)) j + (if decide (L i = L j) then 1 else 0) := rfl
      have ecast : ∀ a b : Nat, ((a : Int) = (b : Int)) ↔ a = b := fun a b => by omega
      simp only [ecast]
      have hgo : ∀ hcmp : pz_cmp L i j = true, (if L i = L j then l_Told_letterOrders_12 s K f x1 (i : Int) (((1 + pz_nm (fun j => decide (L i = L j)) j + 1 : Nat)) : Int) (((j + 1 : Nat)) : Int) else l_Told_letterOrders_12 s K f x1 (i : Int) (((1 + pz_nm (fun j => decide (L i = L j)) j : Nat)) : Int) (((j + 1 : Nat)) : Int)) = if (if (!pz_cmp L i j) = true then some j else pz_fi (fun j => !pz_cmp L i j) r (j + 1)).isSome = true then some 0 else K x1 (i : Int) (((1 + pz_nm (fun j => decide (L i = L j)) i : Nat)) : Int) := by
        intro hcmp
        rw [hcmp]
        simp only [Bool.not_true, Bool.false_eq_true, if_false]
        by_cases he : L i = L j
        · rw [if_pos he]
          rw [hnm] at hnext
          simp only [he, decide_true, if_true] at hnext ⊢
          exact hnext
        · rw [if_neg he]
          rw [hnm] at hnext
          simp only [he, decide_false, Bool.false_eq_true, if_false, Nat.add_zero] at hnext
          exact hnext
      by_cases c1 : L i &&& L j = L i
      · rw [if_pos c1]
        exact hgo (by unfold pz_cmp; simp [c1])
      · rw [if_neg c1]
        by_cases c2 : L i &&& L j = L j
        · rw [if_pos c2]
          exact hgo (by unfold pz_cmp; simp [c2])
        · rw [if_neg c2]
          have : pz_cmp L i j = false := by unfold pz_cmp; simp [c1, c2]
          rw [this]
          rfl
  have hout : ∀ (r fu i : Nat), i + r = N → r < fu → pz_pw (fun w => pz_nm (fun j => decide (pz_cnt (L j) = w)) i) 9 ≤ 8 ^ i → l_Told_letterOrders_4 s fu ((pz_pw (fun w => pz_nm (fun j => decide (pz_cnt (L j) = w)) i) 9 : Nat) : Int) (i : Int) = some (if (pz_fi (fun i => (pz_fi (fun j => !pz_cmp L i j) i 0).isSome) r i).isSome then 0 else ((pz_pw (fun w => pz_nm (fun j => decide (pz_cnt (L j) = w)) N) 9 : Nat) : Int)) := by
    intro r
    induction r with
    | zero =>
      intro fu i hi hf hb
      obtain ⟨f, rfl⟩ : ∃ f, fu = f + 1 := ⟨fu - 1, by omega⟩
      have : i = N := by omega
      subst this
      rw [l_Told_letterOrders_4, h1, if_pos (by omega)]
      rfl
    | succ r ih =>
      intro fu i hi hf hb
      obtain ⟨f, rfl⟩ : ∃ f, fu = f + 1 := ⟨fu - 1, by omega⟩
      rw [l_Told_letterOrders_4, h1, if_neg (by omega)]
      have q := hin (fun x1 x2 x3 => l_Told_letterOrders_4 s f (px_wr (x1 * x3)) (px_wr (x2 + 1))) ((pz_pw (fun w => pz_nm (fun j => decide (pz_cnt (L j) = w)) i) 9 : Nat) : Int) i (by omega) i px_big 0 (by omega) (pz_big_lt (by omega))
      rw [show ((1 + pz_nm (fun j => decide (L i = L j)) 0 : Nat) : Int) = 1 from rfl, show ((0 : Nat) : Int) = 0 from rfl] at q
      rw [q, pz_fi]
      cases hbad : (pz_fi (fun j => !pz_cmp L i j) i 0).isSome with
      | true => simp only [if_true, Option.isSome_some]
      | false =>
        simp only [Bool.false_eq_true, if_false]
        have hnone : pz_fi (fun j => !pz_cmp L i j) i 0 = none := by
          cases hq : pz_fi (fun j => !pz_cmp L i j) i 0 with
          | none => rfl
          | some k => rw [hq] at hbad; cases hbad
        have hcmp : ∀ j, j < i → pz_cmp L i j = true := by
          intro j hj
          have := pz_fi_none _ _ hnone j (Nat.zero_le _) (by omega)
          simpa using this
        have halike : pz_nm (fun j => decide (L i = L j)) i = pz_nm (fun j => decide (pz_cnt (L j) = pz_cnt (L i))) i := by
          refine pz_nm_congr i (fun j hj => ?_)
          have hc := hcmp j hj
          unfold pz_cmp at hc
          simp only [Bool.or_eq_true, decide_eq_true_eq] at hc
          by_cases he : L i = L j
          · simp [he]
          · have hne : ¬ (pz_cnt (L j) = pz_cnt (L i)) := by
              intro q2
              rcases hc with q3 | q3
              · exact he ((pz_sub_cnt (hL i (by omega)) (hL j (by omega)) q3).2 q2.symm)
              · exact he (((pz_sub_cnt (hL j (by omega)) (hL i (by omega)) (by rw [Nat.and_comm]; exact q3)).2 q2).symm)
            simp [he, hne]
        have hprod : pz_pw (fun w => pz_nm (fun j => decide (pz_cnt (L j) = w)) (i + 1)) 9 = (pz_nm (fun j => decide (pz_cnt (L j) = pz_cnt (L i))) i + 1) * pz_pw (fun w => pz_nm (fun j => decide (pz_cnt (L j) = w)) i) 9 := by
          refine pz_pw_in (g := fun w => pz_nm (fun j => decide (pz_cnt (L j) = w)) (i + 1)) (h := fun w => pz_nm (fun j => decide (pz_cnt (L j) = w)) i) (w0 := pz_cnt (L i)) 9 (pz_cnt9 _) ?_ (fun w _ hw => ?_)
          · show pz_nm _ i + (if decide (pz_cnt (L i) = pz_cnt (L i)) then 1 else 0) = _
            simp
          · show pz_nm _ i + (if decide (pz_cnt (L i) = w) then 1 else 0) = _
            have : ¬ (pz_cnt (L i) = w) := fun q2 => hw q2.symm
            simp [this]
        have hle := pz_nm_le (f := fun j => decide (pz_cnt (L j) = pz_cnt (L i))) i
        have hb2 : pz_pw (fun w => pz_nm (fun j => decide (pz_cnt (L j) = w)) (i + 1)) 9 ≤ 8 ^ (i + 1) := by
          rw [hprod, Nat.pow_succ, Nat.mul_comm (8 ^ i) 8]
          exact Nat.mul_le_mul (by omega) hb
        have h8 : 8 ^ (i + 1) ≤ 16777216 := by
          rcases (show i = 0 ∨ i = 1 ∨ i = 2 ∨ i = 3 ∨ i = 4 ∨ i = 5 ∨ i = 6 ∨ i = 7 by omega) with rfl | rfl | rfl | rfl | rfl | rfl | rfl | rfl <;> decide
        have ev : px_wr (((pz_pw (fun w => pz_nm (fun j => decide (pz_cnt (L j) = w)) i) 9 : Nat) : Int) * (((1 + pz_nm (fun j => decide (L i = L j)) i : Nat)) : Int)) = ((pz_pw (fun w => pz_nm (fun j => decide (pz_cnt (L j) = w)) (i + 1)) 9 : Nat) : Int) := by
          rw [halike, ← Int.natCast_mul, show pz_pw (fun w => pz_nm (fun j => decide (pz_cnt (L j) = w)) i) 9 * (1 + pz_nm (fun j => decide (pz_cnt (L j) = pz_cnt (L i))) i) = pz_pw (fun w => pz_nm (fun j => decide (pz_cnt (L j) = w)) (i + 1)) 9 by rw [hprod, Nat.mul_comm, Nat.add_comm 1], pz_wr_id (by omega) (by omega)]
        rw [ev, pz_wr_suc (by omega)]
        exact ih f (i + 1) (by omega) (by omega) hb2
  have e0 : pz_pw (fun w => pz_nm (fun j => decide (pz_cnt (L j) = w)) 0) 9 = 1 := pz_pw_one 9 (fun _ _ => rfl)
  have := hout N px_big 0 (by omega) (pz_big_lt (by omega)) (by rw [e0]; decide)
  rw [e0] at this
  exact this
theorem pz_letAt {s : px_Z} {N : Nat} {L : Nat → Nat} (hN : N ≤ 8) (hL : ∀ i, i < N → L i < 256) (h1 : s 38 0 = (N : Int)) (h2 : ∀ i, i < N → s 39 i = (L i : Int)) (k : Nat) : f_Told_letterAt s (k : Int) = some (match pz_fi (fun i => decide (pz_ahd N L i = k)) N 0 with | some i => (i : Int) | none => -1) := by
  have hin : ∀ (K : Int → Int → Int → Option Int) (i : Nat), i < N → ∀ (r fu j : Nat), j + r = N → r < fu → l_Told_letterAt_10 s K fu (k : Int) (i : Int) ((pz_nm (fun j => pz_bf L j i) j : Nat) : Int) (j : Int) = K (k : Int) (i : Int) ((pz_ahd N L i : Nat) : Int) := by
    intro K i hi r
    induction r with
    | zero =>
      intro fu j hj hf
      obtain ⟨f, rfl⟩ : ∃ f, fu = f + 1 := ⟨fu - 1, by omega⟩
      have : j = N := by omega
      subst this
      rw [l_Told_letterAt_10, h1, if_pos (by omega)]
      rfl
    | succ r ih =>
      intro fu j hj hf
      obtain ⟨f, rfl⟩ : ∃ f, fu = f + 1 := ⟨fu - 1, by omega⟩
      have c1 := pz_cnt9 (L i)
      have c2 := pz_cnt9 (L j)
      have hle := pz_nm_le (f := fun j => pz_bf L j i) j
      have hnext := ih f (j + 1) (by omega) (by omega)
      have hnm : pz_nm (fun j => pz_bf L j i) (j + 1) = pz_nm (fun j => pz_bf L j i) j + (if pz_bf L j i then 1 else 0) := rfl
      rw [hnm] at hnext
      rw [l_Told_letterAt_10, h1, if_neg (by omega), if_pos (by omega), if_pos (by omega), Int.toNat_natCast, Int.toNat_natCast, h2 i hi, h2 j (by omega), pz_bitc _ (hL i hi), pz_bitc _ (hL j (by omega)), pz_wr_id (x := (pz_cnt (L j) : Int) - (pz_cnt (L i) : Int)) (by omega) (by omega), pz_wr_suc (i := j) (by omega), pz_wr_suc (i := pz_nm (fun j => pz_bf L j i) j) (by omega)]
      by_cases d1 : (0 : Int) < (pz_cnt (L j) : Int) - (pz_cnt (L i) : Int)
      · have hb : pz_bf L j i = true := pz_bf_iff.mpr (by omega)
        rw [if_pos d1]
        rw [hb] at hnext
        exact hnext
      · rw [if_neg d1]
        by_cases d2 : (pz_cnt (L j) : Int) - (pz_cnt (L i) : Int) = 0
        · rw [if_pos d2]
          by_cases d3 : (i : Int) ≤ (j : Int)
          · have hb : pz_bf L j i = false := by
              cases hq : pz_bf L j i with
              | false => rfl
              | true => rw [pz_bf_iff] at hq; omega
            rw [if_pos d3]
            rw [hb] at hnext
            exact hnext
          · have hb : pz_bf L j i = true := pz_bf_iff.mpr (by omega)
            rw [if_neg d3]
            rw [hb] at hnext
            exact hnext
        · have hb : pz_bf L j i = false := by
            cases hq : pz_bf L j i with
            | false => rfl
            | true => rw [pz_bf_iff] at hq; omega
          rw [if_neg d2]
          rw [hb] at hnext
          exact hnext
  have hout : ∀ (r fu i : Nat), i + r = N → r < fu → l_Told_letterAt_2 s fu (k : Int) (i : Int) = some (match pz_fi (fun i => decide (pz_ahd N L i = k)) r i with | some i => (i : Int) | none => -1) := by
    intro r
    induction r with
    | zero =>
      intro fu i hi hf
      obtain ⟨f, rfl⟩ : ∃ f, fu = f + 1 := ⟨fu - 1, by omega⟩
      rw [l_Told_letterAt_2, h1, if_pos (by omega)]
      rfl
    | succ r ih =>
      intro fu i hi hf
      obtain ⟨f, rfl⟩ : ∃ f, fu = f + 1 := ⟨fu - 1, by omega⟩
      have q := hin (fun x1 x2 x3 => if (x3) = (x1) then some x2 else l_Told_letterAt_2 s f x1 (px_wr (x2 + 1))) i (by omega) N px_big 0 (by omega) (pz_big_lt (by omega))
      rw [show ((pz_nm (fun j => pz_bf L j i) 0 : Nat) : Int) = 0 from rfl, show ((0 : Nat) : Int) = 0 from rfl] at q
      rw [l_Told_letterAt_2, h1, if_neg (by omega), q, pz_fi, pz_wr_suc (by omega)]
      by_cases he : pz_ahd N L i = k
      · rw [if_pos (by omega), if_pos (decide_eq_true he)]
      · rw [if_neg (by omega), ih f (i + 1) (by omega) (by omega)]
        simp only [he, decide_false, Bool.false_eq_true, if_false]
  exact hout N px_big 0 (by omega) (pz_big_lt (by omega))
theorem po_letters {s : px_Z} (h : pz_I s) (v : Int) (hv : -2147483648 ≤ v ∧ v < 2147483648) : pz_oq (f_R_letters s v) s (fun u => f_M_letters u v) := by
  have h' := h
  obtain ⟨n, hW, hU, hM, hT, hX, hC⟩ := h
  obtain ⟨hn, w1, wF, w3, w4, w5, w6, ⟨⟨l1, l2, l3, l4⟩, w7b, w7c⟩, w8⟩ := hW
  obtain ⟨N, hNe⟩ : ∃ N : Nat, s 150 51 = (N : Int) := ⟨(s 150 51).toNat, by omega⟩
  have hN : N ≤ 8 := by omega
  have h1 : s 38 0 = (N : Int) := (show s 38 0 = s 150 51 from l1).trans hNe
  have hpw := pz_pow_le hN
  have hLs : ∀ i, i < N → s 39 i = (((s 178 i).toNat : Nat) : Int) ∧ s 178 i = (((s 178 i).toNat : Nat) : Int) ∧ (s 178 i).toNat < 256 := by
    intro i hi
    obtain ⟨a, b, c⟩ := l4 i (by omega)
    have a' : s 39 i = s 178 i := a
    omega
  have hL : ∀ i, i < N → (fun i => (s 178 i).toNat) i < 256 := fun i hi => (hLs i hi).2.2
  have eR := pz_letR (s := s) (L := fun i => (s 178 i).toNat) hN hL h1 (fun i hi => (hLs i hi).1)
  have hcf : ∀ y, pz_ag [177] (px_up s 150 0 0) y → ∀ t S : Nat, t < N → S < 2 ^ N → f_M_canFollow y (t : Int) (S : Int) 1 = some (if pz_cl2 N (fun i => (s 178 i).toNat) t S then 1 else 0) := by
    intro y hy t S ht hS
    have y51 : y 150 51 = (N : Int) := (hy 150 51 (by decide)).trans hNe
    have y177 : ∀ i, i < N → y 178 i = (((s 178 i).toNat : Nat) : Int) := fun i hi => (hy 178 i (by decide)).trans (hLs i hi).2.1
    unfold f_M_canFollow
    rw [if_neg (by decide), pz_bit (by omega) (by omega)]
    unfold pz_cl2
    cases hb : S.testBit t with
    | true => simp
    | false =>
      have hl : ∀ (r fu o : Nat), o + r = N → r < fu → l_M_canFollow_18 y fu (t : Int) (S : Int) (o : Int) = some (if (pz_fi (fun o => S.testBit o && decide ((s 178 t).toNat &&& (s 178 o).toNat ≠ (s 178 t).toNat)) r o).isNone then 1 else 0) := by
        intro r
        induction r with
        | zero =>
          intro fu o ho hf
          obtain ⟨f, rfl⟩ : ∃ f, fu = f + 1 := ⟨fu - 1, by omega⟩
          rw [l_M_canFollow_18, y51, if_pos (by omega)]
          rfl
        | succ r ih =>
          intro fu o ho hf
          obtain ⟨f, rfl⟩ : ∃ f, fu = f + 1 := ⟨fu - 1, by omega⟩
          have hnext := ih f (o + 1) (by omega) (by omega)
          rw [l_M_canFollow_18, y51, if_neg (by omega), pz_bit (by omega) (by omega), if_pos (show 0 ≤ (t : Int) ∧ (t : Int) < 8 by omega), if_pos (show 0 ≤ (o : Int) ∧ (o : Int) < 8 by omega), Int.toNat_natCast, Int.toNat_natCast, y177 t ht, y177 o (by omega), pz_wr_suc (by omega), pz_fi]
          have hsi := pz_sub_iff (hLs t ht).2.2 (hLs o (by omega)).2.2
          cases hbo : S.testBit o with
          | false =>
            simp only [Bool.false_eq_true, if_false, Bool.false_and]
            rw [if_neg (by decide)]
            exact hnext
          | true =>
            simp only [if_true, Bool.true_and]
            by_cases hs : (s 178 t).toNat &&& (s 178 o).toNat = (s 178 t).toNat
            · rw [if_pos (hsi.mpr hs)]
              simp only [hs, ne_eq, not_true, decide_false, Bool.false_eq_true, if_false]
              exact hnext
            · rw [if_neg (fun q => hs (hsi.mp q))]
              simp only [hs, ne_eq, not_false_iff, decide_true, if_true, Option.isNone_some, Bool.false_eq_true, if_false]
      have := hl N px_big 0 (by omega) (pz_big_lt (by omega))
      rw [show ((0 : Nat) : Int) = 0 from rfl] at this
      simp only [Bool.false_eq_true, if_false, Bool.not_false, Bool.true_and]
      rw [if_neg (by decide), this]
  have hb : ∀ t S : Nat, t < N → S < 2 ^ N → pz_cl2 N (fun i => (s 178 i).toNat) t S = true → S.testBit t = false := fun t S _ _ hc => pz_cl2_bit hc
  obtain ⟨y, e2, k3, k4⟩ := pz_tabM (z := px_up s 150 0 0) (x2 := 1) (can := pz_cl2 N (fun i => (s 178 i).toNat)) hN hb hcf
  have hIy : pz_I y := pz_I_ek h' (pz_ek_ag (L := [177]) ⟨fun _ => rfl, trivial⟩ k3 (pz_ek_up rfl pz_ek_rf))
  have m51 : (px_up s 150 0 0) 150 51 = (N : Int) := hNe
  -- both counts
  have hT0 : pz_ot N (pz_cl2 N (fun i => (s 178 i).toNat)) 0 = if (pz_fi (fun i => (pz_fi (fun j => !pz_cmp (fun i => (s 178 i).toNat) i j) i 0).isSome) N 0).isSome then 0 else ((pz_pw (fun w => pz_nm (fun j => decide (pz_cnt ((fun i => (s 178 i).toNat) j) = w)) N) 9 : Nat) : Int) := by
    cases hq : pz_fi (fun i => (pz_fi (fun j => !pz_cmp (fun i => (s 178 i).toNat) i j) i 0).isSome) N 0 with
    | some i =>
      obtain ⟨_, q1, q2⟩ := pz_fi_some _ _ _ hq
      cases hq3 : pz_fi (fun j => !pz_cmp (fun i => (s 178 i).toNat) i j) i 0 with
      | none => rw [hq3] at q2; cases q2
      | some j =>
        obtain ⟨_, q4, q5⟩ := pz_fi_some _ _ _ hq3
        unfold pz_cmp at q5
        simp only [Bool.not_eq_true', Bool.or_eq_false_iff, decide_eq_false_iff_not] at q5
        have := pz_ot_no hN (L := fun i => (s 178 i).toNat) (show i < N by omega) (show j < N by omega) (by omega) q5.1 (by rw [Nat.and_comm]; exact q5.2) _ 0 rfl (by omega) (Or.inl (Nat.zero_testBit _))
        rw [this]
        rfl
    | none =>
      have hch : ∀ i j, i < N → j < N → (fun i => (s 178 i).toNat) i &&& (fun i => (s 178 i).toNat) j = (fun i => (s 178 i).toNat) i ∨ (fun i => (s 178 i).toNat) j &&& (fun i => (s 178 i).toNat) i = (fun i => (s 178 i).toNat) j := by
        have hlt : ∀ i j, i < N → j < i → pz_cmp (fun i => (s 178 i).toNat) i j = true := by
          intro i j hi hj
          have q1 := pz_fi_none _ _ hq i (Nat.zero_le _) (by omega)
          cases hq3 : pz_fi (fun j => !pz_cmp (fun i => (s 178 i).toNat) i j) i 0 with
          | some k => rw [hq3] at q1; cases q1
          | none =>
            have := pz_fi_none _ _ hq3 j (Nat.zero_le _) (by omega)
            simpa using this
        intro i j hi hj
        rcases Nat.lt_trichotomy i j with q | q | q
        · have := hlt j i hj q
          unfold pz_cmp at this
          simp only [Bool.or_eq_true, decide_eq_true_eq] at this
          rcases this with q2 | q2
          · exact Or.inr q2
          · exact Or.inl (by rw [Nat.and_comm]; exact q2)
        · subst q
          exact Or.inl (Nat.and_self _)
        · have := hlt i j hi q
          unfold pz_cmp at this
          simp only [Bool.or_eq_true, decide_eq_true_eq] at this
          rcases this with q2 | q2
          · exact Or.inl q2
          · exact Or.inr (by rw [Nat.and_comm]; exact q2)
      rw [pz_ot_ch hN hL hch _ 0 rfl (by omega) (fun u t _ _ _ hbt => by rw [Nat.zero_testBit] at hbt; cases hbt)]
      simp only [Option.isSome_none, Bool.false_eq_true, if_false]
      congr 1
      refine pz_pw_congr 9 (fun w _ => pz_nm_congr N (fun i _ => ?_))
      rw [Nat.zero_testBit]
      rfl
  rw [← hT0] at eR
  have hj : ∀ x, j_M_letters_j16 (px_up s 150 0 0) x = if x = 0 then some (pz_ot N (pz_cl2 N (fun i => (s 178 i).toNat)) 0, y) else (if pz_ot N (pz_cl2 N (fun i => (s 178 i).toNat)) 0 = 0 then some (-1, y) else (f_M_orderedAt y 0 (px_wr (x - 10)) 1).bind (fun q5 => some (q5, y))) := by
    intro x
    unfold j_M_letters_j16
    rw [m51, e2, Option.bind_some, k4 0 (by omega)]
  have hMo : f_M_letters s v = if v = 0 then some (pz_ot N (pz_cl2 N (fun i => (s 178 i).toNat)) 0, y) else (if 10 ≤ v ∧ v ≤ 9 + (N : Int) then (if pz_ot N (pz_cl2 N (fun i => (s 178 i).toNat)) 0 = 0 then some (-1, y) else (f_M_orderedAt y 0 (px_wr (v - 10)) 1).bind (fun q7 => some (q7, y))) else some (-1, px_up s 150 0 0)) := by
    unfold f_M_letters
    rw [hj, pz_isIn, pz_i1, m51, pz_wr_id (x := 9 + (N : Int)) (by omega) (by omega)]
    by_cases v0 : v = 0
    · rw [if_pos v0, if_pos v0, if_pos v0]
    · rw [if_neg v0, if_neg v0, if_neg v0]
  have hRo : f_R_letters s v = if v = 0 then some (pz_ot N (pz_cl2 N (fun i => (s 178 i).toNat)) 0) else (if v < 10 then some (-1) else (if pz_ot N (pz_cl2 N (fun i => (s 178 i).toNat)) 0 = 0 then some (-1) else (f_Told_letterAt s (px_wr (v - 10))).bind (fun q5 => some q5))) := by
    unfold f_R_letters
    rw [eR, Option.bind_some]
  by_cases v0 : v = 0
  · rw [if_pos v0] at hRo hMo
    exact ⟨_, y, hRo, hMo, hIy⟩
  · rw [if_neg v0] at hRo hMo
    by_cases v10 : v < 10
    · rw [if_pos v10] at hRo
      rw [if_neg (by omega)] at hMo
      exact ⟨_, _, hRo, hMo, pz_I_told h'⟩
    · rw [if_neg v10] at hRo
      by_cases h0 : pz_ot N (pz_cl2 N (fun i => (s 178 i).toNat)) 0 = 0
      · rw [if_pos h0] at hRo
        by_cases vr : 10 ≤ v ∧ v ≤ 9 + (N : Int)
        · rw [if_pos vr, if_pos h0] at hMo
          exact ⟨_, _, hRo, hMo, hIy⟩
        · rw [if_neg vr] at hMo
          exact ⟨_, _, hRo, hMo, pz_I_told h'⟩
      · rw [if_neg h0] at hRo
        obtain ⟨k, hk⟩ : ∃ k : Nat, v - 10 = (k : Int) := ⟨(v - 10).toNat, by omega⟩
        have hch : ∀ i j, i < N → j < N → (fun i => (s 178 i).toNat) i &&& (fun i => (s 178 i).toNat) j = (fun i => (s 178 i).toNat) i ∨ (fun i => (s 178 i).toNat) j &&& (fun i => (s 178 i).toNat) i = (fun i => (s 178 i).toNat) j := by
          intro i j hi hj
          refine Classical.byContradiction (fun hne => h0 ?_)
          have hn1 : ¬ ((s 178 i).toNat &&& (s 178 j).toNat = (s 178 i).toNat) := fun q => hne (Or.inl q)
          have hn2 : ¬ ((s 178 j).toNat &&& (s 178 i).toNat = (s 178 j).toNat) := fun q => hne (Or.inr q)
          exact pz_ot_no hN (L := fun i => (s 178 i).toNat) hi hj (fun q => hn1 (by rw [q]; exact Nat.and_self _)) hn1 hn2 _ 0 rfl (by omega) (Or.inl (Nat.zero_testBit _))
        rw [pz_wr_id (x := v - 10) (by omega) (by omega), hk, pz_letAt hN hL h1 (fun i hi => (hLs i hi).1) k] at hRo
        by_cases vr : 10 ≤ v ∧ v ≤ 9 + (N : Int)
        · rw [if_pos vr, if_neg h0, pz_wr_id (x := v - 10) (by omega) (by omega), hk] at hMo
          have hc0 : pz_cnt 0 = 0 := by decide
          have hM1 := pz_atM (z := y) (x2 := 1) (can := pz_cl2 N (fun i => (s 178 i).toNat)) (H := 0) (k := k) hN hb (fun t S h3 h4 => hcf y k3 t S h3 h4) k4 (by omega) h0 (by omega)
          rw [show ((0 : Nat) : Int) = 0 from rfl] at hM1
          obtain ⟨t, t1, t2, t3⟩ := pz_at_ch hN hL hch k 0 (by omega) (fun j i _ _ _ hbi => by rw [Nat.zero_testBit] at hbi; cases hbi) (by omega)
          rw [hM1, t2] at hMo
          have hfi : pz_fi (fun i => decide (pz_ahd N (fun i => (s 178 i).toNat) i = k)) N 0 = some t := by
            cases hq : pz_fi (fun i => decide (pz_ahd N (fun i => (s 178 i).toNat) i = k)) N 0 with
            | none =>
              have := pz_fi_none _ _ hq t (Nat.zero_le _) (by omega)
              simp only [decide_eq_false_iff_not] at this
              omega
            | some i =>
              obtain ⟨_, q1, q2⟩ := pz_fi_some _ _ _ hq
              simp only [decide_eq_true_eq] at q2
              by_cases hit : i = t
              · rw [hit]
              · exact absurd (q2.trans (by omega)) (pz_ahd_inj (L := fun i => (s 178 i).toNat) (show i < N by omega) t1 hit)
          rw [hfi] at hRo
          exact ⟨_, _, hRo, hMo, hIy⟩
        · rw [if_neg vr] at hMo
          have hfi : pz_fi (fun i => decide (pz_ahd N (fun i => (s 178 i).toNat) i = k)) N 0 = none := by
            cases hq : pz_fi (fun i => decide (pz_ahd N (fun i => (s 178 i).toNat) i = k)) N 0 with
            | none => rfl
            | some i =>
              obtain ⟨_, q1, q2⟩ := pz_fi_some _ _ _ hq
              simp only [decide_eq_true_eq] at q2
              have := pz_ahd_lt (L := fun i => (s 178 i).toNat) (show i < N by omega)
              omega
          rw [hfi] at hRo
          exact ⟨_, _, hRo, hMo, pz_I_told h'⟩
