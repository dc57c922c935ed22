/-! LEAST of the reference: all its table; the first way -/
theorem pz_W_nW {n : Nat} {s z : px_Z} (h : pz_W n (pz_wo s) z) : f_M_weeksLeft z = s 6 4 - s 7 4 + 1 ∧ 0 ≤ s 7 4 ∧ s 7 4 ≤ 60 ∧ 0 ≤ s 6 4 ∧ s 6 4 ≤ 60 := by
  have w1 := h.2.1
  have t1 : s 6 4 = z 150 10 + 30 := w1.2.2.2.2.2.1
  have t2 : 0 ≤ s 6 4 := w1.2.2.2.2.2.2.1
  have t3 : s 6 4 ≤ 60 := w1.2.2.2.2.2.2.2.1
  have e4 : s 7 4 = z 151 0 := h.2.2.1.1.2.2.2.2.1
  have g := h.2.2.1.2.1
  have g1 : 0 ≤ z 151 0 := g.2.2.2.2.1
  have g2 : z 151 0 ≤ 60 := g.2.2.2.2.2.1
  refine ⟨?_, by omega, by omega, t2, t3⟩
  unfold f_M_weeksLeft f_M_thaw
  rw [pz_wr_id (x := z 150 10 + 30) (by omega) (by omega), pz_wr_id (x := z 150 10 + 30 - z 151 0) (by omega) (by omega), pz_wr_id (by omega) (by omega)]
  omega
theorem pz_findsM {n m mh nW : Nat} {s z : px_Z} (h : pz_LB n m mh s z) (hnW : (nW : Int) = s 6 4 - s 7 4 + 1) (hw : 1 ≤ nW ∧ nW ≤ 61) : ∃ y, f_M_findsLeast z = some y ∧ pz_ag [174, 175, 176] z y ∧ (∀ k S q, k ≤ nW → S < 2 ^ n → pz_hs (s 9) n &&& S = pz_hs (s 9) n → q ≤ n → y 176 (pz_lx k S q) = pz_co 10000000 n (s 13) (pz_opc s mh) (s 6 4) (pz_prc s m (-1)) (nW - k) S q) := by
  have hn := h.1.1
  have hpw := pz_pow_le hn
  have hlt : pz_hs (s 9) n < 2 ^ n := pz_hs_lt hn
  have hb6 : ∀ y, pz_ag [174, 175, 176] z y → y 150 6 = (n : Int) := fun y hy => (hy 150 6 (by decide)).trans h.1.2.1.2.1
  -- the last row
  have h20 : ∀ (K : px_Z → Int → Int → Int → Int → Option (px_Z)) (S : Nat), S < 2 ^ n → ∀ (c fu q : Nat) (y : px_Z), q + c = n + 1 → c < fu → pz_ag [174, 175, 176] z y → (∀ S' q', S' < S ∨ (S' = S ∧ q' < q) → S' < 2 ^ n → q' ≤ n → y 176 (pz_lx nW S' q') = pz_co 10000000 n (s 13) (pz_opc s mh) (s 6 4) (pz_prc s m (-1)) 0 S' q') → ∃ y', l_M_findsLeast_20 K fu y (nW : Int) ((2 ^ n - 1 : Nat) : Int) ((pz_hs (s 9) n : Nat) : Int) (S : Int) (q : Int) = K y' (nW : Int) ((2 ^ n - 1 : Nat) : Int) ((pz_hs (s 9) n : Nat) : Int) (S : Int) ∧ pz_ag [174, 175, 176] z y' ∧ (∀ S' q', S' < S + 1 → S' < 2 ^ n → q' ≤ n → y' 176 (pz_lx nW S' q') = pz_co 10000000 n (s 13) (pz_opc s mh) (s 6 4) (pz_prc s m (-1)) 0 S' q') := by
    intro K S hS c
    induction c with
    | zero =>
      intro fu q y hq hf hy ht
      obtain ⟨f, rfl⟩ : ∃ f, fu = f + 1 := ⟨fu - 1, by omega⟩
      rw [l_M_findsLeast_20, hb6 y hy, if_pos (by omega)]
      exact ⟨y, rfl, hy, fun S' q' h1 h2 h3 => ht S' q' (by omega) h2 h3⟩
    | succ c ih =>
      intro fu q y hq hf hy ht
      obtain ⟨f, rfl⟩ : ∃ f, fu = f + 1 := ⟨fu - 1, by omega⟩
      obtain ⟨la1, la2, la3⟩ := pz_la (y := y) (k := nW) (S := S) (q := q) (by omega) (by omega) (by omega)
      rw [l_M_findsLeast_20, hb6 y hy, if_neg (by omega), la1, Int.toNat_natCast, pz_wr_suc (by omega)]
      simp only [if_pos (show 0 ≤ ((pz_lx nW S q : Nat) : Int) ∧ ((pz_lx nW S q : Nat) : Int) < 142848 from ⟨la2, la3⟩)]
      have hgo : ∀ v : Int, v = pz_co 10000000 n (s 13) (pz_opc s mh) (s 6 4) (pz_prc s m (-1)) 0 S q → ∃ y', l_M_findsLeast_20 K f (px_up y 176 (pz_lx nW S q) v) (nW : Int) ((2 ^ n - 1 : Nat) : Int) ((pz_hs (s 9) n : Nat) : Int) (S : Int) ((q + 1 : Nat) : Int) = K y' (nW : Int) ((2 ^ n - 1 : Nat) : Int) ((pz_hs (s 9) n : Nat) : Int) (S : Int) ∧ pz_ag [174, 175, 176] z y' ∧ (∀ S' q', S' < S + 1 → S' < 2 ^ n → q' ≤ n → y' 176 (pz_lx nW S' q') = pz_co 10000000 n (s 13) (pz_opc s mh) (s 6 4) (pz_prc s m (-1)) 0 S' q') := by
        intro v hv
        refine ih f (q + 1) _ (by omega) (by omega) (pz_ag_up hy (by decide)) (fun S' q' h1 h2 h3 => ?_)
        rw [pz_up_same]
        by_cases he : pz_lx nW S' q' = pz_lx nW S q
        · obtain ⟨a1, a2, a3⟩ := pz_lx_inj (by omega) (by omega) (by omega) (by omega) he
          rw [if_pos he, hv, a2, a3]
        · rw [if_neg he]
          refine ht S' q' ?_ h2 h3
          rcases h1 with h1 | ⟨h1, h4⟩
          · exact Or.inl h1
          · refine Or.inr ⟨h1, ?_⟩
            by_cases hqq : q' = q
            · exfalso; exact he (by rw [h1, hqq])
            · omega
      by_cases hA : S = 2 ^ n - 1
      · rw [if_pos (by omega)]
        exact hgo 0 (by rw [pz_co, if_pos hA])
      · rw [if_neg (by omega)]
        exact hgo 10000000 (by rw [pz_co, if_neg hA])
  have h15 : ∀ (K : px_Z → Int → Int → Int → Option (px_Z)) (c fu S : Nat) (y : px_Z), S + c = 2 ^ n → c < fu → pz_ag [174, 175, 176] z y → (∀ S' q', S' < S → S' < 2 ^ n → q' ≤ n → y 176 (pz_lx nW S' q') = pz_co 10000000 n (s 13) (pz_opc s mh) (s 6 4) (pz_prc s m (-1)) 0 S' q') → ∃ y', l_M_findsLeast_15 K fu y (nW : Int) ((2 ^ n - 1 : Nat) : Int) ((pz_hs (s 9) n : Nat) : Int) (S : Int) = K y' (nW : Int) ((2 ^ n - 1 : Nat) : Int) ((pz_hs (s 9) n : Nat) : Int) ∧ pz_ag [174, 175, 176] z y' ∧ (∀ S' q', S' < 2 ^ n → q' ≤ n → y' 176 (pz_lx nW S' q') = pz_co 10000000 n (s 13) (pz_opc s mh) (s 6 4) (pz_prc s m (-1)) 0 S' q') := by
    intro K c
    induction c with
    | zero =>
      intro fu S y hS hf hy ht
      obtain ⟨f, rfl⟩ : ∃ f, fu = f + 1 := ⟨fu - 1, by omega⟩
      rw [l_M_findsLeast_15, if_pos (by omega)]
      exact ⟨y, rfl, hy, fun S' q' h1 h2 => ht S' q' (by omega) h1 h2⟩
    | succ c ih =>
      intro fu S y hS hf hy ht
      obtain ⟨f, rfl⟩ : ∃ f, fu = f + 1 := ⟨fu - 1, by omega⟩
      rw [l_M_findsLeast_15, if_neg (by omega)]
      obtain ⟨y1, q1, q2, q3⟩ := h20 (fun s x1 x2 x3 x4 => l_M_findsLeast_15 K f s x1 x2 x3 (px_wr (x4 + 1))) S (by omega) (n + 1) px_big 0 y (by omega) (pz_big_lt (by omega)) hy (fun S' q' h1 h2 h3 => ht S' q' (by omega) h2 h3)
      rw [show ((0 : Nat) : Int) = 0 from rfl] at q1
      rw [q1, pz_wr_suc (by omega)]
      exact ih f (S + 1) y1 (by omega) (by omega) q2 q3
  -- row by row
  have h62 : ∀ (K : px_Z → Int → Int → Int → Int → Option (px_Z)) (k S : Nat), k < nW → S < 2 ^ n → pz_hs (s 9) n &&& S = pz_hs (s 9) n → ∀ (c fu q : Nat) (y : px_Z), q + c = n + 1 → c < fu → pz_ag [174, 175, 176] z y → pz_TP n nW (pz_hs (s 9) n) (pz_co 10000000 n (s 13) (pz_opc s mh) (s 6 4) (pz_prc s m (-1))) k S q y → ∃ y', l_M_findsLeast_62 K fu y ((2 ^ n - 1 : Nat) : Int) ((pz_hs (s 9) n : Nat) : Int) (k : Int) (S : Int) (q : Int) = K y' ((2 ^ n - 1 : Nat) : Int) ((pz_hs (s 9) n : Nat) : Int) (k : Int) (S : Int) ∧ pz_ag [174, 175, 176] z y' ∧ pz_TP n nW (pz_hs (s 9) n) (pz_co 10000000 n (s 13) (pz_opc s mh) (s 6 4) (pz_prc s m (-1))) k (S + 1) 0 y' := by
    intro K k S hk hS hsub c
    induction c with
    | zero =>
      intro fu q y hq hf hy ht
      obtain ⟨f, rfl⟩ : ∃ f, fu = f + 1 := ⟨fu - 1, by omega⟩
      rw [l_M_findsLeast_62, hb6 y hy, if_pos (by omega)]
      exact ⟨y, rfl, hy, fun k' S' q' h1 h2 h3 h4 h5 => ht k' S' q' h1 (by omega) h3 h4 h5⟩
    | succ c ih =>
      intro fu q y hq hf hy ht
      obtain ⟨f, rfl⟩ : ∃ f, fu = f + 1 := ⟨fu - 1, by omega⟩
      obtain ⟨y1, q1, q2, q3⟩ := pz_leastOf (pz_LB_ag h hy) hnW hw.2 hk hS hsub (show q ≤ n by omega) ht
      rw [l_M_findsLeast_62, hb6 y hy, if_neg (by omega), q1, Option.bind_some, pz_wr_suc (by omega)]
      exact ih f (q + 1) y1 (by omega) (by omega) (pz_ag_tr hy q2) q3
  have h50 : ∀ (K : px_Z → Int → Int → Int → Option (px_Z)) (k : Nat), k < nW → ∀ (c fu S : Nat) (y : px_Z), S + c = 2 ^ n → c < fu → pz_ag [174, 175, 176] z y → pz_TP n nW (pz_hs (s 9) n) (pz_co 10000000 n (s 13) (pz_opc s mh) (s 6 4) (pz_prc s m (-1))) k S 0 y → ∃ y', l_M_findsLeast_50 K fu y ((2 ^ n - 1 : Nat) : Int) ((pz_hs (s 9) n : Nat) : Int) (k : Int) (S : Int) = K y' ((2 ^ n - 1 : Nat) : Int) ((pz_hs (s 9) n : Nat) : Int) (k : Int) ∧ pz_ag [174, 175, 176] z y' ∧ pz_TP n nW (pz_hs (s 9) n) (pz_co 10000000 n (s 13) (pz_opc s mh) (s 6 4) (pz_prc s m (-1))) k (2 ^ n) 0 y' := by
    intro K k hk c
    induction c with
    | zero =>
      intro fu S y hS hf hy ht
      obtain ⟨f, rfl⟩ : ∃ f, fu = f + 1 := ⟨fu - 1, by omega⟩
      rw [l_M_findsLeast_50, if_pos (by omega)]
      have : S = 2 ^ n := by omega
      rw [this] at ht
      exact ⟨y, rfl, hy, ht⟩
    | succ c ih =>
      intro fu S y hS hf hy ht
      obtain ⟨f, rfl⟩ : ∃ f, fu = f + 1 := ⟨fu - 1, by omega⟩
      have hsi := pz_sub_iff (show pz_hs (s 9) n < 256 by omega) (show S < 256 by omega)
      rw [l_M_findsLeast_50, if_neg (by omega), pz_wr_suc (by omega)]
      by_cases hsub : pz_hs (s 9) n &&& S = pz_hs (s 9) n
      · rw [if_pos (hsi.mpr hsub)]
        obtain ⟨y1, q1, q2, q3⟩ := h62 (fun s x2 x3 x4 x5 => l_M_findsLeast_50 K f s x2 x3 x4 (px_wr (x5 + 1))) k S hk (by omega) hsub (n + 1) px_big 0 y (by omega) (pz_big_lt (by omega)) hy ht
        rw [show ((0 : Nat) : Int) = 0 from rfl] at q1
        rw [q1, pz_wr_suc (by omega)]
        exact ih f (S + 1) y1 (by omega) (by omega) q2 q3
      · rw [if_neg (fun q => hsub (hsi.mp q))]
        refine ih f (S + 1) y (by omega) (by omega) hy (fun k' S' q' h1 h2 h3 h4 h5 => ht k' S' q' h1 ?_ h3 h4 h5)
        rcases h2 with h2 | ⟨h2, h6 | ⟨h6, h7⟩⟩
        · exact Or.inl h2
        · refine Or.inr ⟨h2, Or.inl ?_⟩
          by_cases hSS : S' = S
          · exfalso; rw [hSS] at h4; exact hsub h4
          · omega
        · omega
  have h46 : ∀ (c fu : Nat) (y : px_Z), c ≤ nW → c < fu → pz_ag [174, 175, 176] z y → (∀ k S q, c ≤ k → k ≤ nW → S < 2 ^ n → pz_hs (s 9) n &&& S = pz_hs (s 9) n → q ≤ n → y 176 (pz_lx k S q) = pz_co 10000000 n (s 13) (pz_opc s mh) (s 6 4) (pz_prc s m (-1)) (nW - k) S q) → ∃ y', l_M_findsLeast_46 fu y ((2 ^ n - 1 : Nat) : Int) ((pz_hs (s 9) n : Nat) : Int) ((c : Int) - 1) = some y' ∧ pz_ag [174, 175, 176] z y' ∧ (∀ k S q, k ≤ nW → S < 2 ^ n → pz_hs (s 9) n &&& S = pz_hs (s 9) n → q ≤ n → y' 176 (pz_lx k S q) = pz_co 10000000 n (s 13) (pz_opc s mh) (s 6 4) (pz_prc s m (-1)) (nW - k) S q) := by
    intro c
    induction c with
    | zero =>
      intro fu y hc hf hy ht
      obtain ⟨f, rfl⟩ : ∃ f, fu = f + 1 := ⟨fu - 1, by omega⟩
      rw [l_M_findsLeast_46, if_pos (by omega)]
      exact ⟨y, rfl, hy, fun k S q h1 h2 h3 h4 => ht k S q (Nat.zero_le _) h1 h2 h3 h4⟩
    | succ c ih =>
      intro fu y hc hf hy ht
      obtain ⟨f, rfl⟩ : ∃ f, fu = f + 1 := ⟨fu - 1, by omega⟩
      rw [l_M_findsLeast_46, show ((c + 1 : Nat) : Int) - 1 = (c : Int) by omega, if_neg (by omega)]
      obtain ⟨y1, q1, q2, q3⟩ := h50 (fun s x2 x3 x4 => l_M_findsLeast_46 f s x2 x3 (px_wr (x4 + (-1)))) c (by omega) (2 ^ n) px_big 0 y (by omega) (pz_big_lt (by omega)) hy (fun k' S' q' h1 h2 h3 h4 h5 => ht k' S' q' (by omega) h1 h3 h4 h5)
      rw [show ((0 : Nat) : Int) = 0 from rfl] at q1
      rw [q1, pz_wr_id (x := (c : Int) + -1) (by omega) (by omega), show (c : Int) + -1 = (c : Int) - 1 by omega]
      refine ih f y1 (by omega) (by omega) q2 (fun k S q h1 h2 h3 h4 h5 => q3 k S q h2 ?_ h3 h4 h5)
      by_cases hkc : k = c
      · exact Or.inr ⟨hkc, Or.inl h3⟩
      · exact Or.inl (by omega)
  unfold f_M_findsLeast
  rw [pz_W_homeM h.1, Option.bind_some, (pz_W_nW h.1).1, ← hnW, show z 150 6 = (n : Int) from h.1.2.1.2.1, (pz_all hn).1]
  obtain ⟨y1, q1, q2, q3⟩ := h15 (fun s x1 x2 x3 => l_M_findsLeast_46 px_big s x2 x3 (px_wr (x1 - 1))) (2 ^ n) px_big 0 z (by omega) (pz_big_lt (by omega)) pz_ag_rf (fun S' q' h1 => absurd h1 (Nat.not_lt_zero _))
  rw [show ((0 : Nat) : Int) = 0 from rfl] at q1
  rw [q1, pz_wr_pred (by omega)]
  exact h46 nW px_big y1 (Nat.le_refl _) (pz_big_lt (by omega)) q2 (fun k S q h1 h2 h3 h4 h5 => by
    have : k = nW := by omega
    rw [this, Nat.sub_self]
    exact q3 S q h3 h5)
theorem pz_leastNowM {n m mh nW : Nat} {s y : px_Z} (h : pz_LB n m mh s y) (ht : ∀ k S q, k ≤ nW → S < 2 ^ n → pz_hs (s 9) n &&& S = pz_hs (s 9) n → q ≤ n → y 176 (pz_lx k S q) = pz_co 10000000 n (s 13) (pz_opc s mh) (s 6 4) (pz_prc s m (-1)) (nW - k) S q) : f_M_leastNow y = some (pz_co 10000000 n (s 13) (pz_opc s mh) (s 6 4) (pz_prc s m (-1)) nW (pz_hs (s 9) n) (s 7 5 + 1).toNat) ∧ (s 7 5 + 1).toNat ≤ n ∧ y 151 6 = (((s 7 5 + 1).toNat : Nat) : Int) := by
  have hn := h.1.1
  have hpw := pz_pow_le hn
  have hlt : pz_hs (s 9) n < 2 ^ n := pz_hs_lt hn
  have f := h.1.2.2.1.1
  have g := h.1.2.2.1.2.1
  have e5 : s 7 5 = y 151 6 - 1 := f.2.2.2.2.2.1
  have g7 : 0 ≤ y 151 6 := g.2.2.2.2.2.2.1
  have g8 : y 151 6 ≤ (n : Int) := g.2.2.2.2.2.2.2.1
  have e6 : y 151 6 = (((s 7 5 + 1).toNat : Nat) : Int) := by omega
  have hq : (s 7 5 + 1).toNat ≤ n := by omega
  refine ⟨?_, hq, e6⟩
  obtain ⟨la1, la2, la3⟩ := pz_la (y := y) (k := 0) (S := pz_hs (s 9) n) (q := (s 7 5 + 1).toNat) (by omega) (by omega) (by omega)
  unfold f_M_leastNow
  rw [pz_W_homeM h.1, Option.bind_some, e6, show f_M_leastAt y 0 ((pz_hs (s 9) n : Nat) : Int) (((s 7 5 + 1).toNat : Nat) : Int) = _ from la1, if_pos ⟨la2, la3⟩, Int.toNat_natCast, ht 0 _ _ (Nat.zero_le _) hlt (Nat.and_self _) hq, Nat.sub_zero]
/-- the first way, WEEK by WEEK: by the reference's own choice -/
def pz_wy (n : Nat) (af : Nat → Int) (op : Int → Bool) (th : Int) (pr : Nat → Int → Nat → Nat → Int) (nW : Nat) : Nat → Nat → Nat → Nat → Int
  | 0, k, S, q => match pz_ft 10000000 n af op th pr (nW - k - 1) S q with
    | some t => (t : Int)
    | none => -1
  | j + 1, k, S, q => match pz_ft 10000000 n af op th pr (nW - k - 1) S q with
    | some t => pz_wy n af op th pr nW j (k + 1) (S ||| 2 ^ t) (t + 1)
    | none => pz_wy n af op th pr nW j (k + 1) S q
theorem pz_sub_or {H S : Nat} (t : Nat) (hsub : H &&& S = H) : H &&& (S ||| 2 ^ t) = H := by
  refine Nat.eq_of_testBit_eq (fun i => ?_)
  have := congrArg (fun x => x.testBit i) hsub
  simp only [Nat.testBit_and] at this
  rw [Nat.testBit_and, Nat.testBit_or]
  cases h1 : H.testBit i <;> cases h2 : S.testBit i <;> simp_all
theorem pz_mm1 {o : Option Nat} {c : Nat} {x : Int} : (match o with | some t => (t : Int) | none => (c : Int)) = (match (match o with | some t => some t | none => some c) with | some t => (t : Int) | none => x) := by
  cases o <;> rfl
theorem pz_mm2 {o : Option Nat} {x : Int} : (match o with | some t => (t : Int) | none => x) = (match (match o with | some t => some t | none => (none : Option Nat)) with | some t => (t : Int) | none => x) := by
  cases o <;> rfl
theorem pz_thingM {n m mh nW : Nat} {s y : px_Z} (h : pz_LB n m mh s y) (hnW : (nW : Int) = s 6 4 - s 7 4 + 1) (hw : nW ≤ 61) (ht : ∀ k S q, k ≤ nW → S < 2 ^ n → pz_hs (s 9) n &&& S = pz_hs (s 9) n → q ≤ n → y 176 (pz_lx k S q) = pz_co 10000000 n (s 13) (pz_opc s mh) (s 6 4) (pz_prc s m (-1)) (nW - k) S q) {j : Nat} (hj : j < nW) : ∃ y', f_M_thingIn y (j : Int) = some (pz_wy n (s 13) (pz_opc s mh) (s 6 4) (pz_prc s m (-1)) nW j 0 (pz_hs (s 9) n) (s 7 5 + 1).toNat, y') ∧ pz_ag [174, 175] y y' := by
  have hn := h.1.1
  have hpw := pz_pow_le hn
  have hlt : pz_hs (s 9) n < 2 ^ n := pz_hs_lt hn
  obtain ⟨-, hq0, e6⟩ := pz_leastNowM h ht
  have hp : ∀ t w c q, 1 ≤ pz_prc s m (-1) t w c q ∧ pz_prc s m (-1) t w c q ≤ 9999 := fun t w c q => pz_pr_rg
  have h22 : ∀ (K : px_Z → Int → Int → Int → Int → Int → Option (Int × px_Z)) (k S q : Nat), k < nW → S < 2 ^ n → pz_hs (s 9) n &&& S = pz_hs (s 9) n → q ≤ n → ∀ (c fu : Nat) (u : px_Z) (x : Int), c ≤ n → c < fu → pz_ag [174, 175] y u → ∃ u', l_M_thingIn_22 K fu u (j : Int) (S : Int) (q : Int) x (k : Int) ((c : Int) - 1) = K u' (j : Int) (S : Int) (q : Int) (match pz_fi (fun t => pz_cC n (s 13) (pz_opc s mh) (s 6 4) (nW - k - 1) S t && decide (pz_cV 10000000 n (s 13) (pz_opc s mh) (s 6 4) (pz_prc s m (-1)) (nW - k - 1) S q t = pz_co 10000000 n (s 13) (pz_opc s mh) (s 6 4) (pz_prc s m (-1)) (nW - k - 1 + 1) S q)) c 0 with | some t => (t : Int) | none => x) (k : Int) ∧ pz_ag [174, 175] y u' := by
    intro K k S q hk hS hsub hq c
    have hr2 : s 6 4 - ((nW - k - 1 : Nat) : Int) = s 7 4 + (k : Int) := by omega
    have hk2 : k < 2147483647 := by omega
    have hval : ∀ u, pz_ag [174, 175] y u → u 176 (pz_lx k S q) = pz_co 10000000 n (s 13) (pz_opc s mh) (s 6 4) (pz_prc s m (-1)) (nW - k - 1 + 1) S q := by
      intro u hu
      rw [hu 176 _ (by decide), ht k S q (by omega) hS hsub hq, show nW - k - 1 + 1 = nW - k by omega]
    have hsplit : ∀ (P : Nat → Bool) (c i : Nat), pz_fi P (c + 1) i = match pz_fi P c i with | some t => some t | none => if P (i + c) then some (i + c) else none := by
      intro P c
      induction c with
      | zero => intro i; rfl
      | succ c ihc =>
        intro i
        rw [pz_fi, ihc (i + 1), pz_fi]
        by_cases hP : P i = true
        · rw [if_pos hP, if_pos hP]
        · rw [if_neg hP, if_neg hP, show i + 1 + c = i + (c + 1) by omega]
    induction c with
    | zero =>
      intro fu u x hc hf hu
      obtain ⟨f, rfl⟩ : ∃ f, fu = f + 1 := ⟨fu - 1, by omega⟩
      rw [l_M_thingIn_22, if_pos (by omega)]
      exact ⟨u, rfl, hu⟩
    | succ c ih =>
      intro fu u x hc hf hu
      obtain ⟨f, rfl⟩ : ∃ f, fu = f + 1 := ⟨fu - 1, by omega⟩
      have hLB : pz_LB n m mh s u := pz_LB_ag h (pz_ag_mono hu (by decide))
      rw [l_M_thingIn_22, show ((c + 1 : Nat) : Int) - 1 = (c : Int) by omega, if_neg (by omega), pz_canInM hLB (show c < n by omega) hS (by omega) hr2, Option.bind_some, pz_i1, pz_wr_id (x := (c : Int) + -1) (by omega) (by omega), show (c : Int) + -1 = (c : Int) - 1 by omega, hsplit, Nat.zero_add]
      cases hcC : pz_cC n (s 13) (pz_opc s mh) (s 6 4) (nW - k - 1) S c with
      | false =>
        simp only [Bool.false_eq_true, if_false, Bool.false_and]
        obtain ⟨u', q1, q2⟩ := ih f u x (by omega) (by omega) hu
        refine ⟨u', q1.trans ?_, q2⟩
        congr 1
        split <;> simp_all
      | true =>
        simp only [if_true, Bool.true_and]
        have hlt2 := pz_in_all hn hS (show c < n by omega)
        obtain ⟨la1, la2, la3⟩ := pz_la (y := u) (k := k + 1) (S := S ||| 2 ^ c) (q := c + 1) (by omega) (by omega) (by omega)
        have hrest : u 176 (pz_lx (k + 1) (S ||| 2 ^ c) (c + 1)) = pz_co 10000000 n (s 13) (pz_opc s mh) (s 6 4) (pz_prc s m (-1)) (nW - k - 1) (S ||| 2 ^ c) (c + 1) := by
          rw [hu 176 _ (by decide), ht (k + 1) (S ||| 2 ^ c) (c + 1) (by omega) hlt2 (pz_sub_or c hsub) (by omega), show nW - (k + 1) = nW - k - 1 by omega]
        have e0 : u 151 0 = s 7 4 := (hLB.1.2.2.1.1.2.2.2.2.1).symm
        have hw0 := (pz_W_nW hLB.1).2
        obtain ⟨u2, p1, p2⟩ := pz_prcM hLB (t := c) (S := S) (q := q) (by omega) (by omega) (by omega) (s 7 4 + (k : Int))
        have hpr := hp c (s 7 4 + (k : Int)) (pz_cnt S) q
        have hb1 : 0 ≤ pz_co 10000000 n (s 13) (pz_opc s mh) (s 6 4) (pz_prc s m (-1)) (nW - k - 1) (S ||| 2 ^ c) (c + 1) ∧ pz_co 10000000 n (s 13) (pz_opc s mh) (s 6 4) (pz_prc s m (-1)) (nW - k - 1) (S ||| 2 ^ c) (c + 1) ≤ 10000000 := by
          have := pz_co_rl (n := n) (af := s 13) (op := pz_opc s mh) (th := s 6 4) hp (nW - k - 1) (by omega) (S ||| 2 ^ c) (c + 1)
          unfold pz_rl at this
          omega
        have hby : ∃ u3, f_M_byPaying u (k : Int) (c : Int) (S : Int) (q : Int) = some (pz_cV 10000000 n (s 13) (pz_opc s mh) (s 6 4) (pz_prc s m (-1)) (nW - k - 1) S q c, u3) ∧ pz_ag [174, 175] u u3 := by
          unfold f_M_byPaying
          rw [pz_wr_suc hk2, pz_add (show S < 256 by omega) (show c < 8 by omega), pz_wr_suc (i := c) (by omega), la1, if_pos ⟨la2, la3⟩, Int.toNat_natCast, hrest, e0]
          show ∃ u3, _ = some (pz_cv _ _ _, u3) ∧ _
          unfold pz_cv
          rw [hr2]
          by_cases hL : pz_co 10000000 n (s 13) (pz_opc s mh) (s 6 4) (pz_prc s m (-1)) (nW - k - 1) (S ||| 2 ^ c) (c + 1) < 10000000
          · rw [if_pos hL, if_neg (by omega), pz_wr_id (x := s 7 4 + (k : Int)) (by omega) (by omega), p1, Option.bind_some]
            dsimp only
            rw [pz_wr_id (by omega) (by omega)]
            exact ⟨u2, rfl, p2⟩
          · rw [if_neg hL, if_pos (by omega)]
            exact ⟨u, rfl, pz_ag_rf⟩
        obtain ⟨u3, b1, b3⟩ := hby
        have hu3 := pz_ag_tr hu b3
        obtain ⟨lb1, lb2, lb3⟩ := pz_la (y := u3) (k := k) (S := S) (q := q) (by omega) (by omega) (by omega)
        rw [b1, Option.bind_some]
        dsimp only
        rw [lb1, if_pos ⟨lb2, lb3⟩, Int.toNat_natCast]
        have hvv := hval u3 hu3
        by_cases he : pz_cV 10000000 n (s 13) (pz_opc s mh) (s 6 4) (pz_prc s m (-1)) (nW - k - 1) S q c = pz_co 10000000 n (s 13) (pz_opc s mh) (s 6 4) (pz_prc s m (-1)) (nW - k - 1 + 1) S q
        · rw [if_pos (he.trans hvv.symm)]
          obtain ⟨u', q1, q2⟩ := ih f u3 (c : Int) (by omega) (by omega) hu3
          refine ⟨u', q1.trans ?_, q2⟩
          rw [if_pos (decide_eq_true he)]
          exact congrArg (fun v => K u' (j : Int) (S : Int) (q : Int) v (k : Int)) pz_mm1
        · rw [if_neg (fun q => he (q.trans hvv))]
          obtain ⟨u', q1, q2⟩ := ih f u3 x (by omega) (by omega) hu3
          refine ⟨u', q1.trans ?_, q2⟩
          rw [if_neg (fun q => he (of_decide_eq_true q))]
          exact congrArg (fun v => K u' (j : Int) (S : Int) (q : Int) v (k : Int)) pz_mm2
  have h12 : ∀ (c fu k S q : Nat) (u : px_Z) (x : Int), k + c = j → c + 1 < fu → S < 2 ^ n → pz_hs (s 9) n &&& S = pz_hs (s 9) n → q ≤ n → pz_ag [174, 175] y u → ∃ u', l_M_thingIn_12 fu u (j : Int) (S : Int) (q : Int) x (k : Int) = some (pz_wy n (s 13) (pz_opc s mh) (s 6 4) (pz_prc s m (-1)) nW c k S q, u') ∧ pz_ag [174, 175] y u' := by
    intro c
    induction c with
    | zero =>
      intro fu k S q u x hk hf hS hsub hq hu
      obtain ⟨f, rfl⟩ : ∃ f, fu = f + 1 + 1 := ⟨fu - 2, by omega⟩
      have b2 : u 150 6 = (n : Int) := (hu 150 6 (by decide)).trans h.1.2.1.2.1
      rw [l_M_thingIn_12, if_neg (by omega), b2, pz_wr_pred (by omega)]
      obtain ⟨u', q1, q2⟩ := h22 (fun s x1 x2 x3 x4 x5 => if (x4) = ((-1)) then l_M_thingIn_12 (f + 1) s x1 x2 x3 x4 (px_wr (x5 + 1)) else l_M_thingIn_12 (f + 1) s x1 (px_or (x2) ((px_shl (1) (x4)))) (px_wr (x4 + 1)) x4 (px_wr (x5 + 1))) k S q (by omega) hS hsub hq n px_big u (-1) (Nat.le_refl _) (pz_big_lt (by omega)) hu
      refine ⟨u', q1.trans ?_, q2⟩
      rw [pz_wr_suc (i := k) (by omega), pz_wy]
      unfold pz_ft
      cases pz_fi (fun t => pz_cC n (s 13) (pz_opc s mh) (s 6 4) (nW - k - 1) S t && decide (pz_cV 10000000 n (s 13) (pz_opc s mh) (s 6 4) (pz_prc s m (-1)) (nW - k - 1) S q t = pz_co 10000000 n (s 13) (pz_opc s mh) (s 6 4) (pz_prc s m (-1)) (nW - k - 1 + 1) S q)) n 0 with
      | none =>
        dsimp only
        rw [if_pos rfl, l_M_thingIn_12, if_pos (by omega)]
      | some t =>
        dsimp only
        rw [if_neg (by omega), l_M_thingIn_12, if_pos (by omega)]
    | succ c ih =>
      intro fu k S q u x hk hf hS hsub hq hu
      obtain ⟨f, rfl⟩ : ∃ f, fu = f + 1 := ⟨fu - 1, by omega⟩
      have b2 : u 150 6 = (n : Int) := (hu 150 6 (by decide)).trans h.1.2.1.2.1
      rw [l_M_thingIn_12, if_neg (by omega), b2, pz_wr_pred (by omega)]
      obtain ⟨u', q1, q2⟩ := h22 (fun s x1 x2 x3 x4 x5 => if (x4) = ((-1)) then l_M_thingIn_12 f s x1 x2 x3 x4 (px_wr (x5 + 1)) else l_M_thingIn_12 f s x1 (px_or (x2) ((px_shl (1) (x4)))) (px_wr (x4 + 1)) x4 (px_wr (x5 + 1))) k S q (by omega) hS hsub hq n px_big u (-1) (Nat.le_refl _) (pz_big_lt (by omega)) hu
      rw [q1, pz_wr_suc (i := k) (by omega), pz_wy]
      unfold pz_ft
      cases hfi : pz_fi (fun t => pz_cC n (s 13) (pz_opc s mh) (s 6 4) (nW - k - 1) S t && decide (pz_cV 10000000 n (s 13) (pz_opc s mh) (s 6 4) (pz_prc s m (-1)) (nW - k - 1) S q t = pz_co 10000000 n (s 13) (pz_opc s mh) (s 6 4) (pz_prc s m (-1)) (nW - k - 1 + 1) S q)) n 0 with
      | none =>
        dsimp only
        rw [if_pos rfl]
        exact ih f (k + 1) S q u' (-1) (by omega) (by omega) hS hsub hq q2
      | some t =>
        obtain ⟨_, t1, _⟩ := pz_fi_some _ _ _ hfi
        dsimp only
        rw [if_neg (by omega), pz_add (show S < 256 by omega) (show t < 8 by omega), pz_wr_suc (i := t) (by omega)]
        exact ih f (k + 1) (S ||| 2 ^ t) (t + 1) u' (t : Int) (by omega) (by omega) (pz_in_all hn hS (by omega)) (pz_sub_or t hsub) (by omega) q2
  unfold f_M_thingIn
  rw [pz_W_homeM h.1, Option.bind_some, e6]
  exact h12 j px_big 0 (pz_hs (s 9) n) (s 7 5 + 1).toNat y (-1) (by omega) (pz_big_lt (by omega)) hlt (Nat.and_self _) hq0 pz_ag_rf
