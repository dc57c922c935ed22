/-! LEAST of the reference: its table -/
theorem pz_an_congr {hl kl : Nat → Nat → Int} {m : Nat} (h : pz_hle hl kl m) (w : Int) : pz_an hl m w = pz_an kl m w := by
  unfold pz_an
  congr 1
  refine pz_fi_congr 6 0 (fun p _ _ => ?_)
  rw [pz_md_congr h]
theorem pz_isOpenM {y : px_Z} {mh : Nat} (hm : mh ≤ 24) (h1 : y 150 35 = (mh : Int)) (w : Int) : f_M_isOpen y w = some (if pz_an (fun i k => y 166 (5 * i + k)) mh w then 1 else 0) := by
  have hl : ∀ (r fu p : Nat), p + r = 6 → r < fu → l_M_isOpen_2 y fu w (p : Int) = some (if (pz_fi (fun p => decide (pz_md (fun i k => y 166 (5 * i + k)) mh (p : Int) w ≠ -1)) r p).isSome then 1 else 0) := by
    intro r
    induction r with
    | zero =>
      intro fu p hp hf
      obtain ⟨f, rfl⟩ : ∃ f, fu = f + 1 := ⟨fu - 1, by omega⟩
      rw [l_M_isOpen_2, if_pos (by omega)]
      rfl
    | succ r ih =>
      intro fu p hp hf
      obtain ⟨f, rfl⟩ : ∃ f, fu = f + 1 := ⟨fu - 1, by omega⟩
      rw [l_M_isOpen_2, if_neg (by omega), pz_mudM hm h1, Option.bind_some, pz_wr_suc (by omega), pz_fi]
      by_cases hq : pz_md (fun i k => y 166 (5 * i + k)) mh (p : Int) w = -1
      · rw [if_pos hq]
        simp only [hq, ne_eq, not_true, decide_false, Bool.false_eq_true, if_false]
        exact ih f (p + 1) (by omega) (by omega)
      · rw [if_neg hq]
        simp only [hq, ne_eq, not_false_iff, decide_true, if_true, Option.isSome_some]
  exact hl 6 px_big 0 (by omega) (pz_big_lt (by omega))
def pz_lx (k S q : Nat) : Nat := 9 * (256 * k + S) + q
theorem pz_la {y : px_Z} {k S q : Nat} (hk : k ≤ 61) (hS : S < 256) (hq : q ≤ 8) : f_M_leastAt y (k : Int) (S : Int) (q : Int) = ((pz_lx k S q : Nat) : Int) ∧ 0 ≤ ((pz_lx k S q : Nat) : Int) ∧ ((pz_lx k S q : Nat) : Int) < 142848 := by
  unfold f_M_leastAt pz_lx
  refine ⟨?_, by omega, by omega⟩
  rw [pz_wr_id (x := 256 * (k : Int)) (by omega) (by omega), pz_wr_id (x := 256 * (k : Int) + (S : Int)) (by omega) (by omega), pz_wr_id (x := 9 * (256 * (k : Int) + (S : Int))) (by omega) (by omega), pz_wr_id (by omega) (by omega)]
  omega
theorem pz_lx_inj {k S q k' S' q' : Nat} (hS : S < 256) (hq : q ≤ 8) (hS' : S' < 256) (hq' : q' ≤ 8) (h : pz_lx k S q = pz_lx k' S' q') : k = k' ∧ S = S' ∧ q = q' := by
  unfold pz_lx at h
  omega
/-- what stands fast while LEAST is thought of: the world s, m lines of PRICES, mh of THE HILLS -/
def pz_LB (n m mh : Nat) (s z : px_Z) : Prop := pz_W n (pz_wo s) z ∧ s 14 0 = (m : Int) ∧ s 28 0 = (mh : Int)
theorem pz_LB_ag {n m mh : Nat} {s z y : px_Z} (h : pz_LB n m mh s z) (hy : pz_ag [174, 175, 176] z y) : pz_LB n m mh s y := ⟨pz_W_ek h.1 pz_ek_rf (pz_ek_ag (L := [174, 175, 176]) ⟨fun _ => rfl, fun _ => rfl, fun _ => rfl, trivial⟩ hy pz_ek_rf), h.2.1, h.2.2⟩
theorem pz_canInM {n m mh : Nat} {s y : px_Z} (h : pz_LB n m mh s y) {k t S r : Nat} (ht : t < n) (hS : S < 2 ^ n) (hk : k ≤ 61) (hr : s 6 4 - (r : Int) = s 7 4 + (k : Int)) : f_M_canComeIn y (k : Int) (t : Int) (S : Int) = some (if pz_cC n (s 13) (pz_opc s mh) (s 6 4) r S t then 1 else 0) := by
  obtain ⟨hW, hm, hmh⟩ := h
  have hn := hW.1
  have w3 := hW.2.2.2.1 t (by omega)
  have b2 : y 150 6 = (n : Int) := hW.2.1.2.1
  have e4 : s 7 4 = y 151 0 := hW.2.2.1.1.2.2.2.2.1
  have g := hW.2.2.1.2.1
  have g13 : (s 7 6 = 0 ∧ y 151 7 ≠ y 151 0 + 1) ∨ (s 7 6 = 1 ∧ y 151 7 = y 151 0 + 1) := g.2.2.2.2.2.2.2.2.2.2.2.2
  obtain ⟨mh2, w5a, w5b, w5c, w5d, w5e⟩ := hW.2.2.2.2.2.1
  have hmm : mh2 = mh := by
    have : s 28 0 = (mh2 : Int) := w5b
    omega
  subst hmm
  have hj : j_M_canComeIn_j10 y (k : Int) = some (if pz_an (pz_hlv (s 29) (s 30) (s 31) (s 32) (s 33)) mh2 (s 7 4 + (k : Int)) then 1 else 0) := by
    unfold j_M_canComeIn_j10
    rw [pz_isOpenM w5a w5c, Option.bind_some, ← e4, pz_wr_id (by omega) (by omega), ← pz_an_congr w5d]
    show (if (if pz_an (pz_hlv (s 29) (s 30) (s 31) (s 32) (s 33)) mh2 _ = true then (1 : Int) else 0) = 0 then some 0 else some 1) = _
    cases pz_an (pz_hlv (s 29) (s 30) (s 31) (s 32) (s 33)) mh2 (s 7 4 + (k : Int)) <;> rfl
  unfold f_M_canComeIn
  rw [pz_canM hn b2 ht hS w3.2.2, Option.bind_some, pz_can_congr (bf := s 13) (show y 167 t = s 13 t from w3.2.1.symm), hj]
  unfold pz_cC pz_opc
  rw [hr]
  cases hc : pz_can n (s 13) t S with
  | false => rfl
  | true =>
    simp only [if_true, Bool.true_and]
    rw [if_neg (by decide)]
    by_cases hk0 : (0 : Int) < (k : Int)
    · rw [if_pos hk0]
      have : ¬ (s 7 4 + (k : Int) = s 7 4) := by omega
      simp [this]
    · rw [if_neg hk0]
      have hk1 : s 7 4 + (k : Int) = s 7 4 := by omega
      unfold f_M_hasCome
      rw [pz_wr_id (x := y 151 0 + 1) (by omega) (by omega)]
      rcases g13 with ⟨g1, g2⟩ | ⟨g1, g2⟩
      · rw [if_neg g2, if_pos rfl]
        simp [g1]
      · rw [if_pos g2, if_neg (by decide)]
        simp [g1, hk1]
theorem pz_prcM {n m mh : Nat} {s y : px_Z} (h : pz_LB n m mh s y) {t S q : Nat} (ht : t < n) (hS : S < 256) (hq : q ≤ 8) (wk : Int) : ∃ u, f_M_priceThen y (t : Int) wk (S : Int) (q : Int) = some (pz_prc s m (-1) t wk (pz_cnt S) q, u) ∧ pz_ag [174, 175] y u := by
  obtain ⟨hW, hm, hmh⟩ := h
  have hn := hW.1
  have g := hW.2.2.1.2.1
  have f := hW.2.2.1.1
  have hc := hW.2.2.1.2.2.1 t (by omega)
  have k1 : s 12 t = y 154 t := (hW.2.2.2.1 t (by omega)).1
  have k2 : s 8 t = y 151 (8 + t) := hc.1
  have k3 : s 9 t = y 151 (16 + t) := hc.2.1
  have k5 : s 7 3 = y 151 5 := f.2.2.2.1
  have k6 : s 7 2 = y 151 4 := f.2.2.1
  obtain ⟨m2, w4a, w4b⟩ := hW.2.2.2.2.1.1
  have hmm : m2 = m := by
    have : s 14 0 = (m2 : Int) := w4a
    omega
  subst hmm
  have klw : pz_lw (y 154) ((q : Int) - 1) = pz_lw (s 12) ((q : Int) - 1) := by
    unfold pz_lw
    split
    · rfl
    · exact ((hW.2.2.2.1 _ (by omega)).1).symm
  obtain ⟨u, e, hu⟩ := pz_priceThenM (s := y) (t := t) hn hW.2.1.2.1 (by omega) w4b.1 (by omega) hS wk hq
  refine ⟨u, ?_, hu⟩
  rw [e]
  unfold pz_prc
  rw [klw, ← k1, ← k2, ← k3, ← k5, ← k6]
  have : ¬ ((t : Int) = -1) := by omega
  simp only [this, false_or]
  rfl
/-- the table from a place on -/
def pz_TP (n nW hs : Nat) (co : Nat → Nat → Nat → Int) (k S q : Nat) (y : px_Z) : Prop := ∀ k' S' q', k' ≤ nW → (k < k' ∨ (k' = k ∧ (S' < S ∨ (S' = S ∧ q' < q)))) → S' < 2 ^ n → hs &&& S' = hs → q' ≤ n → y 176 (pz_lx k' S' q') = co (nW - k') S' q'
theorem pz_leastOf {n m mh nW hs : Nat} {s y : px_Z} (h : pz_LB n m mh s y) (hnW : (nW : Int) = s 6 4 - s 7 4 + 1) (hw : nW ≤ 61) {k S q : Nat} (hk : k < nW) (hS : S < 2 ^ n) (hsub : hs &&& S = hs) (hq : q ≤ n) (hT : pz_TP n nW hs (pz_co 10000000 n (s 13) (pz_opc s mh) (s 6 4) (pz_prc s m (-1))) k S q y) : ∃ y', f_M_findsLeastOf y (k : Int) (S : Int) (q : Int) = some y' ∧ pz_ag [174, 175, 176] y y' ∧ pz_TP n nW hs (pz_co 10000000 n (s 13) (pz_opc s mh) (s 6 4) (pz_prc s m (-1))) k S (q + 1) y' := by
  have hn := h.1.1
  have hpw := pz_pow_le hn
  obtain ⟨r, hr⟩ : ∃ r, nW - k = r + 1 := ⟨nW - k - 1, by omega⟩
  have hr2 : s 6 4 - (r : Int) = s 7 4 + (k : Int) := by omega
  have hk2 : k < 2147483647 := by omega
  have hp : ∀ t w c q, 1 ≤ pz_prc s m (-1) t w c q ∧ pz_prc s m (-1) t w c q ≤ 9999 := fun t w c q => pz_pr_rg
  have hbd : ∀ S q, 0 ≤ pz_co 10000000 n (s 13) (pz_opc s mh) (s 6 4) (pz_prc s m (-1)) r S q ∧ pz_co 10000000 n (s 13) (pz_opc s mh) (s 6 4) (pz_prc s m (-1)) r S q ≤ 10000000 := by
    intro S q
    have := pz_co_rl (n := n) (af := s 13) (op := pz_opc s mh) (th := s 6 4) hp r (by omega) S q
    unfold pz_rl at this
    omega
  have hstart : y 176 (pz_lx (k + 1) S q) = pz_co 10000000 n (s 13) (pz_opc s mh) (s 6 4) (pz_prc s m (-1)) r S q := by
    have := hT (k + 1) S q (by omega) (Or.inl (by omega)) hS hsub hq
    rw [show nW - (k + 1) = r by omega] at this
    exact this
  have hloop : ∀ (K : px_Z → Int → Int → Int → Int → Option (px_Z)) (c fu t : Nat) (u : px_Z) (b : Int), t + c = n → c < fu → pz_ag [174, 175] y u → ∃ u', l_M_findsLeastOf_13 K fu u (k : Int) (S : Int) (q : Int) b (t : Int) = K u' (k : Int) (S : Int) (q : Int) (pz_mn (pz_cC n (s 13) (pz_opc s mh) (s 6 4) r S) (pz_cV 10000000 n (s 13) (pz_opc s mh) (s 6 4) (pz_prc s m (-1)) r S q) c t b) ∧ pz_ag [174, 175] y u' := by
    intro K c
    induction c with
    | zero =>
      intro fu t u b ht hf hu
      obtain ⟨f, rfl⟩ : ∃ f, fu = f + 1 := ⟨fu - 1, by omega⟩
      have b2 : u 150 6 = (n : Int) := (hu 150 6 (by decide)).trans h.1.2.1.2.1
      rw [l_M_findsLeastOf_13, b2, if_pos (by omega)]
      exact ⟨u, rfl, hu⟩
    | succ c ih =>
      intro fu t u b ht hf hu
      obtain ⟨f, rfl⟩ : ∃ f, fu = f + 1 := ⟨fu - 1, by omega⟩
      have hLB : pz_LB n m mh s u := pz_LB_ag h (pz_ag_mono hu (by decide))
      have b2 : u 150 6 = (n : Int) := hLB.1.2.1.2.1
      rw [l_M_findsLeastOf_13, b2, if_neg (by omega), pz_canInM hLB (by omega) hS (by omega) hr2, Option.bind_some, pz_i1, pz_mn_s, pz_wr_suc (by omega)]
      cases hc : pz_cC n (s 13) (pz_opc s mh) (s 6 4) r S t with
      | false =>
        simp only [Bool.false_eq_true, if_false]
        exact ih f (t + 1) u b (by omega) (by omega) hu
      | true =>
        simp only [if_true]
        have hlt := pz_in_all hn hS (show t < n by omega)
        have hsub2 : hs &&& (S ||| 2 ^ t) = hs := by
          refine Nat.eq_of_testBit_eq (fun i => ?_)
          have := congrArg (fun x => x.testBit i) hsub
          simp only [Nat.testBit_and] at this
          rw [Nat.testBit_and, Nat.testBit_or]
          cases h1 : hs.testBit i <;> cases h2 : S.testBit i <;> simp_all
        obtain ⟨la1, la2, la3⟩ := pz_la (y := u) (k := k + 1) (S := S ||| 2 ^ t) (q := t + 1) (by omega) (by omega) (by omega)
        have hrest : u 176 (pz_lx (k + 1) (S ||| 2 ^ t) (t + 1)) = pz_co 10000000 n (s 13) (pz_opc s mh) (s 6 4) (pz_prc s m (-1)) r (S ||| 2 ^ t) (t + 1) := by
          rw [hu 176 _ (by decide)]
          have := hT (k + 1) (S ||| 2 ^ t) (t + 1) (by omega) (Or.inl (by omega)) hlt hsub2 (by omega)
          rw [show nW - (k + 1) = r by omega] at this
          exact this
        have e0 : u 151 0 = s 7 4 := (hLB.1.2.2.1.1.2.2.2.2.1).symm
        have hw0 : 0 ≤ s 7 4 ∧ s 7 4 ≤ 60 := by
          have g := hLB.1.2.2.1.2.1
          rw [← e0]; exact ⟨g.2.2.2.2.1, g.2.2.2.2.2.1⟩
        obtain ⟨u2, p1, p2⟩ := pz_prcM hLB (t := t) (S := S) (q := q) (by omega) (by omega) (by omega) (s 7 4 + (k : Int))
        have hpr := hp t (s 7 4 + (k : Int)) (pz_cnt S) q
        have hb1 := hbd (S ||| 2 ^ t) (t + 1)
        have hby : ∃ u3, f_M_byPaying u (k : Int) (t : Int) (S : Int) (q : Int) = some (pz_cV 10000000 n (s 13) (pz_opc s mh) (s 6 4) (pz_prc s m (-1)) r S q t, u3) ∧ pz_ag [174, 175] u u3 := by
          unfold f_M_byPaying
          rw [pz_wr_suc hk2, pz_add (show S < 256 by omega) (show t < 8 by omega), pz_wr_suc (i := t) (by omega), la1, if_pos ⟨la2, la3⟩, Int.toNat_natCast, hrest, e0]
          show ∃ u3, _ = some (pz_cv _ _ _, u3) ∧ _
          unfold pz_cv
          rw [hr2]
          by_cases hL : pz_co 10000000 n (s 13) (pz_opc s mh) (s 6 4) (pz_prc s m (-1)) r (S ||| 2 ^ t) (t + 1) < 10000000
          · rw [if_pos hL, if_neg (by omega), pz_wr_id (x := s 7 4 + (k : Int)) (by omega) (by omega), p1, Option.bind_some]
            dsimp only
            rw [pz_wr_id (by omega) (by omega)]
            exact ⟨u2, rfl, p2⟩
          · rw [if_neg hL, if_pos (by omega)]
            exact ⟨u, rfl, pz_ag_rf⟩
        obtain ⟨u3, b1, b3⟩ := hby
        rw [b1, Option.bind_some]
        dsimp only
        by_cases hlt2 : b ≤ pz_cV 10000000 n (s 13) (pz_opc s mh) (s 6 4) (pz_prc s m (-1)) r S q t
        · rw [if_pos hlt2, if_neg (by omega)]
          exact ih f (t + 1) u3 b (by omega) (by omega) (pz_ag_tr hu b3)
        · rw [if_neg hlt2, if_pos (by omega)]
          exact ih f (t + 1) u3 _ (by omega) (by omega) (pz_ag_tr hu b3)
  obtain ⟨lb1, lb2, lb3⟩ := pz_la (y := y) (k := k + 1) (S := S) (q := q) (by omega) (by omega) (by omega)
  unfold f_M_findsLeastOf
  rw [pz_wr_suc hk2, lb1, if_pos ⟨lb2, lb3⟩, Int.toNat_natCast, hstart]
  obtain ⟨u', l1, l2⟩ := hloop (fun s x1 x2 x3 x4 => if 0 ≤ (f_M_leastAt s x1 x2 x3) ∧ (f_M_leastAt s x1 x2 x3) < 142848 then some (px_up s 176 (f_M_leastAt s x1 x2 x3).toNat x4) else none) n px_big 0 y (pz_co 10000000 n (s 13) (pz_opc s mh) (s 6 4) (pz_prc s m (-1)) r S q) (by omega) (pz_big_lt (by omega)) pz_ag_rf
  obtain ⟨lc1, lc2, lc3⟩ := pz_la (y := u') (k := k) (S := S) (q := q) (by omega) (by omega) (by omega)
  rw [show ((0 : Nat) : Int) = 0 from rfl, ← pz_co_s] at l1
  rw [l1, lc1, if_pos ⟨lc2, lc3⟩, Int.toNat_natCast]
  refine ⟨_, rfl, pz_ag_up (pz_ag_mono l2 (by decide)) (by decide), fun k' S' q' h1 h2 h3 h4 h5 => ?_⟩
  rw [pz_up_same]
  by_cases he : pz_lx k' S' q' = pz_lx k S q
  · obtain ⟨a1, a2, a3⟩ := pz_lx_inj (by omega) (by omega) (by omega) (by omega) he
    rw [if_pos he, a1, a2, a3, hr]
  · rw [if_neg he, l2 176 _ (by decide)]
    refine hT k' S' q' h1 ?_ h3 h4 h5
    rcases h2 with h2 | ⟨h2, h6 | ⟨h6, h7⟩⟩
    · exact Or.inl h2
    · exact Or.inr ⟨h2, Or.inl h6⟩
    · refine Or.inr ⟨h2, Or.inr ⟨h6, ?_⟩⟩
      by_cases hqq : q' = q
      · exfalso; exact he (by rw [h2, h6, hqq])
      · omega
