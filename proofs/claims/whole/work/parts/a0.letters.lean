/-! ORDERS of LETTERS -/
def pz_q6 (A : Nat) : Bool := pz_ra 256 (fun B => !decide (A &&& B = A) || (decide (pz_cnt A ≤ pz_cnt B) && (!decide (pz_cnt A = pz_cnt B) || decide (A = B))))
set_option maxRecDepth 100000 in
theorem pz_k6_0 : pz_ra 16 (fun a => pz_q6 (16 * 0 + a)) = true := by decide +kernel
set_option maxRecDepth 100000 in
theorem pz_k6_1 : pz_ra 16 (fun a => pz_q6 (16 * 1 + a)) = true := by decide +kernel
set_option maxRecDepth 100000 in
theorem pz_k6_2 : pz_ra 16 (fun a => pz_q6 (16 * 2 + a)) = true := by decide +kernel
set_option maxRecDepth 100000 in
theorem pz_k6_3 : pz_ra 16 (fun a => pz_q6 (16 * 3 + a)) = true := by decide +kernel
set_option maxRecDepth 100000 in
theorem pz_k6_4 : pz_ra 16 (fun a => pz_q6 (16 * 4 + a)) = true := by decide +kernel
set_option maxRecDepth 100000 in
theorem pz_k6_5 : pz_ra 16 (fun a => pz_q6 (16 * 5 + a)) = true := by decide +kernel
set_option maxRecDepth 100000 in
theorem pz_k6_6 : pz_ra 16 (fun a => pz_q6 (16 * 6 + a)) = true := by decide +kernel
set_option maxRecDepth 100000 in
theorem pz_k6_7 : pz_ra 16 (fun a => pz_q6 (16 * 7 + a)) = true := by decide +kernel
set_option maxRecDepth 100000 in
theorem pz_k6_8 : pz_ra 16 (fun a => pz_q6 (16 * 8 + a)) = true := by decide +kernel
set_option maxRecDepth 100000 in
theorem pz_k6_9 : pz_ra 16 (fun a => pz_q6 (16 * 9 + a)) = true := by decide +kernel
set_option maxRecDepth 100000 in
theorem pz_k6_10 : pz_ra 16 (fun a => pz_q6 (16 * 10 + a)) = true := by decide +kernel
set_option maxRecDepth 100000 in
theorem pz_k6_11 : pz_ra 16 (fun a => pz_q6 (16 * 11 + a)) = true := by decide +kernel
set_option maxRecDepth 100000 in
theorem pz_k6_12 : pz_ra 16 (fun a => pz_q6 (16 * 12 + a)) = true := by decide +kernel
set_option maxRecDepth 100000 in
theorem pz_k6_13 : pz_ra 16 (fun a => pz_q6 (16 * 13 + a)) = true := by decide +kernel
set_option maxRecDepth 100000 in
theorem pz_k6_14 : pz_ra 16 (fun a => pz_q6 (16 * 14 + a)) = true := by decide +kernel
set_option maxRecDepth 100000 in
theorem pz_k6_15 : pz_ra 16 (fun a => pz_q6 (16 * 15 + a)) = true := by decide +kernel
theorem pz_k6 : pz_ra 256 (fun A => pz_ra 256 (fun B => !decide (A &&& B = A) || (decide (pz_cnt A ≤ pz_cnt B) && (!decide (pz_cnt A = pz_cnt B) || decide (A = B))))) = true := pz_by16 (p := pz_q6) (fun j hj => match j, hj with
  | 0, _ => pz_k6_0
  | 1, _ => pz_k6_1
  | 2, _ => pz_k6_2
  | 3, _ => pz_k6_3
  | 4, _ => pz_k6_4
  | 5, _ => pz_k6_5
  | 6, _ => pz_k6_6
  | 7, _ => pz_k6_7
  | 8, _ => pz_k6_8
  | 9, _ => pz_k6_9
  | 10, _ => pz_k6_10
  | 11, _ => pz_k6_11
  | 12, _ => pz_k6_12
  | 13, _ => pz_k6_13
  | 14, _ => pz_k6_14
  | 15, _ => pz_k6_15
  | _ + 16, hj => absurd hj (by omega))
theorem pz_sub_cnt {A B : Nat} (hA : A < 256) (hB : B < 256) (h : A &&& B = A) : pz_cnt A ≤ pz_cnt B ∧ (pz_cnt A = pz_cnt B → A = B) := by
  have h1 := pz_ra_at (pz_ra_at pz_k6 hA) hB
  simp only [Bool.or_eq_true, Bool.and_eq_true, Bool.not_eq_true', decide_eq_true_eq, decide_eq_false_iff_not] at h1
  rcases h1 with h1 | h1
  · exact absurd h h1
  · refine ⟨h1.1, fun q => ?_⟩
    rcases h1.2 with h2 | h2
    · exact absurd q h2
    · exact h2
theorem pz_cnt9 (A : Nat) : pz_cnt A < 9 := by
  unfold pz_cnt
  omega
/-- how many are so -/
def pz_nm (f : Nat → Bool) : Nat → Nat
  | 0 => 0
  | n + 1 => pz_nm f n + (if f n then 1 else 0)
theorem pz_nm_congr {f g : Nat → Bool} : ∀ n, (∀ i, i < n → f i = g i) → pz_nm f n = pz_nm g n := by
  intro n
  induction n with
  | zero => intro _; rfl
  | succ n ih =>
    intro h
    rw [pz_nm, pz_nm, ih (fun i hi => h i (by omega)), h n (by omega)]
theorem pz_nm_le {f : Nat → Bool} (n : Nat) : pz_nm f n ≤ n := by
  induction n with
  | zero => exact Nat.le_refl 0
  | succ n ih =>
    rw [pz_nm]
    split <;> omega
theorem pz_nm_zero {f : Nat → Bool} : ∀ n, (∀ i, i < n → f i = false) → pz_nm f n = 0 := by
  intro n
  induction n with
  | zero => intro _; rfl
  | succ n ih =>
    intro h
    rw [pz_nm, ih (fun i hi => h i (by omega)), h n (by omega)]
    rfl
/-- one of them taken out -/
theorem pz_nm_out {f g : Nat → Bool} {t : Nat} : ∀ n, t < n → f t = true → g t = false → (∀ i, i < n → i ≠ t → g i = f i) → pz_nm f n = pz_nm g n + 1 := by
  intro n
  induction n with
  | zero => intro h; omega
  | succ n ih =>
    intro ht hf hg h
    rw [pz_nm, pz_nm]
    by_cases htn : t = n
    · subst htn
      rw [hf, hg, pz_nm_congr t (fun i hi => h i (by omega) (by omega))]
      rfl
    · rw [ih (by omega) hf hg (fun i hi hne => h i (by omega) hne), h n (by omega) (fun q => htn q.symm)]
      omega
theorem pz_nm_mono {f g : Nat → Bool} : ∀ n, (∀ i, i < n → f i = true → g i = true) → pz_nm f n ≤ pz_nm g n := by
  intro n
  induction n with
  | zero => intro _; exact Nat.le_refl 0
  | succ n ih =>
    intro h
    rw [pz_nm, pz_nm]
    have h1 := ih (fun i hi => h i (by omega))
    have h2 := h n (by omega)
    cases hf : f n
    · simp only [Bool.false_eq_true, if_false]; split <;> omega
    · rw [h2 hf]; simp only [if_true]; omega
def pz_fa : Nat → Nat
  | 0 => 1
  | n + 1 => (n + 1) * pz_fa n
def pz_pw (g : Nat → Nat) : Nat → Nat
  | 0 => 1
  | k + 1 => pz_pw g k * pz_fa (g k)
theorem pz_pw_congr {g h : Nat → Nat} : ∀ K, (∀ w, w < K → g w = h w) → pz_pw g K = pz_pw h K := by
  intro K
  induction K with
  | zero => intro _; rfl
  | succ K ih =>
    intro e
    rw [pz_pw, pz_pw, ih (fun w hw => e w (by omega)), e K (by omega)]
theorem pz_pw_one {g : Nat → Nat} : ∀ K, (∀ w, w < K → g w = 0) → pz_pw g K = 1 := by
  intro K
  induction K with
  | zero => intro _; rfl
  | succ K ih =>
    intro e
    rw [pz_pw, ih (fun w hw => e w (by omega)), e K (by omega)]
    rfl
theorem pz_pw_in {g h : Nat → Nat} {w0 : Nat} : ∀ K, w0 < K → g w0 = h w0 + 1 → (∀ w, w < K → w ≠ w0 → g w = h w) → pz_pw g K = (h w0 + 1) * pz_pw h K := by
  intro K
  induction K with
  | zero => intro q; omega
  | succ K ih =>
    intro hw h0 e
    rw [pz_pw, pz_pw]
    by_cases hk : w0 = K
    · subst hk
      rw [pz_pw_congr (h := h) w0 (fun w hw => e w (by omega) (by omega)), h0, pz_fa, Nat.mul_left_comm]
    · rw [ih (by omega) h0 (fun w hw hne => e w (by omega) hne), e K (by omega) (fun q => hk q.symm), Nat.mul_assoc]
theorem pz_pw_pos {g : Nat → Nat} : ∀ K, 0 < pz_pw g K := by
  have hfa : ∀ n, 0 < pz_fa n := by
    intro n
    induction n with
    | zero => decide
    | succ n ih => rw [pz_fa]; exact Nat.mul_pos (by omega) ih
  intro K
  induction K with
  | zero => exact Nat.one_pos
  | succ K ih => rw [pz_pw]; exact Nat.mul_pos ih (hfa _)
/-- a LETTER can follow a set of them -/
def pz_cl2 (N : Nat) (L : Nat → Nat) (t S : Nat) : Bool := !S.testBit t && (pz_fi (fun o => S.testBit o && decide (L t &&& L o ≠ L t)) N 0).isNone
theorem pz_cl2_bit {N : Nat} {L : Nat → Nat} {t S : Nat} (h : pz_cl2 N L t S = true) : S.testBit t = false := by
  unfold pz_cl2 at h
  simp only [Bool.and_eq_true, Bool.not_eq_true'] at h
  exact h.1
theorem pz_cl2_sub {N : Nat} {L : Nat → Nat} {t S o : Nat} (h : pz_cl2 N L t S = true) (ho : o < N) (hb : S.testBit o = true) : L t &&& L o = L t := by
  unfold pz_cl2 at h
  simp only [Bool.and_eq_true, Option.isNone_iff_eq_none] at h
  have := pz_fi_none _ _ h.2 o (Nat.zero_le _) (by omega)
  simp only [hb, Bool.true_and, decide_eq_false_iff_not, ne_eq, Decidable.not_not] at this
  exact this
theorem pz_cl2_of {N : Nat} {L : Nat → Nat} {t S : Nat} (hb : S.testBit t = false) (h : ∀ o, o < N → S.testBit o = true → L t &&& L o = L t) : pz_cl2 N L t S = true := by
  unfold pz_cl2
  rw [hb]
  cases hq : pz_fi (fun o => S.testBit o && decide (L t &&& L o ≠ L t)) N 0 with
  | none => rfl
  | some o =>
    obtain ⟨_, h2, h3⟩ := pz_fi_some _ _ _ hq
    simp only [Bool.and_eq_true, decide_eq_true_eq] at h3
    exact absurd (h o (by omega) h3.1) h3.2
theorem pz_or_bit {S t i : Nat} : (S ||| 2 ^ t).testBit i = (S.testBit i || decide (t = i)) := by
  rw [Nat.testBit_or, Nat.testBit_two_pow]
/-- who can't come keeps all from coming -/
theorem pz_ot_Z {N : Nat} (hN : N ≤ 8) {L : Nat → Nat} {u o : Nat} (hu : u < N) (ho : o < N) (hno : L u &&& L o ≠ L u) : ∀ (r S : Nat), N - pz_cnt S = r → S < 2 ^ N → S.testBit u = false → S.testBit o = true → pz_ot N (pz_cl2 N L) S = 0 := by
  have hpw := pz_pow_le hN
  intro r
  induction r with
  | zero =>
    intro S hr hS hbu hbo
    exfalso
    have h1 := pz_cnt_le hN hS
    have hA : S = 2 ^ N - 1 := h1.2.mpr (by omega)
    rw [hA, Nat.testBit_two_pow_sub_one, decide_eq_false_iff_not] at hbu
    omega
  | succ r ih =>
    intro S hr hS hbu hbo
    have hA : S ≠ 2 ^ N - 1 := fun q => by
      rw [q, Nat.testBit_two_pow_sub_one, decide_eq_false_iff_not] at hbu
      omega
    rw [pz_ot_rec hN hS hA (fun t _ hc => pz_cl2_bit hc)]
    refine pz_fo_zero N 0 (fun t _ ht hc => ?_)
    have hbt := pz_cl2_bit hc
    have hut : t ≠ u := fun q => by
      rw [q] at hc
      exact hno (pz_cl2_sub hc ho hbo)
    have hcn := (pz_or_add (show S < 256 by omega) (show t < 8 by omega) hbt).2
    refine ih (S ||| 2 ^ t) (by omega) (pz_in_all hN hS (by omega)) ?_ ?_
    · rw [pz_or_bit, hbu]; simp [hut]
    · rw [pz_or_bit, hbo]; rfl
/-- two that don't lie within one another: no order at all -/
theorem pz_ot_no {N : Nat} (hN : N ≤ 8) {L : Nat → Nat} {i j : Nat} (hi : i < N) (hj : j < N) (hij : i ≠ j) (h1 : L i &&& L j ≠ L i) (h2 : L j &&& L i ≠ L j) : ∀ (r S : Nat), N - pz_cnt S = r → S < 2 ^ N → (S.testBit i = false ∨ S.testBit j = false) → pz_ot N (pz_cl2 N L) S = 0 := by
  have hpw := pz_pow_le hN
  intro r
  induction r with
  | zero =>
    intro S hr hS hb
    exfalso
    have h3 := pz_cnt_le hN hS
    have hA : S = 2 ^ N - 1 := h3.2.mpr (by omega)
    rw [hA, Nat.testBit_two_pow_sub_one, Nat.testBit_two_pow_sub_one, decide_eq_false_iff_not, decide_eq_false_iff_not] at hb
    omega
  | succ r ih =>
    intro S hr hS hb
    cases hbi : S.testBit i with
    | true =>
      rw [hbi] at hb
      have hbj : S.testBit j = false := by
        rcases hb with q | q
        · cases q
        · exact q
      exact pz_ot_Z hN hj hi h2 (r + 1) S hr hS hbj hbi
    | false =>
      cases hbj : S.testBit j with
      | true => exact pz_ot_Z hN hi hj h1 (r + 1) S hr hS hbi hbj
      | false =>
        have hA : S ≠ 2 ^ N - 1 := fun q => by
          rw [q, Nat.testBit_two_pow_sub_one, decide_eq_false_iff_not] at hbi
          omega
        rw [pz_ot_rec hN hS hA (fun t _ hc => pz_cl2_bit hc)]
        refine pz_fo_zero N 0 (fun t _ ht hc => ?_)
        have hbt := pz_cl2_bit hc
        have hcn := (pz_or_add (show S < 256 by omega) (show t < 8 by omega) hbt).2
        refine ih (S ||| 2 ^ t) (by omega) (pz_in_all hN hS (by omega)) ?_
        rw [pz_or_bit, pz_or_bit, hbi, hbj]
        by_cases hti : t = i
        · right
          have : ¬ (t = j) := by omega
          simp [this]
        · left
          simp [hti]
theorem pz_maxof {p : Nat → Bool} {c : Nat → Nat} : ∀ n, (∃ i, i < n ∧ p i = true) → ∃ i, i < n ∧ p i = true ∧ ∀ j, j < n → p j = true → c j ≤ c i := by
  intro n
  induction n with
  | zero => intro ⟨i, h, _⟩; omega
  | succ n ih =>
    intro ⟨i, hi, hp⟩
    by_cases hex : ∃ i, i < n ∧ p i = true
    · obtain ⟨k, k1, k2, k3⟩ := ih hex
      by_cases hn : p n = true ∧ c k < c n
      · refine ⟨n, by omega, hn.1, fun j hj hpj => ?_⟩
        by_cases hjn : j = n
        · rw [hjn]; exact Nat.le_refl _
        · have := k3 j (by omega) hpj
          omega
      · refine ⟨k, by omega, k2, fun j hj hpj => ?_⟩
        by_cases hjn : j = n
        · subst hjn
          exact Nat.le_of_not_lt (fun q => hn ⟨hpj, q⟩)
        · exact k3 j (by omega) hpj
    · have hin : i = n := by
        rcases Nat.lt_or_eq_of_le (show i ≤ n by omega) with q | q
        · exact absurd ⟨i, q, hp⟩ hex
        · exact q
      subst hin
      refine ⟨i, by omega, hp, fun j hj hpj => ?_⟩
      by_cases hjn : j = i
      · rw [hjn]; exact Nat.le_refl _
      · exact absurd ⟨j, by omega, hpj⟩ hex
/-- how many of a weight are out yet -/
def pz_ow (N : Nat) (L : Nat → Nat) (S w : Nat) : Nat := pz_nm (fun i => !S.testBit i && decide (pz_cnt (L i) = w)) N
/-- the sets that go from the greatest down -/
def pz_gd (N : Nat) (L : Nat → Nat) (S : Nat) : Prop := ∀ u t, u < N → t < N → S.testBit u = false → S.testBit t = true → pz_cnt (L u) ≤ pz_cnt (L t)
theorem pz_ot_ch {N : Nat} (hN : N ≤ 8) {L : Nat → Nat} (hL : ∀ i, i < N → L i < 256) (hch : ∀ i j, i < N → j < N → L i &&& L j = L i ∨ L j &&& L i = L j) : ∀ (r S : Nat), N - pz_cnt S = r → S < 2 ^ N → pz_gd N L S → pz_ot N (pz_cl2 N L) S = ((pz_pw (pz_ow N L S) 9 : Nat) : Int) := by
  have hpw := pz_pow_le hN
  have hsub : ∀ i j, i < N → j < N → (L i &&& L j = L i ↔ pz_cnt (L i) ≤ pz_cnt (L j)) := by
    intro i j hi hj
    refine ⟨fun q => (pz_sub_cnt (hL i hi) (hL j hj) q).1, fun q => ?_⟩
    rcases hch i j hi hj with q2 | q2
    · exact q2
    · have h3 := pz_sub_cnt (hL j hj) (hL i hi) q2
      have h4 := h3.2 (by omega)
      rw [h4, Nat.and_self]
  intro r
  induction r with
  | zero =>
    intro S hr hS hg
    have h1 := pz_cnt_le hN hS
    have hA : S = 2 ^ N - 1 := h1.2.mpr (by omega)
    rw [hA, pz_ot_all, pz_pw_one 9 (fun w _ => ?_)]
    · rfl
    · refine pz_nm_zero N (fun i hi => ?_)
      rw [Nat.testBit_two_pow_sub_one, decide_eq_true hi]
      rfl
  | succ r ih =>
    intro S hr hS hg
    have hA : S ≠ 2 ^ N - 1 := fun q => by
      have := (pz_cnt_le hN hS).2.mp q
      omega
    have hex : ∃ i, i < N ∧ (!S.testBit i) = true := by
      refine Classical.byContradiction (fun hne => hA ?_)
      refine Nat.eq_of_testBit_eq (fun i => ?_)
      rw [Nat.testBit_two_pow_sub_one]
      by_cases hi : i < N
      · rw [decide_eq_true hi]
        cases hb : S.testBit i with
        | true => rfl
        | false => exact absurd ⟨i, hi, by rw [hb]; rfl⟩ hne
      · rw [decide_eq_false hi]
        exact Nat.testBit_lt_two_pow (Nat.lt_of_lt_of_le hS (Nat.pow_le_pow_right (by decide) (by omega)))
    obtain ⟨t0, m1, m2, m3⟩ := pz_maxof (c := fun i => pz_cnt (L i)) N hex
    have m2' : S.testBit t0 = false := by
      cases hb : S.testBit t0 with
      | false => rfl
      | true => rw [hb] at m2; cases m2
    -- what one step leads to
    have hstep : ∀ t, t < N → S.testBit t = false → pz_ot N (pz_cl2 N L) (S ||| 2 ^ t) = if pz_cnt (L t) = pz_cnt (L t0) then ((pz_pw (pz_ow N L (S ||| 2 ^ t0)) 9 : Nat) : Int) else 0 := by
      intro t ht hbt
      have hcn := (pz_or_add (show S < 256 by omega) (show t < 8 by omega) hbt).2
      have hlt := pz_in_all hN hS ht
      have hle := m3 t ht (by rw [hbt]; rfl)
      by_cases hct : pz_cnt (L t) = pz_cnt (L t0)
      · rw [if_pos hct, ih (S ||| 2 ^ t) (by omega) hlt (fun u v hu hv hbu hbv => ?_)]
        · congr 1
          refine pz_pw_congr 9 (fun w _ => ?_)
          by_cases htt : t = t0
          · rw [htt]
          · -- both counts are one less than before
            have q1 : ∀ x, x < N → S.testBit x = false → pz_ow N L S (pz_cnt (L x)) = pz_ow N L (S ||| 2 ^ x) (pz_cnt (L x)) + 1 := by
              intro x hx hbx
              refine pz_nm_out (t := x) N hx ?_ ?_ (fun i hi hne => ?_)
              · simp [hbx]
              · rw [pz_or_bit]; simp
              · rw [pz_or_bit]
                have : ¬ (x = i) := fun q => hne q.symm
                simp [this]
            have q2 : ∀ x, x < N → ∀ w, w ≠ pz_cnt (L x) → pz_ow N L (S ||| 2 ^ x) w = pz_ow N L S w := by
              intro x hx w hw
              refine pz_nm_congr N (fun i hi => ?_)
              rw [pz_or_bit]
              by_cases hxi : x = i
              · subst hxi
                have : ¬ (pz_cnt (L x) = w) := fun q => hw q.symm
                simp [this]
              · simp [hxi]
            by_cases hw : w = pz_cnt (L t0)
            · have a1 := q1 t ht hbt
              have a2 := q1 t0 m1 m2'
              rw [hct] at a1
              rw [hw]
              omega
            · rw [q2 t ht w (by rw [hct]; exact hw), q2 t0 m1 w hw]
        · rw [pz_or_bit] at hbu hbv
          simp only [Bool.or_eq_false_iff, decide_eq_false_iff_not, Bool.or_eq_true, decide_eq_true_eq] at hbu hbv
          rcases hbv with q | q
          · exact hg u v hu hv hbu.1 q
          · rw [← q, hct]
            exact m3 u hu (by rw [hbu.1]; rfl)
      · rw [if_neg hct]
        refine pz_ot_Z hN m1 ht (fun q => ?_) (r : Nat) (S ||| 2 ^ t) (by omega) hlt ?_ ?_
        · have := (hsub t0 t m1 ht).mp q
          omega
        · rw [pz_or_bit, m2']
          have : ¬ (t = t0) := fun q => hct (by rw [q])
          simp [this]
        · rw [pz_or_bit]; simp
    rw [pz_ot_rec hN hS hA (fun t _ hc => pz_cl2_bit hc)]
    have hX := hstep t0 m1 m2'
    rw [if_pos rfl] at hX
    have hXb := pz_ot_bd hN (can := pz_cl2 N L) (S ||| 2 ^ t0)
    rw [hX] at hXb
    have hsum : ∀ (m i k : Nat), i + m = N → k ≤ i → pz_fo (fun t a => if pz_cl2 N L t S then px_wr (a + pz_ot N (pz_cl2 N L) (S ||| 2 ^ t)) else a) m i ((k : Int) * ((pz_pw (pz_ow N L (S ||| 2 ^ t0)) 9 : Nat) : Int)) = (((k + (pz_ow N L S (pz_cnt (L t0)) - pz_nm (fun i => !S.testBit i && decide (pz_cnt (L i) = pz_cnt (L t0))) i) : Nat) : Int)) * ((pz_pw (pz_ow N L (S ||| 2 ^ t0)) 9 : Nat) : Int) := by
      intro m
      induction m with
      | zero =>
        intro i k hi hk
        have : i = N := by omega
        subst this
        rw [pz_fo, show pz_ow i L S (pz_cnt (L t0)) = pz_nm (fun i => !S.testBit i && decide (pz_cnt (L i) = pz_cnt (L t0))) i from rfl, Nat.sub_self, Nat.add_zero]
      | succ m ih2 =>
        intro i k hi hk
        have hmono : pz_nm (fun i => !S.testBit i && decide (pz_cnt (L i) = pz_cnt (L t0))) (i + 1) ≤ pz_ow N L S (pz_cnt (L t0)) := by
          have : ∀ d, pz_nm (fun i => !S.testBit i && decide (pz_cnt (L i) = pz_cnt (L t0))) (i + 1) ≤ pz_nm (fun i => !S.testBit i && decide (pz_cnt (L i) = pz_cnt (L t0))) (i + 1 + d) := by
            intro d
            induction d with
            | zero => exact Nat.le_refl _
            | succ d ihd => exact Nat.le_trans ihd (by rw [show i + 1 + (d + 1) = i + 1 + d + 1 by omega, pz_nm]; omega)
          have h2 := this m
          rw [show i + 1 + m = N by omega] at h2
          exact h2
        rw [pz_nm] at hmono
        have hnm : pz_nm (fun i => !S.testBit i && decide (pz_cnt (L i) = pz_cnt (L t0))) (i + 1) = pz_nm (fun i => !S.testBit i && decide (pz_cnt (L i) = pz_cnt (L t0))) i + (if (!S.testBit i && decide (pz_cnt (L i) = pz_cnt (L t0))) then 1 else 0) := rfl
        rw [pz_fo]
        cases hbi : S.testBit i with
        | true =>
          have hcf : pz_cl2 N L i S = false := by
            cases hq : pz_cl2 N L i S with
            | false => rfl
            | true => rw [pz_cl2_bit hq] at hbi; cases hbi
          have h3 := ih2 (i + 1) k (by omega) (by omega)
          rw [hnm, hbi] at h3
          simp only [Bool.not_true, Bool.false_and, Bool.false_eq_true, if_false, Nat.add_zero] at h3
          simp only [hcf, Bool.false_eq_true, if_false]
          exact h3
        | false =>
          have hct : pz_cl2 N L i S = true := pz_cl2_of hbi (fun o ho hbo => (hsub i o (by omega) ho).mpr (hg i o (by omega) ho hbi hbo))
          simp only [hct, if_true]
          rw [hstep i (by omega) hbi]
          have hkb : (k : Int) * ((pz_pw (pz_ow N L (S ||| 2 ^ t0)) 9 : Nat) : Int) ≤ 8 * 16777216 := Int.mul_le_mul (by omega) hXb.2 (by omega) (by omega)
          have hk0 : 0 ≤ (k : Int) * ((pz_pw (pz_ow N L (S ||| 2 ^ t0)) 9 : Nat) : Int) := Int.mul_nonneg (by omega) (by omega)
          by_cases hci : pz_cnt (L i) = pz_cnt (L t0)
          · rw [if_pos hci, pz_wr_id (by omega) (by omega)]
            have h3 := ih2 (i + 1) (k + 1) (by omega) (by omega)
            rw [hnm, hbi] at h3
            simp only [Bool.not_false, Bool.true_and, hci, decide_true, if_true] at h3
            simp only [hbi, Bool.not_false, Bool.true_and, hci, decide_true, if_true] at hmono
            rw [show ((k + 1 : Nat) : Int) * ((pz_pw (pz_ow N L (S ||| 2 ^ t0)) 9 : Nat) : Int) = (k : Int) * ((pz_pw (pz_ow N L (S ||| 2 ^ t0)) 9 : Nat) : Int) + ((pz_pw (pz_ow N L (S ||| 2 ^ t0)) 9 : Nat) : Int) by rw [Int.natCast_add, Int.add_mul]; simp] at h3
            rw [h3]
            congr 2
            omega
          · rw [if_neg hci, pz_wr_id (by omega) (by omega), Int.add_zero]
            have h3 := ih2 (i + 1) k (by omega) (by omega)
            rw [hnm, hbi] at h3
            simp only [Bool.not_false, Bool.true_and, hci, decide_false, Bool.false_eq_true, if_false, Nat.add_zero] at h3
            exact h3
    have hs0 := hsum N 0 0 (by omega) (by omega)
    rw [show ((0 : Nat) : Int) * ((pz_pw (pz_ow N L (S ||| 2 ^ t0)) 9 : Nat) : Int) = 0 by simp] at hs0
    rw [hs0]
    -- the product
    have hone : pz_ow N L S (pz_cnt (L t0)) = pz_ow N L (S ||| 2 ^ t0) (pz_cnt (L t0)) + 1 := by
      refine pz_nm_out (t := t0) N m1 ?_ ?_ (fun i hi hne => ?_)
      · simp [m2']
      · rw [pz_or_bit]; simp
      · rw [pz_or_bit]
        have : ¬ (t0 = i) := fun q => hne q.symm
        simp [this]
    have hp := pz_pw_in (g := pz_ow N L S) (h := pz_ow N L (S ||| 2 ^ t0)) (w0 := pz_cnt (L t0)) 9 (pz_cnt9 _) hone (fun w _ hw => by
      refine pz_nm_congr N (fun i hi => ?_)
      rw [pz_or_bit]
      by_cases hxi : t0 = i
      · subst hxi
        have : ¬ (pz_cnt (L t0) = w) := fun q => hw q.symm
        simp [this]
      · simp [hxi])
    rw [hp, ← hone, pz_nm, Nat.sub_zero, Nat.zero_add, Int.natCast_mul]
