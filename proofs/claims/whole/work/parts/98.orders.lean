/-! ORDERS: in how many all can come -/
def pz_oc (n : Nat) (can : Nat → Nat → Bool) : Nat → Nat → Int
  | 0, S => if S = 2 ^ n - 1 then 1 else 0
  | r + 1, S => if S = 2 ^ n - 1 then 1 else pz_fo (fun t a => if can t S then px_wr (a + pz_oc n can r (S ||| 2 ^ t)) else a) n 0 0
def pz_ot (n : Nat) (can : Nat → Nat → Bool) (S : Nat) : Int := pz_oc n can (n - pz_cnt S) S
theorem pz_oc_bd {n : Nat} (hn : n ≤ 8) {can : Nat → Nat → Bool} : ∀ (r S : Nat), r ≤ 8 → 0 ≤ pz_oc n can r S ∧ pz_oc n can r S ≤ 8 ^ r := by
  intro r
  induction r with
  | zero =>
    intro S _
    rw [pz_oc]
    split <;> decide
  | succ r ih =>
    intro S hr
    rw [pz_oc]
    have h8 : (8 : Int) ^ r ≤ 16777216 ∧ 1 ≤ (8 : Int) ^ r := by
      rcases (show r = 0 ∨ r = 1 ∨ r = 2 ∨ r = 3 ∨ r = 4 ∨ r = 5 ∨ r = 6 ∨ r = 7 by omega) with rfl | rfl | rfl | rfl | rfl | rfl | rfl | rfl <;> decide +kernel
    rw [show (8 : Int) ^ (r + 1) = 8 ^ r * 8 from Int.pow_succ 8 r]
    split
    · omega
    · have hb : ∀ (m i : Nat) (a : Int), i + m = n → 0 ≤ a → a ≤ (i : Int) * 8 ^ r → 0 ≤ pz_fo (fun t a => if can t S then px_wr (a + pz_oc n can r (S ||| 2 ^ t)) else a) m i a ∧ pz_fo (fun t a => if can t S then px_wr (a + pz_oc n can r (S ||| 2 ^ t)) else a) m i a ≤ (n : Int) * 8 ^ r := by
        intro m
        induction m with
        | zero =>
          intro i a hi h0 h1
          rw [pz_fo, show n = i by omega]
          exact ⟨h0, h1⟩
        | succ m ih2 =>
          intro i a hi h0 h1
          rw [pz_fo]
          have hx := ih (S ||| 2 ^ i) (by omega)
          have hm : ((i + 1 : Nat) : Int) * 8 ^ r = (i : Int) * 8 ^ r + 8 ^ r := by
            rw [Int.natCast_add, Int.add_mul]; simp
          have hi8 : (i : Int) * 8 ^ r ≤ 8 * 8 ^ r := Int.mul_le_mul_of_nonneg_right (by omega) (by omega)
          split
          · rw [pz_wr_id (by omega) (by omega)]
            exact ih2 (i + 1) _ (by omega) (by omega) (by omega)
          · exact ih2 (i + 1) _ (by omega) h0 (by omega)
      have h3 := hb n 0 0 (by omega) (Int.le_refl 0) (by simp)
      have h4 : (n : Int) * 8 ^ r ≤ 8 * 8 ^ r := Int.mul_le_mul_of_nonneg_right (by omega) (by omega)
      omega
theorem pz_ot_bd {n : Nat} (hn : n ≤ 8) {can : Nat → Nat → Bool} (S : Nat) : 0 ≤ pz_ot n can S ∧ pz_ot n can S ≤ 16777216 := by
  have h := pz_oc_bd hn (can := can) (n - pz_cnt S) S (by omega)
  have h8 : (8 : Int) ^ (n - pz_cnt S) ≤ 16777216 := by
    rcases (show n - pz_cnt S = 0 ∨ n - pz_cnt S = 1 ∨ n - pz_cnt S = 2 ∨ n - pz_cnt S = 3 ∨ n - pz_cnt S = 4 ∨ n - pz_cnt S = 5 ∨ n - pz_cnt S = 6 ∨ n - pz_cnt S = 7 ∨ n - pz_cnt S = 8 by omega) with q | q | q | q | q | q | q | q | q <;> rw [q] <;> decide +kernel
  exact ⟨h.1, by unfold pz_ot; omega⟩
theorem pz_ot_all {n : Nat} {can : Nat → Nat → Bool} : pz_ot n can (2 ^ n - 1) = 1 := by
  unfold pz_ot
  cases n - pz_cnt (2 ^ n - 1) with
  | zero => rw [pz_oc, if_pos rfl]
  | succ r => rw [pz_oc, if_pos rfl]
theorem pz_ot_rec {n S : Nat} (hn : n ≤ 8) {can : Nat → Nat → Bool} (hS : S < 2 ^ n) (hA : S ≠ 2 ^ n - 1) (hc : ∀ t, t < n → can t S = true → S.testBit t = false) : pz_ot n can S = pz_fo (fun t a => if can t S then px_wr (a + pz_ot n can (S ||| 2 ^ t)) else a) n 0 0 := by
  have h1 := pz_cnt_le hn hS
  have hpw := pz_pow_le hn
  have h2 : pz_cnt S < n := by
    rcases Nat.lt_or_eq_of_le h1.1 with q | q
    · exact q
    · exact absurd (h1.2.mpr q) hA
  unfold pz_ot
  obtain ⟨r, hr⟩ : ∃ r, n - pz_cnt S = r + 1 := ⟨n - pz_cnt S - 1, by omega⟩
  rw [hr, pz_oc, if_neg hA]
  refine pz_fo_congr _ _ _ (fun t _ ht a => ?_)
  cases hct : can t S with
  | false => rfl
  | true =>
    have hb := hc t (by omega) hct
    have h3 := (pz_or_add (show S < 256 by omega) (show t < 8 by omega) hb).2
    rw [h3, show n - (pz_cnt S + 1) = r by omega]
/-- the next: the first that can and leads on -/
def pz_nx (n : Nat) (can : Nat → Nat → Bool) (S : Nat) : Option Nat := pz_fi (fun t => can t S && decide (pz_ot n can (S ||| 2 ^ t) ≠ 0)) n 0
def pz_at (n : Nat) (can : Nat → Nat → Bool) : Nat → Nat → Int
  | 0, S => match pz_nx n can S with
    | some t => (t : Int)
    | none => -1
  | k + 1, S => match pz_nx n can S with
    | some t => pz_at n can k (S ||| 2 ^ t)
    | none => -1
theorem pz_fo_zero {T : Nat → Int} {c : Nat → Bool} : ∀ (m i : Nat), (∀ j, i ≤ j → j < i + m → c j = true → T j = 0) → pz_fo (fun t a => if c t then px_wr (a + T t) else a) m i 0 = 0 := by
  intro m
  induction m with
  | zero => intro i _; rfl
  | succ m ih =>
    intro i h
    rw [pz_fo]
    have h0 : (if c i then px_wr (0 + T i) else (0 : Int)) = 0 := by
      split
      · rename_i hc
        rw [h i (Nat.le_refl _) (by omega) hc]
        decide
      · rfl
    rw [h0]
    exact ih (i + 1) (fun j h1 h2 => h j (by omega) (by omega))
theorem pz_nx_some {n S : Nat} (hn : n ≤ 8) {can : Nat → Nat → Bool} (hS : S < 2 ^ n) (hA : S ≠ 2 ^ n - 1) (hc : ∀ t, t < n → can t S = true → S.testBit t = false) (h0 : pz_ot n can S ≠ 0) : ∃ t, pz_nx n can S = some t ∧ t < n ∧ can t S = true ∧ pz_ot n can (S ||| 2 ^ t) ≠ 0 := by
  cases h : pz_nx n can S with
  | some t =>
    obtain ⟨_, h2, h3⟩ := pz_fi_some _ _ _ h
    simp only [Bool.and_eq_true, decide_eq_true_eq] at h3
    exact ⟨t, rfl, by omega, h3⟩
  | none =>
    exfalso
    refine h0 ?_
    rw [pz_ot_rec hn hS hA hc]
    refine pz_fo_zero n 0 (fun j _ h2 h3 => ?_)
    have := pz_fi_none _ _ h j (Nat.zero_le _) h2
    simp only [h3, Bool.true_and, decide_eq_false_iff_not, ne_eq, Decidable.not_not] at this
    exact this
theorem pz_nx_all {n : Nat} (hn : n ≤ 8) {can : Nat → Nat → Bool} (hc : ∀ t, t < n → can t (2 ^ n - 1) = true → (2 ^ n - 1).testBit t = false) : pz_nx n can (2 ^ n - 1) = none := by
  cases h : pz_nx n can (2 ^ n - 1) with
  | none => rfl
  | some t =>
    obtain ⟨_, h2, h3⟩ := pz_fi_some _ _ _ h
    simp only [Bool.and_eq_true, decide_eq_true_eq] at h3
    have h4 := hc t (by omega) h3.1
    rw [Nat.testBit_two_pow_sub_one, decide_eq_false_iff_not] at h4
    omega
/-- the reference's table -/
theorem pz_tabM {z : px_Z} {N : Nat} {x2 : Int} {can : Nat → Nat → Bool} (hN : N ≤ 8) (hb : ∀ t S : Nat, t < N → S < 2 ^ N → can t S = true → S.testBit t = false) (hcan : ∀ y, pz_ag [177] z y → ∀ t S : Nat, t < N → S < 2 ^ N → f_M_canFollow y (t : Int) (S : Int) x2 = some (if can t S then 1 else 0)) : ∃ y, f_M_findsOrders z (N : Int) x2 = some y ∧ pz_ag [177] z y ∧ (∀ S, S < 2 ^ N → y 177 S = pz_ot N can S) := by
  have hpw := pz_pow_le hN
  have hin : ∀ (K : px_Z → Int → Int → Int → Int → Option (px_Z)) (al : Int) (S : Nat), S < 2 ^ N → ∀ (r fu i : Nat) (y : px_Z), i + r = N → r < fu → pz_ag [177] z y → (∀ S', S < S' → S' < 2 ^ N → y 177 S' = pz_ot N can S') → ∃ y', l_M_findsOrders_22 K fu y (N : Int) x2 al (S : Int) (i : Int) = K y' (N : Int) x2 al (S : Int) ∧ pz_ag [177] z y' ∧ (∀ S', S' ≠ S → y' 177 S' = y 177 S') ∧ y' 177 S = pz_fo (fun t a => if can t S then px_wr (a + pz_ot N can (S ||| 2 ^ t)) else a) r i (y 177 S) := by
    intro K al S hS r
    induction r with
    | zero =>
      intro fu i y hi hf hy ht
      obtain ⟨f, rfl⟩ : ∃ f, fu = f + 1 := ⟨fu - 1, by omega⟩
      rw [l_M_findsOrders_22, if_pos (by omega)]
      exact ⟨y, rfl, hy, fun _ _ => rfl, rfl⟩
    | succ r ih =>
      intro fu i y hi hf hy ht
      obtain ⟨f, rfl⟩ : ∃ f, fu = f + 1 := ⟨fu - 1, by omega⟩
      rw [l_M_findsOrders_22, if_neg (by omega), hcan y hy i S (by omega) hS, Option.bind_some, pz_wr_suc (by omega), pz_fo, pz_i1]
      cases hc : can i S with
      | false =>
        simp only [Bool.false_eq_true, if_false]
        exact ih f (i + 1) y (by omega) (by omega) hy ht
      | true =>
        have hbit := hb i S (by omega) hS hc
        have hadd := (pz_or_add (show S < 256 by omega) (show i < 8 by omega) hbit).1
        have hp : 0 < 2 ^ i := Nat.two_pow_pos i
        have hlt : S ||| 2 ^ i < 2 ^ N := pz_in_all hN hS (by omega)
        simp only [if_true]
        rw [pz_add (show S < 256 by omega) (show i < 8 by omega), if_pos (by omega), if_pos (by omega), if_pos (by omega), Int.toNat_natCast, Int.toNat_natCast, ht (S ||| 2 ^ i) (by omega) hlt]
        obtain ⟨y', e, h1, h2, h3⟩ := ih f (i + 1) (px_up y 177 S (px_wr (y 177 S + pz_ot N can (S ||| 2 ^ i)))) (by omega) (by omega) (pz_ag_up hy (by decide)) (fun S' h4 h5 => by rw [pz_up_i (by omega)]; exact ht S' h4 h5)
        refine ⟨y', e, h1, fun S' hne => ?_, ?_⟩
        · rw [h2 S' hne, pz_up_i hne]
        · rw [h3, pz_up_s]
  have hout : ∀ (m fu : Nat) (y : px_Z), m ≤ 2 ^ N → m < fu → pz_ag [177] z y → (∀ S', m ≤ S' → S' < 2 ^ N → y 177 S' = pz_ot N can S') → ∃ y', l_M_findsOrders_8 fu y (N : Int) x2 ((2 ^ N - 1 : Nat) : Int) ((m : Int) - 1) = some y' ∧ pz_ag [177] z y' ∧ (∀ S, S < 2 ^ N → y' 177 S = pz_ot N can S) := by
    intro m
    induction m with
    | zero =>
      intro fu y hm hf hy ht
      obtain ⟨f, rfl⟩ : ∃ f, fu = f + 1 := ⟨fu - 1, by omega⟩
      rw [l_M_findsOrders_8, if_pos (by omega)]
      exact ⟨y, rfl, hy, fun S hS => ht S (Nat.zero_le _) hS⟩
    | succ m ih =>
      intro fu y hm hf hy ht
      obtain ⟨f, rfl⟩ : ∃ f, fu = f + 1 := ⟨fu - 1, by omega⟩
      have e1 : ((m + 1 : Nat) : Int) - 1 = (m : Int) := by omega
      have b : 0 ≤ (m : Int) ∧ (m : Int) < 256 := by omega
      have hmN : m < 2 ^ N := by omega
      have hK : ∀ v : Int, (pz_fo (fun t a => if can t m then px_wr (a + pz_ot N can (m ||| 2 ^ t)) else a) N 0 v = pz_ot N can m) → ∃ y', l_M_findsOrders_22 (fun s x1 x2 x3 x4 => l_M_findsOrders_8 f s x1 x2 x3 (px_wr (x4 + (-1)))) px_big (px_up y 177 m v) (N : Int) x2 ((2 ^ N - 1 : Nat) : Int) (m : Int) 0 = some y' ∧ pz_ag [177] z y' ∧ (∀ S, S < 2 ^ N → y' 177 S = pz_ot N can S) := by
        intro v hv
        obtain ⟨y1, q1, q2, q3, q4⟩ := hin (fun s x1 x2 x3 x4 => l_M_findsOrders_8 f s x1 x2 x3 (px_wr (x4 + (-1)))) ((2 ^ N - 1 : Nat) : Int) m hmN N px_big 0 (px_up y 177 m v) (by omega) (pz_big_lt (by omega)) (pz_ag_up hy (by decide)) (fun S' h1 h2 => by rw [pz_up_i (by omega)]; exact ht S' (by omega) h2)
        rw [show ((0 : Nat) : Int) = 0 from rfl] at q1
        rw [q1, pz_wr_id (x := (m : Int) + -1) (by omega) (by omega), show (m : Int) + -1 = (m : Int) - 1 by omega]
        refine ih f y1 (by omega) (by omega) q2 (fun S' h1 h2 => ?_)
        by_cases hS' : S' = m
        · rw [hS', q4, pz_up_s, hv]
        · rw [q3 S' hS', pz_up_i hS']
          exact ht S' (by omega) h2
      rw [l_M_findsOrders_8, e1, if_neg (by omega), Int.toNat_natCast]
      simp only [if_pos b]
      by_cases hall : m = 2 ^ N - 1
      · rw [if_pos (by omega)]
        refine hK 1 ?_
        have hnone : ∀ t, t < N → can t m = false := by
          intro t ht'
          cases hc : can t m with
          | false => rfl
          | true =>
            have h4 := hb t m ht' hmN hc
            rw [hall, Nat.testBit_two_pow_sub_one, decide_eq_false_iff_not] at h4
            omega
        rw [hall, pz_ot_all, ← hall]
        rw [pz_fo_congr (h := fun _ a => a) N 0 1 (fun j _ h2 a => by rw [hnone j (by omega)]; rfl)]
        clear hK hnone ht
        generalize N = k
        generalize (0 : Nat) = i0
        induction k generalizing i0 with
        | zero => rfl
        | succ k ih3 => rw [pz_fo]; exact ih3 _
      · rw [if_neg (by omega)]
        exact hK 0 (pz_ot_rec hN hmN hall (fun t ht' hc => hb t m ht' hmN hc)).symm
  obtain ⟨y, e, h1, h2⟩ := hout (2 ^ N) px_big z (Nat.le_refl _) (pz_big_lt (by omega)) pz_ag_rf (fun S' h1 h2 => by omega)
  refine ⟨y, ?_, h1, h2⟩
  unfold f_M_findsOrders
  rw [(pz_all hN).1]
  rw [show ((2 ^ N : Nat) : Int) - 1 = ((2 ^ N - 1 : Nat) : Int) by omega] at e
  exact e
/-- the reference's first order -/
theorem pz_atM {z : px_Z} {N : Nat} {x2 : Int} {can : Nat → Nat → Bool} (hN : N ≤ 8) (hb : ∀ t S : Nat, t < N → S < 2 ^ N → can t S = true → S.testBit t = false) (hcan : ∀ t S : Nat, t < N → S < 2 ^ N → f_M_canFollow z (t : Int) (S : Int) x2 = some (if can t S then 1 else 0)) (ht : ∀ S, S < 2 ^ N → z 177 S = pz_ot N can S) {H k : Nat} (hH : H < 2 ^ N) (h0 : pz_ot N can H ≠ 0) (hk : k + pz_cnt H < N) : f_M_orderedAt z (H : Int) (k : Int) x2 = some (pz_at N can k H) := by
  have hpw := pz_pow_le hN
  -- the search for the next
  have hin : ∀ (K : Int → Int → Int → Int → Int → Option Int) (pl kk : Int) (S t : Nat), S < 2 ^ N → pz_nx N can S = some t → ∀ (r fu i : Nat), i + r = t → r < fu → l_M_orderedAt_11 z K fu pl x2 (S : Int) (i : Int) kk = K pl x2 (S : Int) (t : Int) kk := by
    intro K pl kk S t hS hnx r
    obtain ⟨_, hn2, hn3⟩ := pz_fi_some _ _ _ hnx
    have hfirst := pz_fi_first _ _ _ hnx
    simp only [Bool.and_eq_true, decide_eq_true_eq] at hn3
    induction r with
    | zero =>
      intro fu i hi hf
      obtain ⟨f, rfl⟩ : ∃ f, fu = f + 1 := ⟨fu - 1, by omega⟩
      have hit : i = t := by omega
      subst hit
      have hlt : S ||| 2 ^ i < 2 ^ N := pz_in_all hN hS (by omega)
      rw [l_M_orderedAt_11, hcan i S (by omega) hS, Option.bind_some, pz_i1, hn3.1, if_pos rfl, pz_add (show S < 256 by omega) (show i < 8 by omega), if_pos (by omega), Int.toNat_natCast, ht _ hlt, if_neg hn3.2]
    | succ r ih =>
      intro fu i hi hf
      obtain ⟨f, rfl⟩ : ∃ f, fu = f + 1 := ⟨fu - 1, by omega⟩
      have hlt : S ||| 2 ^ i < 2 ^ N := pz_in_all hN hS (by omega)
      have hno := hfirst i (Nat.zero_le _) (by omega)
      rw [l_M_orderedAt_11, hcan i S (by omega) hS, Option.bind_some, pz_i1, pz_add (show S < 256 by omega) (show i < 8 by omega), if_pos (show 0 ≤ ((S ||| 2 ^ i : Nat) : Int) ∧ ((S ||| 2 ^ i : Nat) : Int) < 256 by omega), Int.toNat_natCast, ht _ hlt, pz_wr_suc (by omega)]
      cases hc : can i S with
      | false =>
        simp only [Bool.false_eq_true, if_false]
        exact ih f (i + 1) (by omega) (by omega)
      | true =>
        simp only [hc, Bool.true_and, decide_eq_false_iff_not, ne_eq, Decidable.not_not] at hno
        simp only [if_true, if_pos hno]
        exact ih f (i + 1) (by omega) (by omega)
  have hout : ∀ (r fu i S : Nat) (t0 : Int), i + r = k → r + 1 < fu → S < 2 ^ N → pz_ot N can S ≠ 0 → r + pz_cnt S < N → l_M_orderedAt_6 z fu (k : Int) x2 (S : Int) t0 (i : Int) = some (pz_at N can r S) := by
    intro r
    induction r with
    | zero =>
      intro fu i S t0 hi hf hS hS0 hc
      obtain ⟨f, rfl⟩ : ∃ f, fu = f + 1 + 1 := ⟨fu - 2, by omega⟩
      have hA : S ≠ 2 ^ N - 1 := fun q => by
        have := (pz_cnt_le hN hS).2.mp q
        omega
      obtain ⟨t, e, h1, h2, h3⟩ := pz_nx_some hN hS hA (fun t ht' hc' => hb t S ht' hS hc') hS0
      rw [l_M_orderedAt_6, if_neg (by omega)]
      have h4 := hin (fun x2 x3 x4 x5 x6 => l_M_orderedAt_6 z (f + 1) x2 x3 (px_or (x4) ((px_shl (1) (x5)))) x5 (px_wr (x6 + 1))) (k : Int) (i : Int) S t hS e t px_big 0 (by omega) (pz_big_lt (by omega))
      rw [show ((0 : Nat) : Int) = 0 from rfl] at h4
      rw [h4, l_M_orderedAt_6, pz_wr_suc (by omega), if_pos (by omega), pz_at, e]
    | succ r ih =>
      intro fu i S t0 hi hf hS hS0 hc
      obtain ⟨f, rfl⟩ : ∃ f, fu = f + 1 := ⟨fu - 1, by omega⟩
      have hA : S ≠ 2 ^ N - 1 := fun q => by
        have := (pz_cnt_le hN hS).2.mp q
        omega
      obtain ⟨t, e, h1, h2, h3⟩ := pz_nx_some hN hS hA (fun t ht' hc' => hb t S ht' hS hc') hS0
      have hbit := hb t S h1 hS h2
      have hcn := (pz_or_add (show S < 256 by omega) (show t < 8 by omega) hbit).2
      rw [l_M_orderedAt_6, if_neg (by omega)]
      have h4 := hin (fun x2 x3 x4 x5 x6 => l_M_orderedAt_6 z f x2 x3 (px_or (x4) ((px_shl (1) (x5)))) x5 (px_wr (x6 + 1))) (k : Int) (i : Int) S t hS e t px_big 0 (by omega) (pz_big_lt (by omega))
      rw [show ((0 : Nat) : Int) = 0 from rfl] at h4
      rw [h4, pz_wr_suc (by omega), pz_add (show S < 256 by omega) (show t < 8 by omega), pz_at, e]
      exact ih f (i + 1) (S ||| 2 ^ t) (t : Int) (by omega) (by omega) (pz_in_all hN hS h1) h3 (by omega)
  exact hout k px_big 0 H (-1) (by omega) (pz_big_lt (by omega)) hH h0 hk
