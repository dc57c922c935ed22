/-! TOKENS: the class's way -/
theorem pt_isC (s : px_Z) (c : Int) : f_Reader_isLetter s c = 0 ↔ pt_le c = false := by
  unfold f_Reader_isLetter pt_le
  by_cases h1 : c < 97 <;> by_cases h2 : c ≤ 122 <;> by_cases h3 : c < 65 <;> by_cases h4 : 90 < c <;> simp [*] <;> omega
theorem pt_add {s : px_Z} {T : Nat} (hT : s 121 3 = (T : Int)) (h : T ≤ 400) (k v w : Int) : ∃ u, f_Reader_addToken s k v w = some u ∧ u 122 T = k ∧ u 123 T = v ∧ u 124 T = w ∧ u 121 3 = ((T + 1 : Nat) : Int) ∧ (∀ c j, ¬ (c = 121 ∧ j = 3) → ¬ (122 ≤ c ∧ c ≤ 124 ∧ j = T) → u c j = s c j) := by
  unfold f_Reader_addToken
  have g1 : px_up s 122 T k 121 3 = (T : Int) := by rw [pt_upn (by omega)]; exact hT
  have g2 : px_up (px_up s 122 T k) 123 T v 121 3 = (T : Int) := by rw [pt_upn (by omega)]; exact g1
  have g3 : px_up (px_up (px_up s 122 T k) 123 T v) 124 T w 121 3 = (T : Int) := by rw [pt_upn (by omega)]; exact g2
  rw [hT, if_neg (by omega), if_pos ⟨Int.natCast_nonneg _, by omega⟩, Int.toNat_natCast, g1, if_pos ⟨Int.natCast_nonneg _, by omega⟩, Int.toNat_natCast, g2, if_pos ⟨Int.natCast_nonneg _, by omega⟩, Int.toNat_natCast, g3, pz_wr_suc (by omega)]
  refine ⟨_, rfl, ?_, ?_, ?_, pt_upi, ?_⟩
  · rw [pt_upn (by omega), pt_upn (by omega), pt_upn (by omega), pt_upi]
  · rw [pt_upn (by omega), pt_upn (by omega), pt_upi]
  · rw [pt_upn (by omega), pt_upi]
  · intro c j h1 h2
    rw [pt_upn h1, pt_upn (by omega), pt_upn (by omega), pt_upn (by omega)]
theorem pt_c16 {s : px_Z} {L : Nat} {b : Nat → Int} (hb : ∀ k, k < 400 → s 120 k = b k) (h4 : L ≤ 400) {K : px_Z → Int → Int → Int → Int → Option (Int × px_Z)} {x2 x4 : Int} : ∀ (r n i : Nat), i + r = L → r < n → l_Reader_splitOne_16 K n s x2 (L : Int) x4 (i : Int) = K s x2 (L : Int) x4 (pt_to pt_le b r i : Int) := by
  intro r
  induction r with
  | zero =>
    intro n i hi hn
    obtain ⟨n, rfl⟩ : ∃ m, n = m + 1 := ⟨n - 1, by omega⟩
    rw [l_Reader_splitOne_16, if_pos (by omega), pt_to]
  | succ r ih =>
    intro n i hi hn
    obtain ⟨n, rfl⟩ : ∃ m, n = m + 1 := ⟨n - 1, by omega⟩
    rw [l_Reader_splitOne_16, if_neg (by omega), if_pos ⟨Int.natCast_nonneg _, by omega⟩, Int.toNat_natCast, hb i (by omega), pt_to]
    cases h1 : pt_le (b i)
    · rw [if_pos ((pt_isC _ _).mpr h1), if_neg (by decide)]
    · rw [if_neg (fun h => by rw [pt_isC, h1] at h; cases h), if_pos rfl, pz_wr_suc (by omega)]
      exact ih n (i + 1) (by omega) (by omega)
theorem pt_w41 {a c : Int} (h1 : 0 ≤ a) (h2 : a < 10000) (h3 : 48 ≤ c) (h4 : c ≤ 57) : px_wr (px_wr (px_wr (a * 10) + c) - 48) = 10 * a + c - 48 := by
  rw [pz_wr_id (x := a * 10) (by omega) (by omega), pz_wr_id (x := a * 10 + c) (by omega) (by omega), pz_wr_id (by omega) (by omega)]; omega
theorem pt_c41 {s : px_Z} {L : Nat} {b : Nat → Int} (hb : ∀ k, k < 400 → s 120 k = b k) (h4 : L ≤ 400) {K : px_Z → Int → Int → Int → Int → Option (Int × px_Z)} {x2 : Int} {x4 : Int} (f : Nat) : ∀ (r n m : Nat) (a : Int), f + m + r = L → r < n → ((m ≤ 0 → a < 1) ∧ (m ≤ 1 → a < 10) ∧ (m ≤ 2 → a < 100) ∧ (m ≤ 3 → a < 1000) ∧ (m ≤ 4 → 0 ≤ a ∧ a < 10000)) →
    ∃ y, l_Reader_splitOne_41 K n s x2 (L : Int) x4 ((f + m : Nat) : Int) a = K s x2 x4 (pt_to pt_di b r (f + m) : Int) y ∧ (pt_to pt_di b r (f + m) ≤ f + 4 → y = pt_va b r (f + m) a) := by
  intro r
  induction r with
  | zero =>
    intro n m a hi hn ha
    obtain ⟨n, rfl⟩ : ∃ m, n = m + 1 := ⟨n - 1, by omega⟩
    refine ⟨a, ?_, fun _ => by rw [pt_va]⟩
    rw [l_Reader_splitOne_41, if_pos (by omega), pt_to]
  | succ r ih =>
    intro n m a hi hn ha
    obtain ⟨n, rfl⟩ : ∃ m, n = m + 1 := ⟨n - 1, by omega⟩
    have hp : (0 : Int) ≤ ((f + m : Nat) : Int) ∧ ((f + m : Nat) : Int) < 400 := ⟨Int.natCast_nonneg _, by omega⟩
    rw [l_Reader_splitOne_41, if_neg (by omega), if_pos hp, if_pos hp, if_pos hp, Int.toNat_natCast, hb (f + m) (by omega), pt_to, pt_va]
    cases h1 : pt_di (b (f + m))
    · have h2 : b (f + m) < 48 ∨ 57 < b (f + m) := by
        unfold pt_di at h1
        rw [Bool.and_eq_false_iff, decide_eq_false_iff_not, decide_eq_false_iff_not] at h1
        omega
      refine ⟨a, ?_, fun _ => by rw [if_neg (by decide)]⟩
      rw [if_neg (by decide : ¬ false = true)]
      by_cases h3 : b (f + m) < 48
      · rw [if_pos h3]
      · rw [if_neg h3, if_pos (by omega)]
    · have hd := pt_diR h1
      rw [if_neg (by omega), if_neg (by omega), if_pos rfl, if_pos rfl]
      have hx : ∃ y, px_wr (px_wr (px_wr (a * 10) + b (f + m)) - 48) = y ∧ (m + 1 ≤ 4 → y = 10 * a + b (f + m) - 48) := by
        by_cases h5 : m + 1 ≤ 4
        · exact ⟨_, pt_w41 (by omega) (by omega) hd.1 hd.2, fun _ => rfl⟩
        · exact ⟨_, rfl, fun h => absurd h h5⟩
      obtain ⟨y, hy, hy'⟩ := hx
      rw [hy, pz_wr_suc (by omega)]
      clear hy
      have hto := pt_to_le (p := pt_di) (b := b) r (f + m + 1)
      obtain ⟨z, z1, z2⟩ := ih n (m + 1) y (by omega) (by omega) (by
        refine ⟨fun h => by omega, fun h => ?_, fun h => ?_, fun h => ?_, fun h => ?_⟩ <;> (have := hy' (by omega)) <;> omega)
      refine ⟨z, z1, fun h => ?_⟩
      have h6 : m + 1 ≤ 4 := by omega
      have h7 : f + (m + 1) = f + m + 1 := by omega
      rw [h7] at z2
      rw [z2 h, hy' h6, if_neg (by omega)]
