/-! TOKENS: the reference's way -/
def pt_bl (c : Int) : Bool := decide (c = 32) || decide (c = 10)
def pt_le (c : Int) : Bool := (decide (97 ≤ c) && decide (c ≤ 122)) || (decide (65 ≤ c) && decide (c ≤ 90))
def pt_di (c : Int) : Bool := decide (48 ≤ c) && decide (c ≤ 57)
def pt_to (p : Int → Bool) (b : Nat → Int) : Nat → Nat → Nat
  | 0, i => i
  | r + 1, i => if p (b i) = true then pt_to p b r (i + 1) else i
theorem pt_to_le {p : Int → Bool} {b : Nat → Int} : ∀ (r i : Nat), i ≤ pt_to p b r i ∧ pt_to p b r i ≤ i + r ∧ (∀ j, i ≤ j → j < pt_to p b r i → p (b j) = true) ∧ (pt_to p b r i < i + r → p (b (pt_to p b r i)) = false) := by
  intro r
  induction r with
  | zero => intro i; exact ⟨Nat.le_refl _, Nat.le_refl _, fun j h1 h2 => by rw [pt_to] at h2; omega, fun h => by rw [pt_to] at h; omega⟩
  | succ r ih =>
    intro i
    rw [pt_to]
    by_cases h : p (b i) = true
    · rw [if_pos h]
      obtain ⟨a1, a2, a3, a4⟩ := ih (i + 1)
      refine ⟨by omega, by omega, fun j h1 h2 => ?_, fun h2 => a4 (by omega)⟩
      by_cases h3 : j = i
      · rw [h3]; exact h
      · exact a3 j (by omega) h2
    · rw [if_neg h]
      refine ⟨Nat.le_refl _, by omega, fun j h1 h2 => by omega, fun _ => ?_⟩
      cases hh : p (b i)
      · rfl
      · exact absurd hh h
theorem pt_upc {s : px_Z} {k i c : Nat} {v : Int} (h : c ≠ k) : px_up s k i v c = s c := funext fun _ => if_neg (fun hh => h hh.1)
theorem pt_upi {s : px_Z} {k i : Nat} {v : Int} : px_up s k i v k i = v := if_pos ⟨rfl, rfl⟩
theorem pt_upn {s : px_Z} {k i c j : Nat} {v : Int} (h : ¬ (c = k ∧ j = i)) : px_up s k i v c j = s c j := if_neg h
theorem pt_raw {s : px_Z} {L i : Nat} {b : Nat → Int} (hL : s 150 13 = (L : Int)) (hb : s 156 = b) (h4 : L ≤ 400) : f_M_raw s (i : Int) = some (if i < L then b i else -1) := by
  unfold f_M_raw
  rw [hL, hb]
  by_cases h : i < L
  · rw [if_neg (by omega), if_pos ⟨Int.natCast_nonneg _, by omega⟩, if_pos h, Int.toNat_natCast]
  · rw [if_pos (by omega), if_neg h]
theorem pt_isL (s : px_Z) (c : Int) : f_M_isLetter s c = 0 ↔ pt_le c = false := by
  unfold f_M_isLetter f_M_isIn pt_le
  by_cases h1 : c < 97 <;> by_cases h2 : 122 < c <;> by_cases h3 : c < 65 <;> by_cases h4 : 90 < c <;> simp [*] <;> omega
theorem pt_isD (s : px_Z) (c : Int) : f_M_isDigit s c = 0 ↔ pt_di c = false := by
  unfold f_M_isDigit f_M_isIn pt_di
  by_cases h1 : c < 48 <;> by_cases h2 : 57 < c <;> simp [*] <;> omega
theorem pt_r0 {K : px_Z → Option px_Z} {L : Nat} {b : Nat → Int} (h4 : L ≤ 400) : ∀ (r n : Nat) (s : px_Z) (i : Nat), s 150 13 = (L : Int) → s 156 = b → s 150 14 = (i : Int) → i + r = L → r < n →
    ∃ u, l_M_reads_0 K n s = K u ∧ u 150 14 = (pt_to pt_bl b r i : Int) ∧ (∀ c k, ¬ (c = 150 ∧ k = 14) → u c k = s c k) := by
  intro r
  induction r with
  | zero =>
    intro n s i hL hb hi hr hn
    obtain ⟨n, rfl⟩ : ∃ m, n = m + 1 := ⟨n - 1, by omega⟩
    refine ⟨s, ?_, hi, fun _ _ _ => rfl⟩
    rw [l_M_reads_0, hi, pt_raw hL hb h4, if_neg (by omega), Option.bind_some, if_neg (by decide), Option.bind_some, if_neg (by decide)]
  | succ r ih =>
    intro n s i hL hb hi hr hn
    obtain ⟨n, rfl⟩ : ∃ m, n = m + 1 := ⟨n - 1, by omega⟩
    rw [l_M_reads_0, hi, pt_raw hL hb h4, if_pos (by omega), Option.bind_some, Option.bind_some, pz_wr_suc (by omega), pt_to]
    obtain ⟨u, a1, a2, a3⟩ := ih n (px_up s 150 14 ((i + 1 : Nat) : Int)) (i + 1) (by rw [pt_upn (by decide)]; exact hL) (by rw [pt_upc (by decide)]; exact hb) pt_upi (by omega) (by omega)
    have a3' : ∀ c k, ¬ (c = 150 ∧ k = 14) → u c k = s c k := fun c k h => (a3 c k h).trans (pt_upn h)
    by_cases h1 : b i = 32
    · rw [if_pos h1, if_pos (by rw [pt_bl, h1]; rfl)]
      exact ⟨u, a1, a2, a3'⟩
    · rw [if_neg h1]
      by_cases h2 : b i = 10
      · rw [if_pos h2, if_pos (by rw [pt_bl, h2]; rfl)]
        exact ⟨u, a1, a2, a3'⟩
      · rw [if_neg h2, if_neg (by rw [pt_bl, decide_eq_false h1, decide_eq_false h2]; decide)]
        exact ⟨s, rfl, hi, fun _ _ _ => rfl⟩
theorem pt_r51 {K : px_Z → Option px_Z} {L : Nat} {b : Nat → Int} (h4 : L ≤ 400) : ∀ (r n : Nat) (s : px_Z) (i : Nat), s 150 13 = (L : Int) → s 156 = b → s 150 14 = (i : Int) → i + r = L → r < n →
    ∃ u, l_M_reads_51 K n s = K u ∧ u 150 14 = (pt_to pt_le b r i : Int) ∧ (∀ c k, ¬ (c = 150 ∧ k = 14) → u c k = s c k) := by
  intro r
  induction r with
  | zero =>
    intro n s i hL hb hi hr hn
    obtain ⟨n, rfl⟩ : ∃ m, n = m + 1 := ⟨n - 1, by omega⟩
    refine ⟨s, ?_, hi, fun _ _ _ => rfl⟩
    rw [l_M_reads_51, hi, pt_raw hL hb h4, if_neg (by omega), Option.bind_some, if_pos ((pt_isL s _).mpr (by decide))]
  | succ r ih =>
    intro n s i hL hb hi hr hn
    obtain ⟨n, rfl⟩ : ∃ m, n = m + 1 := ⟨n - 1, by omega⟩
    rw [l_M_reads_51, hi, pt_raw hL hb h4, if_pos (by omega), Option.bind_some, pz_wr_suc (by omega), pt_to]
    obtain ⟨u, a1, a2, a3⟩ := ih n (px_up s 150 14 ((i + 1 : Nat) : Int)) (i + 1) (by rw [pt_upn (by decide)]; exact hL) (by rw [pt_upc (by decide)]; exact hb) pt_upi (by omega) (by omega)
    have a3' : ∀ c k, ¬ (c = 150 ∧ k = 14) → u c k = s c k := fun c k h => (a3 c k h).trans (pt_upn h)
    cases h1 : pt_le (b i)
    · rw [if_pos ((pt_isL s _).mpr h1), if_neg (by decide)]
      exact ⟨s, rfl, hi, fun _ _ _ => rfl⟩
    · rw [if_neg (fun h => by rw [pt_isL, h1] at h; cases h), if_pos rfl]
      exact ⟨u, a1, a2, a3'⟩
def pt_va (b : Nat → Int) : Nat → Nat → Int → Int
  | 0, _, a => a
  | r + 1, i, a => if pt_di (b i) = true then pt_va b r (i + 1) (if 10000 ≤ a then a else 10 * a + b i - 48) else a
theorem pt_diR {c : Int} (h : pt_di c = true) : 48 ≤ c ∧ c ≤ 57 := by
  unfold pt_di at h
  rw [Bool.and_eq_true, decide_eq_true_iff, decide_eq_true_iff] at h
  exact h
theorem pt_w90 {a c : Int} (h1 : 0 ≤ a) (h2 : a < 10000) (h3 : 48 ≤ c) (h4 : c ≤ 57) : px_wr (px_wr (px_wr (10 * a) + c) - 48) = 10 * a + c - 48 := by
  rw [pz_wr_id (x := 10 * a) (by omega) (by omega), pz_wr_id (x := 10 * a + c) (by omega) (by omega), pz_wr_id (by omega) (by omega)]
theorem pt_r90 {K : px_Z → Option px_Z} {L : Nat} {b : Nat → Int} (h4 : L ≤ 400) : ∀ (r n : Nat) (s : px_Z) (i : Nat) (a : Int), s 150 13 = (L : Int) → s 156 = b → s 150 14 = (i : Int) → s 150 17 = a → 0 ≤ a → a < 100000 → i + r = L → r < n →
    ∃ u, l_M_reads_90 K n s = K u ∧ u 150 14 = (pt_to pt_di b r i : Int) ∧ u 150 17 = pt_va b r i a ∧ (∀ c k, ¬ (c = 150 ∧ (k = 14 ∨ k = 17)) → u c k = s c k) := by
  intro r
  induction r with
  | zero =>
    intro n s i a hL hb hi ha _ _ hr hn
    obtain ⟨n, rfl⟩ : ∃ m, n = m + 1 := ⟨n - 1, by omega⟩
    refine ⟨s, ?_, hi, ha, fun _ _ _ => rfl⟩
    rw [l_M_reads_90, hi, pt_raw hL hb h4, if_neg (by omega), Option.bind_some, if_pos ((pt_isD s _).mpr (by decide))]
  | succ r ih =>
    intro n s i a hL hb hi ha ha1 ha2 hr hn
    obtain ⟨n, rfl⟩ : ∃ m, n = m + 1 := ⟨n - 1, by omega⟩
    rw [l_M_reads_90, hi, pt_raw hL hb h4, if_pos (by omega), Option.bind_some, Option.bind_some, pt_to, pt_va, ha]
    cases h1 : pt_di (b i)
    · rw [if_pos ((pt_isD s _).mpr h1), if_neg (by decide), if_neg (by decide)]
      exact ⟨s, rfl, hi, ha, fun _ _ _ => rfl⟩
    · have hd := pt_diR h1
      rw [if_neg (fun h => by rw [pt_isD, h1] at h; cases h), if_pos rfl, if_pos rfl]
      have key : ∀ a' : Int, 0 ≤ a' → a' < 100000 → ∃ u, l_M_reads_90 K n (px_up (px_up s 150 17 a') 150 14 ((i + 1 : Nat) : Int)) = K u ∧ u 150 14 = (pt_to pt_di b r (i + 1) : Int) ∧ u 150 17 = pt_va b r (i + 1) a' ∧ (∀ c k, ¬ (c = 150 ∧ (k = 14 ∨ k = 17)) → u c k = s c k) := by
        intro a' g1 g2
        obtain ⟨u, a1, a2, a3, a4⟩ := ih n (px_up (px_up s 150 17 a') 150 14 ((i + 1 : Nat) : Int)) (i + 1) a' (by rw [pt_upn (by decide), pt_upn (by decide)]; exact hL) (by rw [pt_upc (by decide), pt_upc (by decide)]; exact hb) pt_upi (by rw [pt_upn (by decide), pt_upi]) g1 g2 (by omega) (by omega)
        exact ⟨u, a1, a2, a3, fun c k h => by rw [a4 c k h, pt_upn (fun hh => h ⟨hh.1, Or.inl hh.2⟩), pt_upn (fun hh => h ⟨hh.1, Or.inr hh.2⟩)]⟩
      by_cases h2 : 10000 ≤ a
      · rw [if_pos h2, if_pos h2, pt_upn (by decide), hi, pz_wr_suc (by omega)]
        exact key a ha1 ha2
      · rw [if_neg h2, if_neg h2, pt_w90 ha1 (by omega) hd.1 hd.2, pt_upn (by decide), hi, pz_wr_suc (by omega)]
        exact key (10 * a + b i - 48) (by omega) (by omega)
