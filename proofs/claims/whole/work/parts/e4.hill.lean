/-! TEXT: lines of THE HILLS -/
theorem pt_vaR {b : Nat → Int} : ∀ (r i k : Nat) (a : Int), 0 ≤ a → (a + 1) * (10 : Int) ^ k ≤ 10000 → pt_to pt_di b r i ≤ i + k → 0 ≤ pt_va b r i a ∧ pt_va b r i a ≤ 9999 := by
  have base : ∀ (k : Nat) (a : Int), 0 ≤ a → (a + 1) * (10 : Int) ^ k ≤ 10000 → a ≤ 9999 := by
    intro k a h1 h2
    have hp : (0 : Int) < (10 : Int) ^ k := Int.pow_pos (by decide)
    have h3 := Int.mul_le_mul_of_nonneg_left (show (1 : Int) ≤ (10 : Int) ^ k by omega) (show 0 ≤ a + 1 by omega)
    have h4 := Int.le_trans h3 h2
    omega
  intro r
  induction r with
  | zero => intro i k a h1 h2 _; rw [pt_va]; exact ⟨h1, base k a h1 h2⟩
  | succ r ih =>
    intro i k a h1 h2 h3
    rw [pt_va]
    rw [pt_to] at h3
    by_cases hd : pt_di (b i) = true
    · rw [if_pos hd] at h3 ⊢
      have hr := pt_diR hd
      have hto := (pt_to_le (p := pt_di) (b := b) r (i + 1)).1
      obtain ⟨k, rfl⟩ : ∃ m, k = m + 1 := ⟨k - 1, by omega⟩
      have ha := base (k + 1) a h1 h2
      rw [if_neg (by omega)]
      refine ih (i + 1) k _ (by omega) ?_ (by omega)
      rw [Int.pow_succ] at h2
      have hp : (0 : Int) < (10 : Int) ^ k := Int.pow_pos (by decide)
      have h5 := Int.mul_le_mul_of_nonneg_right (show 10 * a + b i - 48 + 1 ≤ (a + 1) * 10 by omega) (Int.le_of_lt hp)
      rw [Int.mul_assoc, Int.mul_comm 10 ((10 : Int) ^ k)] at h5
      exact Int.le_trans h5 h2
    · rw [if_neg hd]; exact ⟨h1, base k a h1 h2⟩
theorem pt_mwR {b : Nat → Int} {L i : Nat} (h : pt_ck b L i = 1) : 0 ≤ pt_mw b L i ∧ pt_mw b L i ≤ 9999 := by
  unfold pt_ck at h
  by_cases hi : i < L
  · rw [if_pos hi] at h
    cases hle : pt_le (b i)
    · rw [hle, if_neg (by decide)] at h
      cases hdi : pt_di (b i)
      · rw [hdi, if_neg (by decide)] at h
        cases hsg : pt_sg (b i)
        · rw [hsg, if_neg (by decide)] at h; exact absurd h (by decide)
        · rw [hsg, if_pos rfl] at h; rw [h] at hsg; exact absurd hsg (by decide)
      · rw [hdi, if_pos rfl] at h
        by_cases h5 : pt_en b L i < i + 5
        · have hd := pt_diR hdi
          have e0 : pt_en b L i = pt_to pt_di b (L - (i + 1)) (i + 1) := by rw [pt_en, if_pos hi, hle, if_neg (by decide), hdi, if_pos rfl]
          have e3 : (10 : Int) ^ 3 = 1000 := rfl
          rw [pt_mw, hle, if_neg (by decide), hdi, if_pos rfl]
          exact pt_vaR _ _ 3 _ (by omega) (by rw [e3]; omega) (by omega)
        · rw [if_neg h5] at h; exact absurd h (by decide)
    · rw [hle, if_pos rfl] at h
      cases hh : pt_ix b i (pt_en b L i) pt_ws 0 with
      | none => rw [hh] at h; exact absurd h (by decide)
      | some k => rw [hh] at h; simp only [pt_kv] at h; omega
  · rw [if_neg hi] at h; exact absurd h (by decide)
theorem pt_A_up {u : px_Z} {b : Nat → Int} {L T t : Nat} (h : pt_A u b L T t) {c k : Nat} {x : Int} (hc : ¬ (122 ≤ c ∧ c ≤ 124)) (hk : ¬ (c = 121 ∧ (k = 3 ∨ k = 4 ∨ k = 7 ∨ k = 8))) : pt_A (px_up u c k x) b L T t :=
  pt_A_of h (fun j hj => pt_upn (by omega)) (fun d j h1 h2 => pt_upn (by omega))
theorem pt_B_of {z w : px_Z} {b : Nat → Int} {L i : Nat} (h : pt_B z b L i) (h1 : ∀ j, 13 ≤ j → j ≤ 17 → w 150 j = z 150 j) (h2 : ∀ j, w 156 j = z 156 j) (h3 : ∀ j, w 157 j = z 157 j) : pt_B w b L i := by
  obtain ⟨a1, a2, a3, a4, a5, a6, a7, a8, a9, a10⟩ := h
  refine ⟨(h1 13 (by omega) (by omega)).trans a1, a2, (funext h2).trans a3, a4, fun k hk => (h3 k).trans (a5 k hk), a6, (h1 14 (by omega) (by omega)).trans a7, (h1 15 (by omega) (by omega)).trans a8, (h1 16 (by omega) (by omega)).trans a9, fun h => (h1 17 (by omega) (by omega)).trans (a10 h)⟩
theorem pt_B_up {z : px_Z} {b : Nat → Int} {L i : Nat} (h : pt_B z b L i) {c k : Nat} {x : Int} (hc : c ≠ 156 ∧ c ≠ 157) (hk : ¬ (c = 150 ∧ 13 ≤ k ∧ k ≤ 17)) : pt_B (px_up z c k x) b L i :=
  pt_B_of h (fun j h1 h2 => pt_upn (by omega)) (fun j => pt_upn (by omega)) (fun j => pt_upn (by omega))
theorem pt_tol {u z : px_Z} {b : Nat → Int} {L T t : Nat} (hA : pt_A u b L T t) (hB : pt_B z b L (pt_st b L t)) (h0 : u 121 7 = 0) {j : Nat} (hj : j < 28) {k m : Int} (hk : k = 256 + (j : Int)) (hm : m = (pt_pe j : Int)) {lo hi : Int} (hlo : 0 ≤ lo) : ∃ v1 v w r x, f_Reader_expect u k = some v1 ∧ f_Reader_numberWithin v1 lo hi = some (x, v) ∧ f_M_readTold z m lo hi = some (r, w) ∧ pt_fa u v ∧ pt_fb z w ∧ pt_out b L T (t + 2) v w r ∧ (v 121 7 = 0 → x = r ∧ lo ≤ r ∧ r ≤ hi) := by
  subst hk; subst hm
  exact pt_told hA hB h0 hj hlo
/-- after a fault: it stays -/
def pt_dead (b : Nat → Int) (L T : Nat) (u v : px_Z) : Prop := v 121 7 = u 121 7 ∧ v 121 8 = u 121 8 ∧ (∃ t, pt_A v b L T t)
def pt_fhn (n : Nat) (u v : px_Z) : Prop := ∀ c j, ¬ (c = 121 ∧ (j = 4 ∨ j = 7 ∨ j = 8)) → c ≠ 132 → ¬ (133 ≤ c ∧ c ≤ 137 ∧ j = n) → v c j = u c j
def pt_ghn (n : Nat) (z w : px_Z) : Prop := ∀ c j, ¬ (c = 150 ∧ ((14 ≤ j ∧ j ≤ 17) ∨ j = 31 ∨ j = 32)) → ¬ (c = 166 ∧ 120 + 5 * n ≤ j ∧ j < 125 + 5 * n) → w c j = z c j
theorem pt_addPass {s : px_Z} {n : Nat} (h : s 132 0 = (n : Int)) (hn : n < 24) (x1 x2 x3 x4 : Int) : ∃ v, f_Hills_addPass s x1 x2 x3 x4 = some v ∧ v 132 0 = ((n + 1 : Nat) : Int) ∧ v 133 n = -1 ∧ v 134 n = x1 ∧ v 135 n = x2 ∧ v 136 n = x3 ∧ v 137 n = x4 ∧ (∀ c j, c ≠ 132 → ¬ (133 ≤ c ∧ c ≤ 137 ∧ j = n) → v c j = s c j) := by
  have g : 0 ≤ (n : Int) ∧ (n : Int) < 24 := by omega
  refine ⟨px_up (px_up (px_up (px_up (px_up (px_up s 133 n (-1)) 134 n x1) 135 n x2) 136 n x3) 137 n x4) 132 0 ((n + 1 : Nat) : Int), ?_, pt_upi, ?_, ?_, ?_, ?_, ?_, ?_⟩
  · unfold f_Hills_addPass
    simp only [pt_upc, ne_eq, Nat.reduceEqDiff, not_false_eq_true, h, if_pos g, Int.toNat_natCast]
    rw [if_neg (by omega), pz_wr_suc (by omega)]
  · rw [pt_upn (by omega), pt_upn (by omega), pt_upn (by omega), pt_upn (by omega), pt_upn (by omega), pt_upi]
  · rw [pt_upn (by omega), pt_upn (by omega), pt_upn (by omega), pt_upn (by omega), pt_upi]
  · rw [pt_upn (by omega), pt_upn (by omega), pt_upn (by omega), pt_upi]
  · rw [pt_upn (by omega), pt_upn (by omega), pt_upi]
  · rw [pt_upn (by omega), pt_upi]
  · intro c j h1 h2
    rw [pt_upn (by omega), pt_upn (by omega), pt_upn (by omega), pt_upn (by omega), pt_upn (by omega), pt_upn (by omega)]
theorem pt_addCave {s : px_Z} {n : Nat} (h : s 132 0 = (n : Int)) (hn : n < 24) (x1 x2 : Int) : ∃ v, f_Hills_addCave s x1 x2 = some v ∧ v 132 0 = ((n + 1 : Nat) : Int) ∧ v 133 n = x1 ∧ v 134 n = x2 ∧ (∀ c j, c ≠ 132 → ¬ (133 ≤ c ∧ c ≤ 137 ∧ j = n) → v c j = s c j) := by
  have g : 0 ≤ (n : Int) ∧ (n : Int) < 24 := by omega
  refine ⟨px_up (px_up (px_up s 133 n x1) 134 n x2) 132 0 ((n + 1 : Nat) : Int), ?_, pt_upi, ?_, ?_, ?_⟩
  · unfold f_Hills_addCave
    simp only [pt_upc, ne_eq, Nat.reduceEqDiff, not_false_eq_true, h, if_pos g, Int.toNat_natCast]
    rw [if_neg (by omega), pz_wr_suc (by omega)]
  · rw [pt_upn (by omega), pt_upn (by omega), pt_upi]
  · rw [pt_upn (by omega), pt_upi]
  · intro c j h1 h2
    rw [pt_upn (by omega), pt_upn (by omega), pt_upn (by omega)]
def pt_p5 (x1 x2 x3 x4 : Int) (q : px_Z) : Option px_Z := (f_Hills_addPass q x1 x2 x3 x4).bind (fun q10 => (f_Reader_expect q10 59).bind (fun q11 => some q11))
def pt_p4 (x1 x2 x3 : Int) (q : px_Z) : Option px_Z := (f_Reader_expect q 276).bind (fun q8 => (f_Reader_numberWithin q8 0 5).bind (fun q9 => pt_p5 x1 x2 x3 q9.1 q9.2))
def pt_p3 (x1 x2 : Int) (q : px_Z) : Option px_Z := (f_Reader_expect q 275).bind (fun q6 => (f_Reader_numberWithin q6 x2 60).bind (fun q7 => pt_p4 x1 x2 q7.1 q7.2))
def pt_p2 (x1 : Int) (q : px_Z) : Option px_Z := (f_Reader_expect q 274).bind (fun q4 => (f_Reader_numberWithin q4 0 60).bind (fun q5 => pt_p3 x1 q5.1 q5.2))
def pt_c3 (x1 x2 : Int) (q : px_Z) : Option px_Z := (f_Hills_addCave q x1 x2).bind (fun q14 => (f_Reader_expect q14 59).bind (fun q15 => some q15))
def pt_c2 (x1 : Int) (q : px_Z) : Option px_Z := (f_Reader_expect q 278).bind (fun q12 => (f_Reader_numberWithin q12 0 5).bind (fun q13 => pt_c3 x1 q13.1 q13.2))
theorem pt_hill0 (s : px_Z) : f_Reader_readHill s 0 = (f_Reader_numberWithin s 0 5).bind (fun q => pt_p2 q.1 q.2) := rfl
theorem pt_hill1 (s : px_Z) : f_Reader_readHill s 1 = (f_Reader_numberWithin s 0 7).bind (fun q => pt_c2 q.1 q.2) := rfl
/-- expect and a number, after a fault -/
theorem pt_enD {u : px_Z} {b : Nat → Int} {L T : Nat} (hA : ∃ t, pt_A u b L T t) (h0 : u 121 7 ≠ 0) (k lo hi : Int) : ∃ v1 x v, f_Reader_expect u k = some v1 ∧ f_Reader_numberWithin v1 lo hi = some (x, v) ∧ pt_dead b L T u v ∧ pt_fa u v := by
  obtain ⟨t, hA⟩ := hA
  obtain ⟨v1, a1, ⟨t1, a2⟩, a3⟩ := pt_expectD hA h0 k
  obtain ⟨x, v, b1, b2, b3⟩ := pt_numbD a2 (by rw [a3 121 7 (by omega)]; exact h0) lo hi
  exact ⟨v1, x, v, a1, b1, ⟨(b3 121 7 (by omega)).trans (a3 121 7 (by omega)), (b3 121 8 (by omega)).trans (a3 121 8 (by omega)), b2⟩, fun c j hh => (b3 c j (by omega)).trans (a3 c j (by omega))⟩
theorem pt_d5 {u : px_Z} {b : Nat → Int} {L T n : Nat} (hA : ∃ t, pt_A u b L T t) (h0 : u 121 7 ≠ 0) (hn : u 132 0 = (n : Int)) (hn4 : n < 24) (x1 x2 x3 x4 : Int) : ∃ v, pt_p5 x1 x2 x3 x4 u = some v ∧ pt_dead b L T u v ∧ pt_fhn n u v := by
  obtain ⟨t, hA⟩ := hA
  obtain ⟨s, e1, _, _, _, _, _, _, e2⟩ := pt_addPass hn hn4 x1 x2 x3 x4
  have hs : pt_A s b L T t := pt_A_of hA (fun j hj => e2 121 j (by omega) (by omega)) (fun c j h1 h2 => e2 c j (by omega) (by omega))
  obtain ⟨v, a1, a2, a3⟩ := pt_expectD hs (by rw [e2 121 7 (by omega) (by omega)]; exact h0) 59
  unfold pt_p5
  rw [e1, Option.bind_some, a1, Option.bind_some]
  exact ⟨v, rfl, ⟨(a3 121 7 (by omega)).trans (e2 121 7 (by omega) (by omega)), (a3 121 8 (by omega)).trans (e2 121 8 (by omega) (by omega)), a2⟩, fun c j g1 g2 g3 => (a3 c j (by omega)).trans (e2 c j g2 g3)⟩
theorem pt_dc3 {u : px_Z} {b : Nat → Int} {L T n : Nat} (hA : ∃ t, pt_A u b L T t) (h0 : u 121 7 ≠ 0) (hn : u 132 0 = (n : Int)) (hn4 : n < 24) (x1 x2 : Int) : ∃ v, pt_c3 x1 x2 u = some v ∧ pt_dead b L T u v ∧ pt_fhn n u v := by
  obtain ⟨t, hA⟩ := hA
  obtain ⟨s, e1, _, _, _, e2⟩ := pt_addCave hn hn4 x1 x2
  have hs : pt_A s b L T t := pt_A_of hA (fun j hj => e2 121 j (by omega) (by omega)) (fun c j h1 h2 => e2 c j (by omega) (by omega))
  obtain ⟨v, a1, a2, a3⟩ := pt_expectD hs (by rw [e2 121 7 (by omega) (by omega)]; exact h0) 59
  unfold pt_c3
  rw [e1, Option.bind_some, a1, Option.bind_some]
  exact ⟨v, rfl, ⟨(a3 121 7 (by omega)).trans (e2 121 7 (by omega) (by omega)), (a3 121 8 (by omega)).trans (e2 121 8 (by omega) (by omega)), a2⟩, fun c j g1 g2 g3 => (a3 c j (by omega)).trans (e2 c j g2 g3)⟩
theorem pt_dtr {u v w : px_Z} {b : Nat → Int} {L T n : Nat} (h1 : pt_dead b L T u v) (h2 : pt_fa u v) (h3 : pt_dead b L T v w) (h4 : pt_fhn n v w) : pt_dead b L T u w ∧ pt_fhn n u w :=
  ⟨⟨h3.1.trans h1.1, h3.2.1.trans h1.2.1, h3.2.2⟩, fun c j g1 g2 g3 => (h4 c j g1 g2 g3).trans (h2 c j g1)⟩
theorem pt_d4 {u : px_Z} {b : Nat → Int} {L T n : Nat} (hA : ∃ t, pt_A u b L T t) (h0 : u 121 7 ≠ 0) (hn : u 132 0 = (n : Int)) (hn4 : n < 24) (x1 x2 x3 : Int) : ∃ v, pt_p4 x1 x2 x3 u = some v ∧ pt_dead b L T u v ∧ pt_fhn n u v := by
  obtain ⟨v1, x, v, a1, a2, a3, a4⟩ := pt_enD hA h0 276 0 5
  obtain ⟨w, b1, b2, b3⟩ := pt_d5 a3.2.2 (by rw [a3.1]; exact h0) ((a4 132 0 (by omega)).trans hn) hn4 x1 x2 x3 x
  unfold pt_p4
  rw [a1, Option.bind_some, a2, Option.bind_some]
  exact ⟨w, b1, pt_dtr a3 a4 b2 b3⟩
theorem pt_d3 {u : px_Z} {b : Nat → Int} {L T n : Nat} (hA : ∃ t, pt_A u b L T t) (h0 : u 121 7 ≠ 0) (hn : u 132 0 = (n : Int)) (hn4 : n < 24) (x1 x2 : Int) : ∃ v, pt_p3 x1 x2 u = some v ∧ pt_dead b L T u v ∧ pt_fhn n u v := by
  obtain ⟨v1, x, v, a1, a2, a3, a4⟩ := pt_enD hA h0 275 x2 60
  obtain ⟨w, b1, b2, b3⟩ := pt_d4 a3.2.2 (by rw [a3.1]; exact h0) ((a4 132 0 (by omega)).trans hn) hn4 x1 x2 x
  unfold pt_p3
  rw [a1, Option.bind_some, a2, Option.bind_some]
  exact ⟨w, b1, pt_dtr a3 a4 b2 b3⟩
theorem pt_d2 {u : px_Z} {b : Nat → Int} {L T n : Nat} (hA : ∃ t, pt_A u b L T t) (h0 : u 121 7 ≠ 0) (hn : u 132 0 = (n : Int)) (hn4 : n < 24) (x1 : Int) : ∃ v, pt_p2 x1 u = some v ∧ pt_dead b L T u v ∧ pt_fhn n u v := by
  obtain ⟨v1, x, v, a1, a2, a3, a4⟩ := pt_enD hA h0 274 0 60
  obtain ⟨w, b1, b2, b3⟩ := pt_d3 a3.2.2 (by rw [a3.1]; exact h0) ((a4 132 0 (by omega)).trans hn) hn4 x1 x
  unfold pt_p2
  rw [a1, Option.bind_some, a2, Option.bind_some]
  exact ⟨w, b1, pt_dtr a3 a4 b2 b3⟩
theorem pt_dc2 {u : px_Z} {b : Nat → Int} {L T n : Nat} (hA : ∃ t, pt_A u b L T t) (h0 : u 121 7 ≠ 0) (hn : u 132 0 = (n : Int)) (hn4 : n < 24) (x1 : Int) : ∃ v, pt_c2 x1 u = some v ∧ pt_dead b L T u v ∧ pt_fhn n u v := by
  obtain ⟨v1, x, v, a1, a2, a3, a4⟩ := pt_enD hA h0 278 0 5
  obtain ⟨w, b1, b2, b3⟩ := pt_dc3 a3.2.2 (by rw [a3.1]; exact h0) ((a4 132 0 (by omega)).trans hn) hn4 x1 x
  unfold pt_c2
  rw [a1, Option.bind_some, a2, Option.bind_some]
  exact ⟨w, b1, pt_dtr a3 a4 b2 b3⟩
