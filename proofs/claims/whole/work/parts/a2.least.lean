/-! LEAST: what it is -/
def pz_mn (C : Nat → Bool) (V : Nat → Int) (m i : Nat) (b : Int) : Int := pz_fo (fun t b => if C t then (if V t < b then V t else b) else b) m i b
def pz_mc (C : Nat → Bool) (V : Nat → Int) (m i : Nat) (b : Int × Nat) : Int × Nat := pz_fo (fun t (b : Int × Nat) => if C t then (if V t < b.1 then (V t, t) else b) else b) m i b
theorem pz_mn_s (C : Nat → Bool) (V : Nat → Int) (m i : Nat) (b : Int) : pz_mn C V (m + 1) i b = pz_mn C V m (i + 1) (if C i then (if V i < b then V i else b) else b) := rfl
theorem pz_mc_s (C : Nat → Bool) (V : Nat → Int) (m i : Nat) (b : Int × Nat) : pz_mc C V (m + 1) i b = pz_mc C V m (i + 1) (if C i then (if V i < b.1 then (V i, i) else b) else b) := rfl
theorem pz_mn_mc {C : Nat → Bool} {V : Nat → Int} : ∀ (m i : Nat) (b0 B : Int) (ch : Nat), pz_mn C V m i (if b0 < B then b0 else B) = if b0 < (pz_mc C V m i (B, ch)).1 then b0 else (pz_mc C V m i (B, ch)).1 := by
  intro m
  induction m with
  | zero => intro i b0 B ch; rfl
  | succ m ih =>
    intro i b0 B ch
    rw [pz_mn_s, pz_mc_s]
    cases hc : C i with
    | false =>
      simp only [Bool.false_eq_true, if_false]
      exact ih (i + 1) b0 B ch
    | true =>
      simp only [if_true]
      by_cases h1 : V i < B
      · rw [if_pos h1, ← ih (i + 1) b0 (V i) i]
        congr 1
        repeat' split
        all_goals omega
      · rw [if_neg h1, ← ih (i + 1) b0 B ch]
        congr 1
        repeat' split
        all_goals omega
theorem pz_mc_first {C : Nat → Bool} {V : Nat → Int} : ∀ (m i : Nat) (B : Int) (ch : Nat), (pz_mc C V m i (B, ch)).1 ≤ B ∧ (∀ t, i ≤ t → t < i + m → C t = true → (pz_mc C V m i (B, ch)).1 ≤ V t) ∧ (pz_mc C V m i (B, ch) = (B, ch) ∨ ((pz_mc C V m i (B, ch)).1 < B ∧ i ≤ (pz_mc C V m i (B, ch)).2 ∧ (pz_mc C V m i (B, ch)).2 < i + m ∧ C (pz_mc C V m i (B, ch)).2 = true ∧ V (pz_mc C V m i (B, ch)).2 = (pz_mc C V m i (B, ch)).1 ∧ ∀ t, i ≤ t → t < (pz_mc C V m i (B, ch)).2 → C t = true → (pz_mc C V m i (B, ch)).1 < V t)) := by
  intro m
  induction m with
  | zero =>
    intro i B ch
    exact ⟨Int.le_refl _, fun t h1 h2 => by omega, Or.inl rfl⟩
  | succ m ih =>
    intro i B ch
    rw [pz_mc_s]
    cases hc : C i with
    | false =>
      simp only [Bool.false_eq_true, if_false]
      obtain ⟨h1, h2, h3⟩ := ih (i + 1) B ch
      refine ⟨h1, fun t q1 q2 q3 => ?_, ?_⟩
      · by_cases hti : t = i
        · rw [hti, hc] at q3; cases q3
        · exact h2 t (by omega) (by omega) q3
      · rcases h3 with h3 | ⟨g1, g2, g3, g4, g5, g6⟩
        · exact Or.inl h3
        · refine Or.inr ⟨g1, by omega, by omega, g4, g5, fun t q1 q2 q3 => ?_⟩
          by_cases hti : t = i
          · rw [hti, hc] at q3; cases q3
          · exact g6 t (by omega) q2 q3
    | true =>
      simp only [if_true]
      by_cases hv : V i < B
      · rw [if_pos hv]
        obtain ⟨h1, h2, h3⟩ := ih (i + 1) (V i) i
        refine ⟨by omega, fun t q1 q2 q3 => ?_, Or.inr ?_⟩
        · by_cases hti : t = i
          · rw [hti]; exact h1
          · exact h2 t (by omega) (by omega) q3
        · rcases h3 with h3 | ⟨g1, g2, g3, g4, g5, g6⟩
          · rw [h3]
            exact ⟨hv, Nat.le_refl _, by show i < _; omega, hc, rfl, fun t q1 q2 q3 => by
              have q2' : t < i := q2
              omega⟩
          · refine ⟨by omega, by omega, by omega, g4, g5, fun t q1 q2 q3 => ?_⟩
            by_cases hti : t = i
            · rw [hti]; omega
            · exact g6 t (by omega) q2 q3
      · rw [if_neg hv]
        obtain ⟨h1, h2, h3⟩ := ih (i + 1) B ch
        refine ⟨h1, fun t q1 q2 q3 => ?_, ?_⟩
        · by_cases hti : t = i
          · rw [hti]; omega
          · exact h2 t (by omega) (by omega) q3
        · rcases h3 with h3 | ⟨g1, g2, g3, g4, g5, g6⟩
          · exact Or.inl h3
          · refine Or.inr ⟨g1, by omega, by omega, g4, g5, fun t q1 q2 q3 => ?_⟩
            by_cases hti : t = i
            · rw [hti]; omega
            · exact g6 t (by omega) q2 q3
/-- who can be paid for, and what it comes to -/
def pz_cC (n : Nat) (af : Nat → Int) (op : Int → Bool) (th : Int) (r S : Nat) : Nat → Bool := fun t => pz_can n af t S && op (th - r)
def pz_cV (L : Int) (n : Nat) (af : Nat → Int) (op : Int → Bool) (th : Int) (pr : Nat → Int → Nat → Nat → Int) (r S q : Nat) : Nat → Int := fun t => pz_cv L (pz_co L n af op th pr r (S ||| 2 ^ t) (t + 1)) (pr t (th - r) (pz_cnt S) q)
theorem pz_co_s (L : Int) (n : Nat) (af : Nat → Int) (op : Int → Bool) (th : Int) (pr : Nat → Int → Nat → Nat → Int) (r S q : Nat) : pz_co L n af op th pr (r + 1) S q = pz_mn (pz_cC n af op th r S) (pz_cV L n af op th pr r S q) n 0 (pz_co L n af op th pr r S q) := rfl
theorem pz_bc_s (L : Int) (n : Nat) (af : Nat → Int) (op : Int → Bool) (th : Int) (pr : Nat → Int → Nat → Nat → Int) (r S q : Nat) : pz_bc L n af op th pr r S q = pz_mc (pz_cC n af op th r S) (pz_cV L n af op th pr r S q) n 0 (L, 8) := rfl
def pz_rl (a b : Int) (k : Nat) : Prop := (a = 536870912 ∧ b = 10000000) ∨ (a = b ∧ 0 ≤ b ∧ b ≤ 9999 * (k : Int))
theorem pz_mn_rl {C : Nat → Bool} {V W : Nat → Int} {k : Nat} (hk : k ≤ 70) (hV : ∀ t, pz_rl (V t) (W t) k) : ∀ (m i : Nat) (a b : Int), pz_rl a b k → pz_rl (pz_mn C V m i a) (pz_mn C W m i b) k := by
  intro m
  induction m with
  | zero => intro i a b h; exact h
  | succ m ih =>
    intro i a b h
    rw [pz_mn_s, pz_mn_s]
    refine ih (i + 1) _ _ ?_
    cases C i with
    | false => exact h
    | true =>
      simp only [if_true]
      have hv := hV i
      unfold pz_rl at h hv ⊢
      repeat' split
      all_goals omega
theorem pz_co_rl {n : Nat} {af : Nat → Int} {op : Int → Bool} {th : Int} {pr : Nat → Int → Nat → Nat → Int} (hp : ∀ t w c q, 1 ≤ pr t w c q ∧ pr t w c q ≤ 9999) : ∀ (r : Nat), r ≤ 61 → ∀ S q, pz_rl (pz_co 536870912 n af op th pr r S q) (pz_co 10000000 n af op th pr r S q) r := by
  intro r
  induction r with
  | zero =>
    intro _ S q
    rw [pz_co, pz_co]
    unfold pz_rl
    split
    · exact Or.inr ⟨rfl, by omega, by omega⟩
    · exact Or.inl ⟨rfl, rfl⟩
  | succ r ih =>
    intro hr S q
    rw [pz_co_s, pz_co_s]
    refine pz_mn_rl (by omega) (fun t => ?_) n 0 _ _ ?_
    · have h1 := ih (by omega) (S ||| 2 ^ t) (t + 1)
      have h2 := hp t (th - r) (pz_cnt S) q
      show pz_rl (pz_cv _ _ _) (pz_cv _ _ _) _
      unfold pz_rl pz_cv at *
      repeat' split
      all_goals omega
    · have h1 := ih (by omega) S q
      unfold pz_rl at h1 ⊢
      omega
theorem pz_co_min {L : Int} {n : Nat} {af : Nat → Int} {op : Int → Bool} {th : Int} {pr : Nat → Int → Nat → Nat → Int} {r S q : Nat} (h : pz_co L n af op th pr r S q ≤ L) : pz_co L n af op th pr (r + 1) S q = if pz_co L n af op th pr r S q < (pz_bc L n af op th pr r S q).1 then pz_co L n af op th pr r S q else (pz_bc L n af op th pr r S q).1 := by
  rw [pz_co_s, pz_bc_s, ← pz_mn_mc]
  congr 1
  split <;> omega
/-- the first THING by which the sum comes -/
def pz_ft (L : Int) (n : Nat) (af : Nat → Int) (op : Int → Bool) (th : Int) (pr : Nat → Int → Nat → Nat → Int) (r S q : Nat) : Option Nat := pz_fi (fun t => pz_cC n af op th r S t && decide (pz_cV L n af op th pr r S q t = pz_co L n af op th pr (r + 1) S q)) n 0
theorem pz_all_co {L : Int} (hL : 0 ≤ L) {n : Nat} {af : Nat → Int} {op : Int → Bool} {th : Int} {pr : Nat → Int → Nat → Nat → Int} : ∀ (r q : Nat), pz_co L n af op th pr r (2 ^ n - 1) q = 0 := by
  intro r
  induction r with
  | zero => intro q; rw [pz_co, if_pos rfl]
  | succ r ih =>
    intro q
    rw [pz_co_s, ih q]
    have hno : ∀ t, t < n → pz_cC n af op th r (2 ^ n - 1) t = false := by
      intro t ht
      unfold pz_cC pz_can
      rw [Nat.testBit_two_pow_sub_one, decide_eq_true ht]
      rfl
    have : ∀ (m i : Nat), i + m = n → pz_mn (pz_cC n af op th r (2 ^ n - 1)) (pz_cV L n af op th pr r (2 ^ n - 1) q) m i 0 = 0 := by
      intro m
      induction m with
      | zero => intro i _; rfl
      | succ m ih2 =>
        intro i hi
        rw [pz_mn_s, hno i (by omega)]
        exact ih2 (i + 1) (by omega)
    exact this n 0 (by omega)
/-- the class's choice is the reference's first -/
theorem pz_ch_ft {n : Nat} (hn : n ≤ 8) {af : Nat → Int} {op : Int → Bool} {th : Int} {pr : Nat → Int → Nat → Nat → Int} (hp : ∀ t w c q, 1 ≤ pr t w c q ∧ pr t w c q ≤ 9999) {r S q : Nat} (hr : r < 61) (hfin : pz_co 10000000 n af op th pr (r + 1) S q < 10000000) : pz_ch 536870912 n af op th pr r S q = (match pz_ft 10000000 n af op th pr r S q with | some t => t | none => 8) ∧ (∀ t, pz_ft 10000000 n af op th pr r S q = some t → t < n ∧ pz_cC n af op th r S t = true ∧ pz_co 10000000 n af op th pr r (S ||| 2 ^ t) (t + 1) < 10000000) ∧ (pz_ft 10000000 n af op th pr r S q = none → pz_co 10000000 n af op th pr r S q < 10000000) := by
  have hR1 := pz_co_rl (n := n) (af := af) (op := op) (th := th) hp (r + 1) (by omega) S q
  have hR0 := pz_co_rl (n := n) (af := af) (op := op) (th := th) hp r (by omega) S q
  have hV : ∀ t, pz_rl (pz_cV 536870912 n af op th pr r S q t) (pz_cV 10000000 n af op th pr r S q t) (r + 1) := by
    intro t
    have h1 := pz_co_rl (n := n) (af := af) (op := op) (th := th) hp r (by omega) (S ||| 2 ^ t) (t + 1)
    have h2 := hp t (th - r) (pz_cnt S) q
    show pz_rl (pz_cv _ _ _) (pz_cv _ _ _) _
    unfold pz_rl pz_cv at *
    repeat' split
    all_goals omega
  have hmin := pz_co_min (L := 536870912) (n := n) (af := af) (op := op) (th := th) (pr := pr) (r := r) (S := S) (q := q) (by unfold pz_rl at hR0; omega)
  obtain ⟨c1, c2, c3⟩ := pz_mc_first (C := pz_cC n af op th r S) (V := pz_cV 536870912 n af op th pr r S q) n 0 536870912 8
  rw [← pz_bc_s] at c1 c2 c3
  have hval : pz_co 536870912 n af op th pr (r + 1) S q = pz_co 10000000 n af op th pr (r + 1) S q := by
    unfold pz_rl at hR1; omega
  have heq : ∀ t, (pz_cV 10000000 n af op th pr r S q t = pz_co 10000000 n af op th pr (r + 1) S q) ↔ (pz_cV 536870912 n af op th pr r S q t = pz_co 536870912 n af op th pr (r + 1) S q) := by
    intro t
    have := hV t
    unfold pz_rl at this
    omega
  have hft : ∀ t, pz_ft 10000000 n af op th pr r S q = some t → t < n ∧ pz_cC n af op th r S t = true ∧ pz_cV 10000000 n af op th pr r S q t = pz_co 10000000 n af op th pr (r + 1) S q := by
    intro t h
    obtain ⟨_, h2, h3⟩ := pz_fi_some _ _ _ h
    simp only [Bool.and_eq_true, decide_eq_true_eq] at h3
    exact ⟨by omega, h3.1, h3.2⟩
  refine ⟨?_, fun t h => ?_, fun h => ?_⟩
  · unfold pz_ch
    by_cases hlt : pz_co 536870912 n af op th pr r S q < (pz_bc 536870912 n af op th pr r S q).1
    · rw [if_pos hlt]
      rw [if_pos hlt] at hmin
      cases hq : pz_ft 10000000 n af op th pr r S q with
      | none => rfl
      | some t =>
        obtain ⟨h1, h2, h3⟩ := hft t hq
        have h4 := c2 t (Nat.zero_le _) (by omega) h2
        have h5 := (heq t).mp h3
        omega
    · rw [if_neg hlt]
      rw [if_neg hlt] at hmin
      rcases c3 with c3 | ⟨g1, g2, g3, g4, g5, g6⟩
      · -- no sum at all: not so
        exfalso
        rw [c3] at hmin
        have h6 : pz_co 536870912 n af op th pr (r + 1) S q = 536870912 := hmin
        omega
      · have hfirst : pz_ft 10000000 n af op th pr r S q = some (pz_bc 536870912 n af op th pr r S q).2 := by
          cases hq : pz_ft 10000000 n af op th pr r S q with
          | none =>
            have := pz_fi_none _ _ hq (pz_bc 536870912 n af op th pr r S q).2 (Nat.zero_le _) (by omega)
            have h7 := (heq (pz_bc 536870912 n af op th pr r S q).2).mpr (by omega)
            simp only [g4, h7, decide_true, Bool.and_true] at this
            cases this
          | some t =>
            obtain ⟨h1, h2, h3⟩ := hft t hq
            have h5 := (heq t).mp h3
            have hle : (pz_bc 536870912 n af op th pr r S q).2 ≤ t := by
              refine Nat.le_of_not_lt (fun q2 => ?_)
              have := g6 t (Nat.zero_le _) q2 h2
              omega
            by_cases he : t = (pz_bc 536870912 n af op th pr r S q).2
            · rw [he]
            · exfalso
              have := pz_fi_first _ _ _ hq (pz_bc 536870912 n af op th pr r S q).2 (Nat.zero_le _) (by omega)
              have h7 := (heq (pz_bc 536870912 n af op th pr r S q).2).mpr (by omega)
              simp only [g4, h7, decide_true, Bool.and_true] at this
              cases this
        rw [hfirst]
  · obtain ⟨h1, h2, h3⟩ := hft t h
    refine ⟨h1, h2, ?_⟩
    have h4 : pz_cv 10000000 (pz_co 10000000 n af op th pr r (S ||| 2 ^ t) (t + 1)) (pr t (th - r) (pz_cnt S) q) = pz_co 10000000 n af op th pr (r + 1) S q := h3
    unfold pz_cv at h4
    split at h4 <;> omega
  · by_cases hlt : pz_co 536870912 n af op th pr r S q < (pz_bc 536870912 n af op th pr r S q).1
    · rw [if_pos hlt] at hmin
      unfold pz_rl at hR0
      omega
    · rw [if_neg hlt] at hmin
      rcases c3 with c3 | ⟨g1, g2, g3, g4, g5, g6⟩
      · exfalso
        rw [c3] at hmin
        have h6 : pz_co 536870912 n af op th pr (r + 1) S q = 536870912 := hmin
        omega
      · exfalso
        have := pz_fi_none _ _ h (pz_bc 536870912 n af op th pr r S q).2 (Nat.zero_le _) (by omega)
        have h7 := (heq (pz_bc 536870912 n af op th pr r S q).2).mpr (by omega)
        simp only [g4, h7, decide_true, Bool.and_true] at this
        cases this
