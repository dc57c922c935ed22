/-! who is HOME, who may come, the hills -/
def pz_hs (h : Nat → Int) (n : Nat) : Nat := pz_fo (fun t a => if h t = 1 then a ||| 2 ^ t else a) n 0 0
theorem pz_hs_congr {h k : Nat → Int} {n : Nat} (e : ∀ i, i < n → h i = k i) : pz_hs h n = pz_hs k n := by
  unfold pz_hs
  refine pz_fo_congr _ _ _ (fun j _ h2 a => ?_)
  rw [e j (by omega)]
theorem pz_hs_lt {h : Nat → Int} {n : Nat} (hn : n ≤ 8) : pz_hs h n < 2 ^ n := by
  have := pz_fo_inv (g := fun t a => if h t = 1 then a ||| 2 ^ t else a) (fun i a => a < 2 ^ i) n 0 0 (by decide) (fun j _ h2 a ha => by
    have h3 : a < 2 ^ (j + 1) := by rw [Nat.pow_succ]; omega
    show (if h j = 1 then a ||| 2 ^ j else a) < 2 ^ (j + 1)
    split
    · exact pz_in_all (by omega) h3 (by omega)
    · exact h3)
  rw [Nat.zero_add] at this
  exact this
theorem pz_hs_bit {h : Nat → Int} {n : Nat} (t : Nat) : (pz_hs h n).testBit t = (decide (t < n) && decide (h t = 1)) := by
  have := pz_fo_inv (g := fun t a => if h t = 1 then a ||| 2 ^ t else a) (fun i a => ∀ t, a.testBit t = (decide (t < i) && decide (h t = 1))) n 0 0 (fun t => by simp) (fun j _ h2 a ha t => by
    show (if h j = 1 then a ||| 2 ^ j else a).testBit t = _
    split
    · rename_i hj
      rw [Nat.testBit_or, ha t, Nat.testBit_two_pow]
      by_cases e : j = t
      · subst e; simp [hj]
      · have : (decide (t < j + 1)) = decide (t < j) := by
          by_cases h5 : t < j
          · simp [h5, Nat.lt_succ_of_lt h5]
          · simp [h5]; omega
        simp [e, this]
    · rename_i hj
      rw [ha t]
      by_cases e : j = t
      · subst e; simp [hj]
      · have : (decide (t < j + 1)) = decide (t < j) := by
          by_cases h5 : t < j
          · simp [h5, Nat.lt_succ_of_lt h5]
          · simp [h5]; omega
        simp [this])
  rw [Nat.zero_add] at this
  exact this t
theorem pz_homeR {s : px_Z} {n : Nat} (hn : n ≤ 8) (h1 : s 6 1 = (n : Int)) : f_World_homeSet s = some ((pz_hs (s 9) n : Nat) : Int) := by
  have hl : ∀ (m fu i A : Nat), i + m = n → m < fu → A < 2 ^ i → l_World_homeSet_4 s fu (A : Int) (i : Int) = some ((pz_fo (fun t a => if s 9 t = 1 then a ||| 2 ^ t else a) m i A : Nat) : Int) := by
    intro m
    induction m with
    | zero =>
      intro fu i A hi hf hA
      obtain ⟨f, rfl⟩ : ∃ f, fu = f + 1 := ⟨fu - 1, by omega⟩
      rw [l_World_homeSet_4, h1, if_pos (by omega)]
      rfl
    | succ m ih =>
      intro fu i A hi hf hA
      obtain ⟨f, rfl⟩ : ∃ f, fu = f + 1 := ⟨fu - 1, by omega⟩
      have h256 := (pz_pow_le (show i ≤ 8 by omega)).1
      have h3 : A < 2 ^ (i + 1) := by rw [Nat.pow_succ]; omega
      rw [l_World_homeSet_4, h1, if_neg (by omega), if_pos (by omega), Int.toNat_natCast, pz_wr_suc (by omega), pz_fo]
      split
      · rename_i hj
        rw [pz_add (by omega) (by omega), ih f (i + 1) _ (by omega) (by omega) (pz_in_all (by omega) h3 (by omega))]
      · rename_i hj
        rw [ih f (i + 1) _ (by omega) (by omega) h3]
  exact hl n px_big 0 0 (by omega) (pz_big_lt (by omega)) (by decide)
theorem pz_homeM {s : px_Z} {n : Nat} (hn : n ≤ 8) (h1 : s 150 6 = (n : Int)) : f_M_homeSet s = some ((pz_hs (fun i => s 151 (16 + i)) n : Nat) : Int) := by
  have hl : ∀ (m fu i A : Nat), i + m = n → m < fu → A < 2 ^ i → l_M_homeSet_4 s fu (A : Int) (i : Int) = some ((pz_fo (fun t a => if s 151 (16 + t) = 1 then a ||| 2 ^ t else a) m i A : Nat) : Int) := by
    intro m
    induction m with
    | zero =>
      intro fu i A hi hf hA
      obtain ⟨f, rfl⟩ : ∃ f, fu = f + 1 := ⟨fu - 1, by omega⟩
      rw [l_M_homeSet_4, h1, if_pos (by omega)]
      rfl
    | succ m ih =>
      intro fu i A hi hf hA
      obtain ⟨f, rfl⟩ : ∃ f, fu = f + 1 := ⟨fu - 1, by omega⟩
      have h256 := (pz_pow_le (show i ≤ 8 by omega)).1
      have h3 : A < 2 ^ (i + 1) := by rw [Nat.pow_succ]; omega
      have h4 : (px_wr (16 + (i : Int))).toNat = 16 + i := by rw [pz_wr_id (by omega) (by omega)]; omega
      have h5 : f_M_isHome s (i : Int) = some (if s 151 (16 + i) = 1 then 1 else 0) := by
        unfold f_M_isHome
        rw [h4, if_pos (by rw [pz_wr_id (by omega) (by omega)]; omega)]
        split <;> rfl
      rw [l_M_homeSet_4, h1, if_neg (by omega), h5, Option.bind_some, pz_wr_suc (by omega), pz_fo]
      by_cases hj : s 151 (16 + i) = 1
      · rw [if_pos hj, if_neg (by decide), if_pos hj, pz_add (by omega) (by omega), ih f (i + 1) _ (by omega) (by omega) (pz_in_all (by omega) h3 (by omega))]
      · rw [if_neg hj, if_pos rfl, if_neg hj, ih f (i + 1) _ (by omega) (by omega) h3]
  exact hl n px_big 0 0 (by omega) (pz_big_lt (by omega)) (by decide)
/-- by AFTER and HIM alone -/
def pz_can (n : Nat) (af : Nat → Int) (t S : Nat) : Bool := !S.testBit t && decide ((af t).toNat &&& S = (af t).toNat) && (decide (t + 1 ≠ n) || decide (pz_cnt S + 1 = n))
theorem pz_can_congr {n : Nat} {af bf : Nat → Int} {t S : Nat} (h : af t = bf t) : pz_can n af t S = pz_can n bf t S := by
  unfold pz_can; rw [h]
theorem pz_canM {s : px_Z} {n t S : Nat} (hn : n ≤ 8) (h1 : s 150 6 = (n : Int)) (ht : t < n) (hS : S < 2 ^ n) (ha : 0 ≤ s 167 t ∧ s 167 t < 256) : f_M_canCome s (t : Int) (S : Int) = some (if pz_can n (s 167) t S then 1 else 0) := by
  have h256 := (pz_pow_le hn).1
  unfold f_M_canCome pz_can
  rw [pz_bit (by omega) (by omega)]
  cases hb : S.testBit t
  · obtain ⟨A, hA⟩ : ∃ A : Nat, s 167 t = (A : Int) := ⟨(s 167 t).toNat, by omega⟩
    rw [Int.toNat_natCast, hA, Int.toNat_natCast, if_neg (by decide), if_pos (by omega), h1]
    have h3 := pz_sub_iff (show A < 256 by omega) (show S < 256 by omega)
    by_cases h4 : A &&& S = A
    · rw [if_pos (h3.mpr h4), pz_wr_id (by omega) (by omega), pz_ones s (by omega), Option.bind_some]
      by_cases h5 : (t : Int) = (n : Int) - 1
      · rw [if_pos h5]
        by_cases h6 : pz_cnt S + 1 = n
        · rw [if_pos (by omega)]; simp [h4, h6]
        · rw [if_neg (by omega)]
          have h7 : t + 1 = n := by omega
          simp [h4, h6, h7]
      · rw [if_neg h5]
        have h7 : ¬ (t + 1 = n) := by omega
        simp [h4, h7]
    · rw [if_neg (fun h => h4 (h3.mp h))]
      simp [h4]
  · rw [if_pos (by decide)]
    simp
theorem pz_readyR {s : px_Z} {n t S : Nat} (hn : n ≤ 8) (h1 : s 6 1 = (n : Int)) (ht : t < n) (hS : S < 2 ^ n) (ha : 0 ≤ s 13 t ∧ s 13 t < 256) (hb : S.testBit t = false) : f_World_isReady s (t : Int) (S : Int) = some (if pz_can n (s 13) t S then 1 else 0) := by
  have h256 := (pz_pow_le hn).1
  have hall := pz_all hn
  obtain ⟨A, hA⟩ : ∃ A : Nat, s 13 t = (A : Int) := ⟨(s 13 t).toNat, by omega⟩
  have h3 := pz_sub_iff (show A < 256 by omega) (show S < 256 by omega)
  have h6 := pz_him hn hS ht hb
  have hj : ∀ t0 : Int, j_World_isReady_j9 s (t : Int) (S : Int) t0 = some (if A &&& S = A ∧ (t0 = 0 ∨ pz_cnt S + 1 = n) then 1 else 0) := by
    intro t0
    unfold j_World_isReady_j9 f_World_all
    rw [Int.toNat_natCast, hA, if_pos (by omega), h1, hall.1, pz_add (by omega) (by omega)]
    by_cases h4 : A &&& S = A
    · rw [if_pos (h3.mpr h4)]
      by_cases h5 : t0 = 0
      · rw [if_pos h5, if_pos ⟨h4, Or.inl h5⟩]
      · rw [if_neg h5]
        by_cases h7 : pz_cnt S + 1 = n
        · rw [if_pos (by rw [h6.2.mpr h7]), if_pos ⟨h4, Or.inr h7⟩]
        · rw [if_neg (fun h => h7 (h6.2.mp (by omega))), if_neg (fun h => h.2.elim h5 h7)]
    · rw [if_neg (fun h => h4 (h3.mp h)), if_neg (fun h => h4 h.1)]
  unfold f_World_isReady pz_can
  rw [h1, pz_wr_id (by omega) (by omega), hj, hj, hb, hA, Int.toNat_natCast]
  by_cases h5 : (t : Int) = (n : Int) - 1
  · rw [if_pos h5]
    have h7 : t + 1 = n := by omega
    by_cases h4 : A &&& S = A <;> by_cases h8 : pz_cnt S + 1 = n <;> simp [h4, h7, h8]
  · rw [if_neg h5]
    have h7 : ¬ (t + 1 = n) := by omega
    by_cases h4 : A &&& S = A <;> simp [h4, h7]
/-- the MUD of a PASS in a WEEK: the first line -/
def pz_mdp (hl : Nat → Nat → Int) (p w : Int) (i : Nat) : Bool := decide (hl i 0 = -1) && decide (hl i 1 = p) && decide (hl i 2 ≤ w ∧ w ≤ hl i 3)
def pz_md (hl : Nat → Nat → Int) (m : Nat) (p w : Int) : Int := match pz_fi (pz_mdp hl p w) m 0 with
  | some i => hl i 4
  | none => -1
/-- five rows as lines -/
def pz_hlv (a b c d e : Nat → Int) (i : Nat) : Nat → Int
  | 0 => a i
  | 1 => b i
  | 2 => c i
  | 3 => d i
  | _ => e i
theorem pz_mdp_s (a b c d e : Nat → Int) (p w : Int) (i : Nat) : pz_mdp (pz_hlv a b c d e) p w i = (decide (a i = -1) && decide (b i = p) && decide (c i ≤ w ∧ w ≤ d i)) := rfl
/-- the same hills: caves' lines have no WEEKS -/
def pz_hle (hl kl : Nat → Nat → Int) (m : Nat) : Prop := ∀ i, i < m → hl i 0 = kl i 0 ∧ hl i 1 = kl i 1 ∧ (hl i 0 = -1 → hl i 2 = kl i 2 ∧ hl i 3 = kl i 3 ∧ hl i 4 = kl i 4)
theorem pz_md_congr {hl kl : Nat → Nat → Int} {m : Nat} (h : pz_hle hl kl m) (p w : Int) : pz_md hl m p w = pz_md kl m p w := by
  have h1 : pz_fi (pz_mdp hl p w) m 0 = pz_fi (pz_mdp kl p w) m 0 := by
    refine pz_fi_congr _ _ (fun j _ h2 => ?_)
    obtain ⟨e0, e1, e2⟩ := h j (by omega)
    unfold pz_mdp
    by_cases h3 : hl j 0 = -1
    · obtain ⟨e3, e4, e5⟩ := e2 h3
      rw [← e0, e1, e3, e4]
    · simp [← e0, h3]
  unfold pz_md
  rw [← h1]
  cases h4 : pz_fi (pz_mdp hl p w) m 0 with
  | none => rfl
  | some i =>
    obtain ⟨_, h5, h6⟩ := pz_fi_some _ _ _ h4
    unfold pz_mdp at h6
    simp only [Bool.and_eq_true, decide_eq_true_eq] at h6
    exact ((h i (by omega)).2.2 h6.1.1).2.2
theorem pz_mudR {s : px_Z} {m : Nat} (hm : m ≤ 24) (h1 : s 28 0 = (m : Int)) (p w : Int) : f_Hills_mudIn s p w = some (pz_md (pz_hlv (s 29) (s 30) (s 31) (s 32) (s 33)) m p w) := by
  have hl : ∀ (r fu i : Nat), i + r = m → r < fu → l_Hills_mudIn_2 s (fun x3 => if 0 ≤ (x3) ∧ (x3) < 24 then some (s 33 x3.toNat) else none) fu p w (i : Int) = some (match pz_fi (pz_mdp (pz_hlv (s 29) (s 30) (s 31) (s 32) (s 33)) p w) r i with | some i => s 33 i | none => -1) := by
    intro r
    induction r with
    | zero =>
      intro fu i hi hf
      obtain ⟨f, rfl⟩ : ∃ f, fu = f + 1 := ⟨fu - 1, by omega⟩
      rw [l_Hills_mudIn_2, h1, if_pos (by omega)]
      rfl
    | succ r ih =>
      intro fu i hi hf
      obtain ⟨f, rfl⟩ : ∃ f, fu = f + 1 := ⟨fu - 1, by omega⟩
      rw [l_Hills_mudIn_2, h1, if_neg (by omega), pz_wr_suc (by omega), Int.toNat_natCast, pz_within, pz_fi]
      simp (disch := omega) only [if_pos, pz_i10]
      rw [ih f (i + 1) (by omega) (by omega)]
      rw [pz_mdp_s]
      by_cases a1 : s 29 i = -1 <;> by_cases a2 : s 30 i = p <;> by_cases a3 : s 31 i ≤ w ∧ w ≤ s 32 i <;> simp [a1, a2, a3, Int.toNat_natCast] <;> omega
  exact hl m px_big 0 (by omega) (pz_big_lt (by omega))
theorem pz_ofHill {s : px_Z} {i k : Nat} (h : 5 * i + k < 240) : f_M_ofHill s (i : Int) (k : Int) = some (s 166 (5 * i + k)) := by
  unfold f_M_ofHill
  rw [pz_wr_id (x := 5 * (i : Int)) (by omega) (by omega), pz_wr_id (by omega) (by omega), if_pos (by omega)]
  have : (5 * (i : Int) + (k : Int)).toNat = 5 * i + k := by omega
  rw [this]
theorem pz_mudM {s : px_Z} {m : Nat} (hm : m ≤ 24) (h1 : s 150 35 = (m : Int)) (p w : Int) : f_M_mudOf s p w = some (pz_md (fun i k => s 166 (5 * i + k)) m p w) := by
  have hl : ∀ (r fu i : Nat), i + r = m → r < fu → l_M_mudOf_2 s (fun x3 => (f_M_ofHill s x3 4).bind (fun q9 => some q9)) fu p w (i : Int) = some (match pz_fi (pz_mdp (fun i k => s 166 (5 * i + k)) p w) r i with | some i => s 166 (5 * i + 4) | none => -1) := by
    intro r
    induction r with
    | zero =>
      intro fu i hi hf
      obtain ⟨f, rfl⟩ : ∃ f, fu = f + 1 := ⟨fu - 1, by omega⟩
      rw [l_M_mudOf_2, h1, if_pos (by omega)]
      rfl
    | succ r ih =>
      intro fu i hi hf
      obtain ⟨f, rfl⟩ : ∃ f, fu = f + 1 := ⟨fu - 1, by omega⟩
      have o0 : f_M_ofHill s (i : Int) 0 = some (s 166 (5 * i + 0)) := pz_ofHill (k := 0) (by omega)
      have o1 : f_M_ofHill s (i : Int) 1 = some (s 166 (5 * i + 1)) := pz_ofHill (k := 1) (by omega)
      have o2 : f_M_ofHill s (i : Int) 2 = some (s 166 (5 * i + 2)) := pz_ofHill (k := 2) (by omega)
      have o3 : f_M_ofHill s (i : Int) 3 = some (s 166 (5 * i + 3)) := pz_ofHill (k := 3) (by omega)
      have o4 : f_M_ofHill s (i : Int) 4 = some (s 166 (5 * i + 4)) := pz_ofHill (k := 4) (by omega)
      rw [l_M_mudOf_2, h1, if_neg (by omega), pz_wr_suc (by omega), pz_fi, o0, o1, o2, o3]
      simp only [Option.bind_some, pz_isIn, pz_i10]
      rw [ih f (i + 1) (by omega) (by omega)]
      have em : pz_mdp (fun i k => s 166 (5 * i + k)) p w i = (decide (s 166 (5 * i + 0) = -1) && decide (s 166 (5 * i + 1) = p) && decide (s 166 (5 * i + 2) ≤ w ∧ w ≤ s 166 (5 * i + 3))) := rfl
      rw [em]
      generalize s 166 (5 * i + 0) = b0 at *
      by_cases a1 : b0 = -1 <;> by_cases a2 : s 166 (5 * i + 1) = p <;> by_cases a3 : s 166 (5 * i + 2) ≤ w ∧ w ≤ s 166 (5 * i + 3) <;> simp [a1, a2, a3, o4] <;> omega
  exact hl m px_big 0 (by omega) (pz_big_lt (by omega))
