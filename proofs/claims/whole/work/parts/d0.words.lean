/-! WORDS of a TEXT: the class's way and the reference's -/
def pt_enc : List (List Int) → List Int
  | [] => []
  | w :: ws => w ++ 32 :: pt_enc ws
def pt_ws : List (List Int) := [[116, 104, 105, 110, 103], [119, 111, 114, 116, 104], [119, 101, 97, 114, 115], [119, 101, 101, 107], [99, 114, 105, 101, 115], [114, 105, 118, 97, 108], [99, 114, 101, 100, 105, 116], [104, 111, 109, 101], [108, 97, 115, 116], [112, 114, 105, 99, 101], [119, 101, 97, 114], [101, 97, 116], [103, 97, 105, 110], [119, 104, 101, 110], [111, 114], [97, 110, 100], [110, 111, 116], [112, 97, 115, 115], [102, 114, 111, 109], [116, 111], [109, 117, 100], [99, 97, 118, 101], [98, 121], [97, 102, 116, 101, 114], [112, 97, 121], [99, 114, 121], [119, 97, 105, 116], [97, 103, 97, 105, 110]]
/-- from i on, to the end 'to', stands w -/
def pt_mt (b : Nat → Int) (to : Nat) : List Int → Nat → Bool
  | [], i => decide (i = to)
  | c :: w, i => decide (i < to) && (decide (b i = c) && pt_mt b to w (i + 1))
def pt_ix (b : Nat → Int) (fr to : Nat) : List (List Int) → Nat → Option Nat
  | [], _ => none
  | w :: ws, k => if pt_mt b to w fr = true then some k else pt_ix b fr to ws (k + 1)
theorem pt_drop {α : Type} {l : List α} {p : Nat} {c : α} {r : List α} (h : l.drop p = c :: r) : p < l.length ∧ l[p]? = some c ∧ l.drop (p + 1) = r := by
  have h1 : p < l.length := by
    apply Nat.lt_of_not_le; intro h2
    rw [List.drop_eq_nil_of_le h2] at h; cases h
  rw [List.drop_eq_getElem_cons h1] at h
  injection h with h3 h4
  exact ⟨h1, by rw [List.getElem?_eq_getElem h1, h3], h4⟩
theorem pt_tx0 : px_tx 0 = pt_enc pt_ws := by decide +kernel
theorem pt_txl : (px_tx 0).length = 138 := by decide +kernel
set_option maxHeartbeats 1000000 in
theorem pt_kw1 (s : px_Z) {x1 x2 : Nat} (hx2 : x2 ≤ 400) : ∀ (w : List Int), (∀ c ∈ w, c ≠ 32) → ∀ (n p x4 : Nat) (fl x3 : Int) (rest : List Int), (px_tx 0).drop p = w ++ 32 :: rest → x4 + w.length ≤ 1000 → (fl = 0 ∨ fl = 1) →
    l_Reader_keyword_8 s (n + w.length + 1) (x1 : Int) (x2 : Int) x3 (x4 : Int) fl (p : Int) = if fl = 1 ∧ pt_mt (s 120) x2 w x4 = true then some x3 else l_Reader_keyword_8 s n (x1 : Int) (x2 : Int) (px_wr (x3 + 1)) (x1 : Int) 1 ((p + w.length + 1 : Nat) : Int) := by
  intro w
  induction w with
  | nil =>
    intro _ n p x4 fl x3 rest hd hx hf
    obtain ⟨h1, h2, h3⟩ := pt_drop (l := px_tx 0) (p := p) (c := 32) (r := rest) hd
    have h4 := pt_txl
    have w1 : px_wr ((p : Int) + 1) = ((p + 1 : Nat) : Int) := pz_wr_suc (by omega)
    have g1 : ¬ (((px_tx 0).length : Nat) : Int) ≤ (p : Int) := by omega
    rw [List.length_nil, Nat.add_zero, l_Reader_keyword_8, if_neg g1, if_pos (Int.natCast_nonneg p), Int.toNat_natCast, h2, Option.bind_some, if_pos rfl, w1]
    rcases hf with hf | hf
    · subst hf
      rw [if_pos rfl, if_neg (fun h => absurd h.1 (by decide))]
    · subst hf
      rw [if_neg (by decide : ¬ (1 : Int) = 0)]
      by_cases h5 : x4 = x2
      · subst h5
        rw [if_pos rfl, if_pos ⟨rfl, by simp [pt_mt]⟩]
      · rw [if_neg (by omega : ¬ (x4 : Int) = (x2 : Int)), if_neg (fun h => by have := h.2; simp [pt_mt] at this; exact h5 this)]
  | cons c w ih =>
    intro hw n p x4 fl x3 rest hd hx hf
    obtain ⟨h1, h2, h3⟩ := pt_drop (l := px_tx 0) (p := p) (c := c) (r := w ++ 32 :: rest) hd
    have h4 := pt_txl
    have hc : c ≠ 32 := hw c (List.mem_cons_self)
    rw [List.length_cons] at hx
    have w1 : px_wr ((p : Int) + 1) = ((p + 1 : Nat) : Int) := pz_wr_suc (by omega)
    have w4 : px_wr ((x4 : Int) + 1) = ((x4 + 1 : Nat) : Int) := pz_wr_suc (by omega)
    have g1 : ¬ (((px_tx 0).length : Nat) : Int) ≤ (p : Int) := by omega
    have ih' := fun fl hf => ih (fun c h => hw c (List.mem_cons_of_mem _ h)) n (p + 1) (x4 + 1) fl x3 rest h3 (by omega) hf
    have e1 : n + (c :: w).length + 1 = (n + w.length + 1) + 1 := by rw [List.length_cons]; omega
    have e2 : p + (c :: w).length + 1 = p + 1 + w.length + 1 := by rw [List.length_cons]; omega
    rw [e1, e2, l_Reader_keyword_8, if_neg g1, if_pos (Int.natCast_nonneg p), Int.toNat_natCast, h2, Option.bind_some, if_neg hc, w1, w4]
    rcases hf with hf | hf
    · subst hf
      rw [if_pos rfl, ih' 0 (Or.inl rfl), if_neg (fun h => absurd h.1 (by decide)), if_neg (fun h => absurd h.1 (by decide))]
    · subst hf
      rw [if_neg (by decide : ¬ (1 : Int) = 0)]
      by_cases h5 : x4 < x2
      · rw [if_neg (by omega : ¬ (x2 : Int) ≤ (x4 : Int)), if_pos ⟨Int.natCast_nonneg x4, by omega⟩, Int.toNat_natCast]
        by_cases h6 : s 120 x4 = c
        · rw [if_pos h6, ih' 1 (Or.inr rfl)]
          have e3 : pt_mt (s 120) x2 (c :: w) x4 = pt_mt (s 120) x2 w (x4 + 1) := by
            rw [pt_mt, decide_eq_true h5, decide_eq_true h6, Bool.true_and, Bool.true_and]
          rw [e3]
        · rw [if_neg h6, ih' 0 (Or.inl rfl), if_neg (fun h => absurd h.1 (by decide))]
          have e3 : pt_mt (s 120) x2 (c :: w) x4 = false := by
            rw [pt_mt, decide_eq_false h6, Bool.false_and, Bool.and_false]
          rw [e3, if_neg (fun h => absurd h.2 (by decide))]
      · rw [if_pos (by omega : (x2 : Int) ≤ (x4 : Int)), ih' 0 (Or.inl rfl), if_neg (fun h => absurd h.1 (by decide))]
        have e3 : pt_mt (s 120) x2 (c :: w) x4 = false := by
          rw [pt_mt, decide_eq_false h5, Bool.false_and]
        rw [e3, if_neg (fun h => absurd h.2 (by decide))]
def pt_kv : Option Nat → Int
  | some k => 256 + (k : Int)
  | none => 2
theorem pt_kw2 (s : px_Z) {x1 x2 : Nat} (hx1 : x1 ≤ 400) (hx2 : x2 ≤ 400) : ∀ (ws : List (List Int)), (∀ w ∈ ws, (∀ c ∈ w, c ≠ 32) ∧ w.length ≤ 100) → ∀ (n p k : Nat), (px_tx 0).drop p = pt_enc ws → (pt_enc ws).length < n → p ≤ 138 → k + ws.length ≤ 1000 →
    l_Reader_keyword_8 s n (x1 : Int) (x2 : Int) (256 + (k : Int)) (x1 : Int) 1 (p : Int) = some (pt_kv (pt_ix (s 120) x1 x2 ws k)) := by
  intro ws
  induction ws with
  | nil =>
    intro _ n p k hd hn hp hk
    have h4 := pt_txl
    have h5 : (px_tx 0).length ≤ p := List.drop_eq_nil_iff.mp hd
    obtain ⟨n, rfl⟩ : ∃ m, n = m + 1 := ⟨n - 1, by simp [pt_enc] at hn; omega⟩
    rw [l_Reader_keyword_8, if_pos (by omega)]
    rfl
  | cons w ws ih =>
    intro hw n p k hd hn hp hk
    have hw1 := hw w (List.mem_cons_self)
    have e0 : (pt_enc (w :: ws)).length = w.length + 1 + (pt_enc ws).length := by
      rw [pt_enc, List.length_append, List.length_cons]; omega
    rw [List.length_cons] at hk
    obtain ⟨n, rfl⟩ : ∃ m, n = m + w.length + 1 := ⟨n - w.length - 1, by omega⟩
    have h4 := pt_txl
    have hd' : (px_tx 0).drop p = w ++ 32 :: pt_enc ws := hd
    have hl : (px_tx 0).length - p = w.length + 1 + (pt_enc ws).length := by
      rw [← List.length_drop, hd]; exact e0
    have hd2 : (px_tx 0).drop (p + w.length + 1) = pt_enc ws := by
      rw [show p + w.length + 1 = p + (w.length + 1) by omega, ← List.drop_drop, hd', List.drop_append]
      simp
    rw [pt_kw1 s hx2 w hw1.1 n p x1 1 (256 + (k : Int)) (pt_enc ws) hd' (by omega) (Or.inr rfl), pt_ix]
    by_cases h5 : pt_mt (s 120) x2 w x1 = true
    · rw [if_pos ⟨rfl, h5⟩, if_pos h5]; rfl
    · rw [if_neg (fun h => h5 h.2), if_neg h5, pz_wr_id (by omega) (by omega), show (256 : Int) + (k : Int) + 1 = 256 + ((k + 1 : Nat) : Int) by omega]
      exact ih (fun w h => hw w (List.mem_cons_of_mem _ h)) n (p + w.length + 1) (k + 1) hd2 (by omega) (by omega) (by omega)
theorem pt_wsok : ∀ w ∈ pt_ws, (∀ c ∈ w, c ≠ 32) ∧ w.length ≤ 100 := by decide +kernel
theorem pt_encl : (pt_enc pt_ws).length = 138 := by decide +kernel
/-- a WORD of the class -/
theorem pt_keyword (s : px_Z) {x1 x2 : Nat} (hx1 : x1 ≤ 400) (hx2 : x2 ≤ 400) : f_Reader_keyword s (x1 : Int) (x2 : Int) = some (pt_kv (pt_ix (s 120) x1 x2 pt_ws 0)) := by
  have h1 := pt_encl
  have h2 : px_big = 1000000 := rfl
  have h3 : pt_ws.length ≤ 100 := by decide +kernel
  exact pt_kw2 s hx1 hx2 pt_ws pt_wsok px_big 0 0 (by rw [List.drop_zero]; exact pt_tx0) (by omega) (by omega) (by omega)
