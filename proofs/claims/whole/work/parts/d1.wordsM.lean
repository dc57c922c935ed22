/-! WORDS of the reference -/
def pt_wm : List (List Int) := [[112, 114, 105, 99, 101], [119, 101, 97, 114], [101, 97, 116], [103, 97, 105, 110], [119, 104, 101, 110], [111, 114], [97, 110, 100], [110, 111, 116], [116, 104, 105, 110, 103], [119, 111, 114, 116, 104], [119, 101, 97, 114, 115], [119, 101, 101, 107], [104, 111, 109, 101], [99, 114, 105, 101, 115], [108, 97, 115, 116], [114, 105, 118, 97, 108], [99, 114, 101, 100, 105, 116], [112, 97, 115, 115], [102, 114, 111, 109], [116, 111], [109, 117, 100], [99, 97, 118, 101], [98, 121], [97, 102, 116, 101, 114], [112, 97, 121], [99, 114, 121], [119, 97, 105, 116], [97, 103, 97, 105, 110]]
theorem pt_wd0 : pz_wd = 32 :: pt_enc pt_wm := by decide +kernel
theorem pt_wdl : pz_wd.length = 139 := by decide +kernel
theorem pt_wdg {s : px_Z} (hW : ∀ i, i < 139 → s 157 i = pz_wd.getD i 0) {p : Nat} {c : Int} {r : List Int} (h : pz_wd.drop p = c :: r) : p < 139 ∧ s 157 p = c ∧ pz_wd.drop (p + 1) = r := by
  obtain ⟨h1, h2, h3⟩ := pt_drop h
  rw [pt_wdl] at h1
  refine ⟨h1, ?_, h3⟩
  rw [hW p h1, List.getD_eq_getElem?_getD, h2]; rfl
theorem pt_w1 {a b : Nat} (ha : a ≤ 1000) (hb : b ≤ 1000) : px_wr ((a : Int) + (b : Int)) = ((a + b : Nat) : Int) := by rw [pz_wr_id (by omega) (by omega)]; omega
theorem pt_w2 {a b : Nat} (ha : a ≤ 1000) (hb : b ≤ 1000) : px_wr (px_wr ((a : Int) + 1) + (b : Int)) = ((a + 1 + b : Nat) : Int) := by rw [pz_wr_id (x := (a : Int) + 1) (by omega) (by omega), pz_wr_id (by omega) (by omega)]; omega
theorem pt_wa1 {s : px_Z} (hW : ∀ i, i < 139 → s 157 i = pz_wd.getD i 0) {K : Int → Int → Int → Int → Int → Option Int} {x1 x2 x4 : Nat} {x3 : Int} (hx2 : x2 ≤ 400) (hl : ∀ i, x1 ≤ i → i < x2 → s 156 i ≠ 32) (rest : List Int) : ∀ (w : List Int) (n x5 : Nat), (∀ c ∈ w, c ≠ 32) → w.length < n → x1 + x5 ≤ x2 → pz_wd.drop (x4 + 1 + x5) = w ++ 32 :: rest →
    ∃ y : Nat, l_M_wordAt_13 s K n (x1 : Int) (x2 : Int) x3 (x4 : Int) (x5 : Int) = K (x1 : Int) (x2 : Int) x3 (x4 : Int) (y : Int) ∧ x4 + 1 + y < 139 ∧ x1 + y ≤ x2 ∧ (pt_mt (s 156) x2 w (x1 + x5) = true ↔ (x1 + y = x2 ∧ s 157 (x4 + 1 + y) = 32)) := by
  intro w
  induction w with
  | nil =>
    intro n x5 _ hn hx hd
    obtain ⟨n, rfl⟩ : ∃ m, n = m + 1 := ⟨n - 1, by rw [List.length_nil] at hn; omega⟩
    obtain ⟨g1, g2, g3⟩ := pt_wdg hW (p := x4 + 1 + x5) (c := 32) (r := rest) hd
    refine ⟨x5, ?_, g1, hx, ?_⟩
    · have w1 : px_wr ((x1 : Int) + (x5 : Int)) = ((x1 + x5 : Nat) : Int) := by rw [pz_wr_id (by omega) (by omega)]; omega
      have w2 : px_wr (px_wr ((x4 : Int) + 1) + (x5 : Int)) = ((x4 + 1 + x5 : Nat) : Int) := by rw [pz_wr_id (x := (x4 : Int) + 1) (by omega) (by omega), pz_wr_id (by omega) (by omega)]; omega
      rw [l_M_wordAt_13, w1, w2]
      by_cases h5 : x2 ≤ x1 + x5
      · rw [if_pos (by omega)]
      · rw [if_neg (by omega), if_pos ⟨Int.natCast_nonneg _, by omega⟩, if_pos ⟨Int.natCast_nonneg _, by omega⟩, Int.toNat_natCast, Int.toNat_natCast, g2, if_neg (fun h => hl (x1 + x5) (by omega) (by omega) h.symm)]
    · rw [pt_mt, decide_eq_true_iff]
      exact ⟨fun h => ⟨h, g2⟩, fun h => h.1⟩
  | cons c w ih =>
    intro n x5 hw hn hx hd
    rw [List.length_cons] at hn
    obtain ⟨n, rfl⟩ : ∃ m, n = m + 1 := ⟨n - 1, by omega⟩
    obtain ⟨g1, g2, g3⟩ := pt_wdg hW (p := x4 + 1 + x5) (c := c) (r := w ++ 32 :: rest) hd
    have hc : c ≠ 32 := hw c (List.mem_cons_self)
    have w1 : px_wr ((x1 : Int) + (x5 : Int)) = ((x1 + x5 : Nat) : Int) := by rw [pz_wr_id (by omega) (by omega)]; omega
    have w2 : px_wr (px_wr ((x4 : Int) + 1) + (x5 : Int)) = ((x4 + 1 + x5 : Nat) : Int) := by rw [pz_wr_id (x := (x4 : Int) + 1) (by omega) (by omega), pz_wr_id (by omega) (by omega)]; omega
    have w3 : px_wr ((x5 : Int) + 1) = ((x5 + 1 : Nat) : Int) := pz_wr_suc (by omega)
    rw [l_M_wordAt_13, w1, w2, w3]
    by_cases h5 : x2 ≤ x1 + x5
    · refine ⟨x5, by rw [if_pos (by omega)], g1, hx, ?_⟩
      rw [pt_mt, decide_eq_false (by omega : ¬ x1 + x5 < x2), Bool.false_and]
      exact ⟨fun h => absurd h (by decide), fun h => absurd (g2.symm.trans h.2) hc⟩
    · rw [if_neg (by omega), if_pos ⟨Int.natCast_nonneg _, by omega⟩, if_pos ⟨Int.natCast_nonneg _, by omega⟩, Int.toNat_natCast, Int.toNat_natCast, g2]
      by_cases h6 : c = s 156 (x1 + x5)
      · rw [if_pos h6]
        obtain ⟨y, a1, a2, a3, a4⟩ := ih n (x5 + 1) (fun c h => hw c (List.mem_cons_of_mem _ h)) (by omega) (by omega) (by rw [← Nat.add_assoc]; exact g3)
        refine ⟨y, a1, a2, a3, ?_⟩
        rw [pt_mt, decide_eq_true (by omega : x1 + x5 < x2), decide_eq_true h6.symm, Bool.true_and, Bool.true_and]
        exact a4
      · refine ⟨x5, by rw [if_neg h6], g1, hx, ?_⟩
        rw [pt_mt, decide_eq_false (p := s 156 (x1 + x5) = c) (fun h => h6 h.symm), Bool.false_and, Bool.and_false]
        exact ⟨fun h => absurd h (by decide), fun h => by omega⟩
theorem pt_wa2 {s : px_Z} (hW : ∀ i, i < 139 → s 157 i = pz_wd.getD i 0) {K : Int → Int → Int → Int → Option Int} {x1 x2 x3 : Int} (rest : List Int) : ∀ (w : List Int) (n p : Nat), (∀ c ∈ w, c ≠ 32) → w.length < n → pz_wd.drop p = w ++ 32 :: rest → l_M_wordAt_59 s K n x1 x2 x3 (p : Int) = K x1 x2 x3 ((p + w.length : Nat) : Int) ∧ pz_wd.drop (p + w.length + 1) = rest := by
  intro w
  induction w with
  | nil =>
    intro n p _ hn hd
    obtain ⟨n, rfl⟩ : ∃ m, n = m + 1 := ⟨n - 1, by rw [List.length_nil] at hn; omega⟩
    obtain ⟨g1, g2, g3⟩ := pt_wdg hW (p := p) (c := 32) (r := rest) hd
    rw [l_M_wordAt_59, if_pos ⟨Int.natCast_nonneg _, by omega⟩, Int.toNat_natCast, g2, if_pos rfl]
    exact ⟨rfl, g3⟩
  | cons c w ih =>
    intro n p hw hn hd
    rw [List.length_cons] at hn
    obtain ⟨n, rfl⟩ : ∃ m, n = m + 1 := ⟨n - 1, by omega⟩
    obtain ⟨g1, g2, g3⟩ := pt_wdg hW (p := p) (c := c) (r := w ++ 32 :: rest) hd
    have hc : c ≠ 32 := hw c (List.mem_cons_self)
    obtain ⟨i1, i2⟩ := ih n (p + 1) (fun c h => hw c (List.mem_cons_of_mem _ h)) (by omega) g3
    rw [l_M_wordAt_59, if_pos ⟨Int.natCast_nonneg _, by omega⟩, Int.toNat_natCast, g2, if_neg hc, pz_wr_suc (by omega), i1, List.length_cons, show p + 1 + w.length = p + (w.length + 1) by omega]
    refine ⟨rfl, ?_⟩
    rw [← i2]; congr 1; omega
def pt_mv : Option Nat → Int
  | some k => (k : Int)
  | none => -1
theorem pt_wa3 {s : px_Z} (hW : ∀ i, i < 139 → s 157 i = pz_wd.getD i 0) {x1 x2 : Nat} (hx1 : x1 ≤ x2) (hx2 : x2 ≤ 400) (hl : ∀ i, x1 ≤ i → i < x2 → s 156 i ≠ 32) : ∀ (ws : List (List Int)), (∀ w ∈ ws, (∀ c ∈ w, c ≠ 32) ∧ w.length ≤ 100) → ∀ (n x4 k : Nat), pz_wd.drop (x4 + 1) = pt_enc ws → x4 ≤ 138 → ws.length < n → k + ws.length ≤ 1000 →
    l_M_wordAt_4 s n (x1 : Int) (x2 : Int) ((k : Int) - 1) (x4 : Int) = some (pt_mv (pt_ix (s 156) x1 x2 ws k)) := by
  intro ws
  have hb : px_big = 1000000 := rfl
  induction ws with
  | nil =>
    intro _ n x4 k hd h4 hn hk
    have h5 : pz_wd.length ≤ x4 + 1 := List.drop_eq_nil_iff.mp hd
    rw [pt_wdl] at h5
    obtain ⟨n, rfl⟩ : ∃ m, n = m + 1 := ⟨n - 1, by rw [List.length_nil] at hn; omega⟩
    rw [l_M_wordAt_4, if_pos (by omega)]
    rfl
  | cons w ws ih =>
    intro hw n x4 k hd h4 hn hk
    have hw1 := hw w (List.mem_cons_self)
    rw [List.length_cons] at hk hn
    obtain ⟨n, rfl⟩ : ∃ m, n = m + 1 := ⟨n - 1, by omega⟩
    have hd' : pz_wd.drop (x4 + 1) = w ++ 32 :: pt_enc ws := hd
    have h5 : x4 + 1 < 139 := by
      apply Nat.lt_of_not_le; intro h
      rw [List.drop_eq_nil_of_le (by rw [pt_wdl]; exact h)] at hd'
      cases w <;> cases hd'
    rw [l_M_wordAt_4, if_neg (by omega), pz_wr_id (x := (k : Int) - 1 + 1) (by omega) (by omega), show (k : Int) - 1 + 1 = (k : Int) by omega]
    obtain ⟨y, a1, a2, a3, a4⟩ := pt_wa1 hW (K := fun x1 x2 x3 x4 x5 => if (px_wr (x1 + x5)) = (x2) then (if 0 ≤ (px_wr ((px_wr (x4 + 1)) + x5)) ∧ (px_wr ((px_wr (x4 + 1)) + x5)) < 139 then if (s 157 (px_wr ((px_wr (x4 + 1)) + x5)).toNat) = (32) then some x3 else l_M_wordAt_59 s (fun x1 x2 x3 x4 => l_M_wordAt_4 s  n x1 x2 x3 x4) px_big x1 x2 x3 (px_wr (x4 + 1)) else none) else l_M_wordAt_59 s (fun x1 x2 x3 x4 => l_M_wordAt_4 s  n x1 x2 x3 x4) px_big x1 x2 x3 (px_wr (x4 + 1))) (x3 := (k : Int)) (x4 := x4) hx2 hl (pt_enc ws) w px_big 0 hw1.1 (by omega) (by omega) hd'
    rw [show ((0 : Nat) : Int) = 0 from rfl] at a1
    obtain ⟨b1, b2⟩ := pt_wa2 hW (K := fun x1 x2 x3 x4 => l_M_wordAt_4 s  n x1 x2 x3 x4) (x1 := (x1 : Int)) (x2 := (x2 : Int)) (x3 := (k : Int)) (pt_enc ws) w px_big (x4 + 1) hw1.1 (by omega) hd'
    have h6 : x4 + 1 + w.length ≤ 138 := by
      have := congrArg List.length hd'
      rw [List.length_drop, pt_wdl, List.length_append, List.length_cons] at this
      omega
    have ih' := ih (fun w h => hw w (List.mem_cons_of_mem _ h)) n (x4 + 1 + w.length) (k + 1) b2 (by omega) (by omega) (by omega)
    rw [show (((k + 1 : Nat) : Int) - 1) = (k : Int) by omega] at ih'
    have q1 : x1 ≤ 1000 := by omega
    have q2 : y ≤ 1000 := by omega
    have q4 : x4 ≤ 1000 := by omega
    have q3 : x4 < 2147483647 := by omega
    have w3 := pz_wr_suc q3
    have w1 := pt_w1 q1 q2
    have w2 := pt_w2 q4 q2
    have hsk : l_M_wordAt_59 s (fun x1 x2 x3 x4 => l_M_wordAt_4 s  n x1 x2 x3 x4) px_big (x1 : Int) (x2 : Int) (k : Int) ((x4 + 1 : Nat) : Int) = some (pt_mv (pt_ix (s 156) x1 x2 ws (k + 1))) := b1.trans ih'
    rw [a1, w1, w2, w3, hsk, pt_ix]
    clear w1 w2 w3 a1
    by_cases h7 : pt_mt (s 156) x2 w x1 = true
    · obtain ⟨c1, c2⟩ := a4.mp h7
      rw [if_pos (by omega), if_pos ⟨Int.natCast_nonneg _, by omega⟩, Int.toNat_natCast, if_pos c2, if_pos h7]; rfl
    · rw [if_neg h7]
      by_cases c1 : x1 + y = x2
      · rw [if_pos (by omega), if_pos ⟨Int.natCast_nonneg _, by omega⟩, Int.toNat_natCast, if_neg (fun h => h7 (a4.mpr ⟨c1, h⟩))]
      · rw [if_neg (by omega)]
theorem pt_wmok : ∀ w ∈ pt_wm, (∀ c ∈ w, c ≠ 32) ∧ w.length ≤ 100 := by decide +kernel
/-- a WORD of the reference -/
theorem pt_wordAt {s : px_Z} (hW : ∀ i, i < 139 → s 157 i = pz_wd.getD i 0) {x1 x2 : Nat} (hx1 : x1 ≤ x2) (hx2 : x2 ≤ 400) (hl : ∀ i, x1 ≤ i → i < x2 → s 156 i ≠ 32) : f_M_wordAt s (x1 : Int) (x2 : Int) = some (pt_mv (pt_ix (s 156) x1 x2 pt_wm 0)) := by
  have h2 : px_big = 1000000 := rfl
  have h3 : pt_wm.length ≤ 100 := by decide +kernel
  have h4 : pz_wd.drop (0 + 1) = pt_enc pt_wm := by rw [pt_wd0]; rfl
  exact pt_wa3 hW hx1 hx2 hl pt_wm pt_wmok px_big 0 0 h4 (by omega) (by omega) (by omega)
