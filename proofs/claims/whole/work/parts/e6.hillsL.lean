/-! TEXT: THE HILLS, line by line -/
theorem pt_isW {z : px_Z} {b : Nat → Int} {L i : Nat} (hB : pt_B z b L i) {j : Nat} (hj : j < 28) {k m : Int} (hk : k = 256 + (j : Int)) (hm : m = (pt_pe j : Int)) : f_M_isWord z m = if pt_ck b L i = k then 1 else 0 := by
  subst hk; subst hm
  exact pt_isWd hB hj
theorem pt_isE {z : px_Z} {b : Nat → Int} {L i : Nat} (hB : pt_B z b L i) : (i < L ∧ z 150 16 ≠ 0 ∧ pt_ck b L i ≠ 0) ∨ (i = L ∧ z 150 16 = 0 ∧ pt_ck b L i = 0) := by
  obtain ⟨h1, h2, h3, h4, h5, h6, h7, h8, h9, h10⟩ := hB
  rw [h9]
  rcases pt_kinds b h6 with ⟨k1, k2, k3⟩ | ⟨ki, k1, k2⟩ | ⟨ki, k1, k2⟩ | ⟨ki, k1, k2, k3⟩ | ⟨j', ki, kj, k1, k2, k3⟩
  · exact Or.inr ⟨k3, k2, k1⟩
  · exact Or.inl ⟨ki, by rw [k2]; decide, by rw [k1]; decide⟩
  · exact Or.inl ⟨ki, by rw [k2]; decide, by rw [k1]; decide⟩
  · have hcr := of_decide_eq_true k1
    exact Or.inl ⟨ki, by rw [k2]; decide, by omega⟩
  · exact Or.inl ⟨ki, by rw [k2]; decide, by rw [k1]; omega⟩
theorem pt_gon1 {u : px_Z} {b : Nat → Int} {L T t : Nat} (hA : pt_A u b L T t) (h0 : u 121 7 = 0) (h : pt_st b L t < L) : f_Reader_goesOn u = some 1 := by rw [pt_goesOn hA, if_pos ⟨h0, h⟩]
theorem pt_gon0 {u : px_Z} {b : Nat → Int} {L T t : Nat} (hA : pt_A u b L T t) (h : pt_st b L t = L) : f_Reader_goesOn u = some 0 := by rw [pt_goesOn hA, if_neg (fun hh => by omega)]
theorem pt_isW1 {z : px_Z} {b : Nat → Int} {L i : Nat} (hB : pt_B z b L i) {j : Nat} (hj : j < 28) {k m : Int} (hk : k = 256 + (j : Int)) (hm : m = (pt_pe j : Int)) (h : pt_ck b L i = k) : f_M_isWord z m = 1 := by rw [pt_isW hB hj hk hm, if_pos h]
theorem pt_isW0 {z : px_Z} {b : Nat → Int} {L i : Nat} (hB : pt_B z b L i) {j : Nat} (hj : j < 28) {k m : Int} (hk : k = 256 + (j : Int)) (hm : m = (pt_pe j : Int)) (h : pt_ck b L i ≠ k) : f_M_isWord z m = 0 := by rw [pt_isW hB hj hk hm, if_neg h]
theorem pt_1n0 : ¬ (1 : Int) = 0 := by decide
theorem pt_0n1 : ¬ (0 : Int) = -1 := by decide
def pt_HL (n : Nat) (v w : px_Z) : Prop := v 132 0 = (n : Int) ∧ ∀ i, i < n → pt_ro i v w
def pt_HO (v w : px_Z) (r : Int) : Prop := ((v 121 7 = 0 ∧ v 121 8 = -1) ∧ ∃ m : Nat, m ≤ 24 ∧ r = (m : Int) ∧ pt_HL m v w) ∨ (v 121 7 ≠ 0 ∧ r = -1 ∧ w 150 31 = v 121 7 ∧ w 150 32 = v 121 8)
def pt_fh (u v : px_Z) : Prop := ∀ c j, ¬ (c = 121 ∧ (j = 4 ∨ j = 7 ∨ j = 8)) → ¬ (132 ≤ c ∧ c ≤ 137) → v c j = u c j
def pt_gh (z w : px_Z) : Prop := ∀ c j, ¬ (c = 150 ∧ ((14 ≤ j ∧ j ≤ 17) ∨ j = 31 ∨ j = 32)) → ¬ (c = 166 ∧ 120 ≤ j) → w c j = z c j
theorem pt_ro_congr {i : Nat} {v w v' w' : px_Z} (h1 : ∀ c, 133 ≤ c → c ≤ 137 → v' c i = v c i) (h2 : ∀ k, 120 + 5 * i ≤ k → k < 125 + 5 * i → w' 166 k = w 166 k) (h : pt_ro i v w) : pt_ro i v' w' := by
  unfold pt_ro
  rw [h1 133 (by omega) (by omega), h1 134 (by omega) (by omega), h1 135 (by omega) (by omega), h1 136 (by omega) (by omega), h1 137 (by omega) (by omega), h2 (120 + 5 * i) (by omega) (by omega), h2 (121 + 5 * i) (by omega) (by omega), h2 (122 + 5 * i) (by omega) (by omega), h2 (123 + 5 * i) (by omega) (by omega), h2 (124 + 5 * i) (by omega) (by omega)]
  exact h
theorem pt_HL_next {n : Nat} {u z v w : px_Z} (h : pt_HL n u z) (h1 : pt_fhn n u v) (h2 : pt_ghn n z w) (h3 : pt_row n v w) : pt_HL (n + 1) v w := by
  refine ⟨h3.1, fun i hi => ?_⟩
  by_cases e : i = n
  · subst e; exact h3.2
  · exact pt_ro_congr (fun c c1 c2 => h1 c i (by omega) (by omega) (by omega)) (fun k k1 k2 => h2 166 k (by omega) (by omega)) (h.2 i (by omega))
theorem pt_hlD {u : px_Z} (h : u 121 7 ≠ 0) (n : Nat) (x : Int) : l_Reader_readHills_6 (n + 1) u x = some u := by
  rw [l_Reader_readHills_6]
  by_cases h1 : 24 < x
  · rw [if_pos h1]
  · rw [if_neg h1]; unfold f_Reader_goesOn; rw [if_neg h, Option.bind_some, if_pos rfl]
theorem pt_w120 {n : Nat} (h : n < 24) : px_wr (120 + px_wr (5 * (n : Int))) = ((120 + 5 * n : Nat) : Int) := by
  rw [pz_wr_id (x := 5 * (n : Int)) (by omega) (by omega), pz_wr_id (by omega) (by omega)]; omega
set_option maxHeartbeats 1000000 in
theorem pt_hillsL {b : Nat → Int} {L T : Nat} : ∀ (d n fu fm t : Nat) (u z : px_Z), n + d = 24 → d + 1 < fu → d + 1 < fm → pt_A u b L T t → pt_B z b L (pt_st b L t) → u 121 7 = 0 → pt_HL n u z → ∃ v w r, l_Reader_readHills_6 fu u (n : Int) = some v ∧ l_M_readHills_2 (fun s => (f_M_errs s 3).bind (fun q15 => some (q15.1, q15.2))) (fun s x1 => if (s 150 16) = (0) then some (x1, s) else (f_M_errs s 1).bind (fun q17 => some (q17.1, q17.2))) fm z (n : Int) = some (r, w) ∧ pt_fh u v ∧ pt_gh z w ∧ pt_HO v w r := by
  intro d
  induction d with
  | zero =>
    intro n fu fm t u z hd hf hm hA hB h0 hH
    obtain ⟨fu, rfl⟩ : ∃ m, fu = m + 1 + 1 := ⟨fu - 2, by omega⟩
    obtain ⟨fm, rfl⟩ : ∃ m, fm = m + 1 := ⟨fm - 1, by omega⟩
    obtain ⟨g1, g2, g3, g4⟩ := pt_A_tok hA
    have hn : (n : Int) = 24 := by omega
    have fin : ∀ (k : Int), k ≠ 0 → ∀ v w, pt_fa u v → pt_fb z w → v 121 7 = k → v 121 8 = (pt_st b L t : Int) → w 150 31 = k → w 150 32 = (pt_st b L t : Int) → pt_fh u v ∧ pt_gh z w ∧ pt_HO v w (-1) := by
      intro k hk v w a3 a4 a6 a7 a8 a9
      exact ⟨fun c j q1 q2 => a3 c j q1, fun c j q1 q2 => a4 c j q1, Or.inr ⟨by rw [a6]; exact hk, rfl, by rw [a8, a6], by rw [a9, a7]⟩⟩
    rw [l_Reader_readHills_6, if_neg (show ¬ 24 < (n : Int) by omega), l_M_readHills_2]
    rcases pt_isE hB with ⟨he, z0, c0⟩ | ⟨he, z0, c0⟩
    · rw [pt_gon1 hA h0 he, Option.bind_some, if_neg pt_1n0, if_pos g1, g2]
      by_cases h17 : pt_ck b L (pt_st b L t) = 273
      · obtain ⟨v, w, a1, a2, a3, a4, a5, a6, a7, a8, a9⟩ := pt_bad hA hB h0 3
        rw [if_pos h17, if_pos hn, a1, Option.bind_some, pt_hlD (by rw [a6]; decide), pt_isW1 hB (j := 17) (by decide) (k := 273) (m := 17) rfl rfl h17, if_neg pt_1n0, if_pos hn, a2, Option.bind_some]
        exact ⟨v, w, _, rfl, rfl, fin 3 (by decide) v w a3 a4 a6 a7 a8 a9⟩
      · rw [if_neg h17, pt_isW0 hB (j := 17) (by decide) (k := 273) (m := 17) rfl rfl h17, if_pos rfl]
        by_cases h21 : pt_ck b L (pt_st b L t) = 277
        · obtain ⟨v, w, a1, a2, a3, a4, a5, a6, a7, a8, a9⟩ := pt_bad hA hB h0 3
          rw [if_pos h21, if_pos hn, a1, Option.bind_some, pt_hlD (by rw [a6]; decide), pt_isW1 hB (j := 21) (by decide) (k := 277) (m := 21) rfl rfl h21, if_neg pt_1n0, if_pos hn, a2, Option.bind_some]
          exact ⟨v, w, _, rfl, rfl, fin 3 (by decide) v w a3 a4 a6 a7 a8 a9⟩
        · obtain ⟨v, w, a1, a2, a3, a4, a5, a6, a7, a8, a9⟩ := pt_bad hA hB h0 1
          rw [if_neg h21, a1, Option.bind_some, pt_hlD (by rw [a6]; decide), pt_isW0 hB (j := 21) (by decide) (k := 277) (m := 21) rfl rfl h21, if_pos rfl, if_neg z0, a2, Option.bind_some]
          exact ⟨v, w, _, rfl, rfl, fin 1 (by decide) v w a3 a4 a6 a7 a8 a9⟩
    · have h17 : pt_ck b L (pt_st b L t) ≠ 273 := by rw [c0]; decide
      have h21 : pt_ck b L (pt_st b L t) ≠ 277 := by rw [c0]; decide
      rw [pt_gon0 hA he, Option.bind_some, if_pos rfl, pt_isW0 hB (j := 17) (by decide) (k := 273) (m := 17) rfl rfl h17, if_pos rfl, pt_isW0 hB (j := 21) (by decide) (k := 277) (m := 21) rfl rfl h21, if_pos rfl, if_pos z0]
      exact ⟨u, z, _, rfl, rfl, fun _ _ _ _ => rfl, fun _ _ _ _ => rfl, Or.inl ⟨⟨h0, hA.2.2.2.2 h0⟩, n, by omega, rfl, hH⟩⟩
  | succ d ih =>
    intro n fu fm t u z hd hf hm hA hB h0 hH
    obtain ⟨fu, rfl⟩ : ∃ m, fu = m + 1 + 1 := ⟨fu - 2, by omega⟩
    obtain ⟨fm, rfl⟩ : ∃ m, fm = m + 1 := ⟨fm - 1, by omega⟩
    obtain ⟨g1, g2, g3, g4⟩ := pt_A_tok hA
    have hn : ¬ (n : Int) = 24 := by omega
    have hn4 : n < 24 := by omega
    have go : ∀ (v w : px_Z) (r : Int) (t' : Nat), pt_fhn n u v → pt_ghn n z w → pt_out b L T t' v w r → (v 121 7 = 0 → pt_row n v w) → ∃ v' w' r', l_Reader_readHills_6 (fu + 1) v ((n + 1 : Nat) : Int) = some v' ∧ (if r = (-1) then some (-1, w) else l_M_readHills_2 (fun s => (f_M_errs s 3).bind (fun q15 => some (q15.1, q15.2))) (fun s x1 => if (s 150 16) = (0) then some (x1, s) else (f_M_errs s 1).bind (fun q17 => some (q17.1, q17.2))) fm w ((n + 1 : Nat) : Int)) = some (r', w') ∧ pt_fh u v' ∧ pt_gh z w' ∧ pt_HO v' w' r' := by
      intro v w r t' p1 p2 p3 p4
      have q1 : pt_fh u v := fun c j q1 q2 => p1 c j q1 (by omega) (by omega)
      have q2 : pt_gh z w := fun c j q1 q2 => p2 c j q1 (by omega)
      rcases p3 with ⟨h7, hA1, hB1, hr⟩ | ⟨h7, hA1, hr, e31, e32⟩
      · rw [if_neg hr]
        obtain ⟨v', w', r', i1, i2, i3, i4, i5⟩ := ih (n + 1) (fu + 1) fm t' v w (by omega) (by omega) (by omega) hA1 hB1 h7 (pt_HL_next hH p1 p2 (p4 h7))
        exact ⟨v', w', r', i1, i2, fun c j k1 k2 => (i3 c j k1 k2).trans (q1 c j k1 k2), fun c j k1 k2 => (i4 c j k1 k2).trans (q2 c j k1 k2), i5⟩
      · rw [if_pos hr, pt_hlD h7]
        exact ⟨v, w, _, rfl, rfl, q1, q2, Or.inr ⟨h7, rfl, e31, e32⟩⟩
    rw [l_Reader_readHills_6, if_neg (show ¬ 24 < (n : Int) by omega), l_M_readHills_2]
    rcases pt_isE hB with ⟨he, z0, c0⟩ | ⟨he, z0, c0⟩
    · rw [pt_gon1 hA h0 he, Option.bind_some, if_neg pt_1n0, if_pos g1, g2, pz_wr_suc (show n < 2147483647 by omega), pt_w120 hn4]
      by_cases h17 : pt_ck b L (pt_st b L t) = 273
      · obtain ⟨v1, v, w, r, a1, a2, a3, a4, a5, a6, a7⟩ := pt_pass hA hB h0 h17 hH.1 hn4
        rw [if_pos h17, if_neg hn, a1, Option.bind_some, if_neg (show ¬ pt_ck b L (pt_st b L t) = 277 by omega), a2, Option.bind_some, pt_isW1 hB (j := 17) (by decide) (k := 273) (m := 17) rfl rfl h17, if_neg pt_1n0, if_neg hn, if_neg pt_1n0, a3, Option.bind_some]
        exact go v w r (t + 9) a4 a5 a6 a7
      · rw [if_neg h17, pt_isW0 hB (j := 17) (by decide) (k := 273) (m := 17) rfl rfl h17, if_pos rfl]
        by_cases h21 : pt_ck b L (pt_st b L t) = 277
        · obtain ⟨v1, v, w, r, a1, a2, a3, a4, a5, a6, a7⟩ := pt_cave hA hB h0 h21 hH.1 hn4
          rw [if_pos h21, if_neg hn, a1, Option.bind_some, if_pos h21, a2, Option.bind_some, pt_isW1 hB (j := 21) (by decide) (k := 277) (m := 21) rfl rfl h21, if_neg pt_1n0, if_neg hn, if_pos rfl, a3, Option.bind_some]
          exact go v w r (t + 5) a4 a5 a6 a7
        · obtain ⟨v, w, a1, a2, a3, a4, a5, a6, a7, a8, a9⟩ := pt_bad hA hB h0 1
          rw [if_neg h21, a1, Option.bind_some, pt_hlD (by rw [a6]; decide), pt_isW0 hB (j := 21) (by decide) (k := 277) (m := 21) rfl rfl h21, if_pos rfl, if_neg z0, a2, Option.bind_some]
          exact ⟨v, w, _, rfl, rfl, fun c j q1 q2 => a3 c j q1, fun c j q1 q2 => a4 c j q1, Or.inr ⟨by rw [a6]; decide, rfl, by rw [a8, a6], by rw [a9, a7]⟩⟩
    · have h17 : pt_ck b L (pt_st b L t) ≠ 273 := by rw [c0]; decide
      have h21 : pt_ck b L (pt_st b L t) ≠ 277 := by rw [c0]; decide
      rw [pt_gon0 hA he, Option.bind_some, if_pos rfl, pt_isW0 hB (j := 17) (by decide) (k := 273) (m := 17) rfl rfl h17, if_pos rfl, pt_isW0 hB (j := 21) (by decide) (k := 277) (m := 21) rfl rfl h21, if_pos rfl, if_pos z0]
      exact ⟨u, z, _, rfl, rfl, fun _ _ _ _ => rfl, fun _ _ _ _ => rfl, Or.inl ⟨⟨h0, hA.2.2.2.2 h0⟩, n, by omega, rfl, hH⟩⟩
theorem pt_hills {b : Nat → Int} {L T t : Nat} {u z : px_Z} (hA : pt_A u b L T t) (hB : pt_B z b L (pt_st b L t)) (h0 : u 121 7 = 0) : ∃ v w r, f_Reader_readHills u = some v ∧ f_M_readHills z = some (r, w) ∧ pt_fh u v ∧ pt_gh z w ∧ pt_HO v w r := by
  have hbig : px_big = 1000000 := rfl
  obtain ⟨v, w, r, a1, a2, a3, a4, a5⟩ := pt_hillsL (b := b) (L := L) (T := T) 24 0 px_big px_big t (px_up u 132 0 0) z (by omega) (by omega) (by omega) (pt_A_up hA (by omega) (by omega)) hB ((pt_upn (by omega)).trans h0) ⟨pt_upi, fun i hi => absurd hi (Nat.not_lt_zero _)⟩
  exact ⟨v, w, r, a1, a2, fun c j q1 q2 => (a3 c j q1 q2).trans (pt_upn (by omega)), a4, a5⟩
