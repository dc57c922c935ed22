/-! FALSE, MESSENGERS -/
theorem po_wrong {s : px_Z} (h : pz_I s) : pz_oq (f_R_wrong s) s (fun u => f_M_wrong u) := by
  have h' := h
  obtain ⟨n, hW, hU, hM, hT, hX, hC⟩ := h
  obtain ⟨hn, w1, wF, w3, w4, w5, w6, ⟨w7a, w7b, w7c⟩, w8⟩ := hW
  obtain ⟨l1, l2, l3, l4⟩ := w7b
  have l1' : s 38 1 = s 150 53 := l1
  obtain ⟨L, hL⟩ : ∃ L : Nat, s 150 53 = (L : Int) := ⟨(s 150 53).toNat, by omega⟩
  have hL12 : L ≤ 12 := by omega
  have hsi : ∀ i : Nat, i < L → s 40 i = s 179 i ∧ 0 ≤ s 179 i ∧ s 179 i < 8 ∧ s 41 i = s 180 i ∧ s 42 i = s 181 i := fun i hi => l4 i (by omega)
  have k74 : s 7 4 = s 151 0 := wF.1.2.2.2.2.1
  -- what is against what
  have hag : ∀ i j : Nat, i < L → j < L → f_M_areAgainst (px_up s 150 0 0) (i : Int) (j : Int) = some (if s 179 i = s 179 j ∧ ((s 180 i = s 180 j ∧ s 181 i ≠ s 181 j) ∨ (s 180 i < s 180 j ∧ s 181 j < s 181 i)) then 1 else 0) := by
    intro i j hi hj
    have pi : 0 ≤ (i : Int) ∧ (i : Int) < 12 := by omega
    have pj : 0 ≤ (j : Int) ∧ (j : Int) < 12 := by omega
    unfold f_M_areAgainst
    simp only [if_pos pi, if_pos pj, Int.toNat_natCast]
    simp (disch := decide) only [pz_up_c]
    repeat' split
    all_goals first | rfl | (exfalso; omega)
  have hgs : ∀ i j : Nat, i < L → j < L → f_Told_gainsay s (i : Int) (j : Int) = some (if ((s 180 i = s 180 j ∧ s 181 i ≠ s 181 j) ∨ (s 180 i < s 180 j ∧ s 181 j < s 181 i)) then 1 else 0) := by
    intro i j hi hj
    have pi : 0 ≤ (i : Int) ∧ (i : Int) < 12 := by omega
    have pj : 0 ≤ (j : Int) ∧ (j : Int) < 12 := by omega
    unfold f_Told_gainsay j_Told_gainsay_j18
    simp only [if_pos pi, if_pos pj, Int.toNat_natCast, (hsi i hi).2.2.2.1, (hsi i hi).2.2.2.2, (hsi j hj).2.2.2.1, (hsi j hj).2.2.2.2]
    repeat' split
    all_goals first | rfl | (exfalso; omega)
  -- the inner loops
  have hin : ∀ (K1 : Int → Int → Option Int) (K2 : px_Z → Int → Int → Option (Int × px_Z)) (i t : Nat), i < L → s 179 i = (t : Int) → t < 8 → ∀ (r fu gu j A : Nat), j + r = L → r < fu → r < gu → A < 256 → ∃ B : Nat, B < 256 ∧ l_Told_falseThings_42 s K1 fu (A : Int) (i : Int) (t : Int) (j : Int) = K1 (B : Int) (i : Int) ∧ l_M_wrong_44 K2 gu (px_up s 150 0 0) (A : Int) (i : Int) (t : Int) (j : Int) = K2 (px_up s 150 0 0) (B : Int) (i : Int) := by
    intro K1 K2 i t hi ht ht8 r
    induction r with
    | zero =>
      intro fu gu j A hj hf hg hA
      obtain ⟨f, rfl⟩ : ∃ f, fu = f + 1 := ⟨fu - 1, by omega⟩
      obtain ⟨g, rfl⟩ : ∃ g, gu = g + 1 := ⟨gu - 1, by omega⟩
      rw [l_Told_falseThings_42, l_M_wrong_44, l1', hL, if_pos (by omega), show (px_up s 150 0 0) 150 53 = s 150 53 from rfl, hL, if_pos (by omega)]
      exact ⟨A, hA, rfl, rfl⟩
    | succ r ih =>
      intro fu gu j A hj hf hg hA
      obtain ⟨f, rfl⟩ : ∃ f, fu = f + 1 := ⟨fu - 1, by omega⟩
      obtain ⟨g, rfl⟩ : ∃ g, gu = g + 1 := ⟨gu - 1, by omega⟩
      have hjL : j < L := by omega
      rw [l_Told_falseThings_42, l_M_wrong_44, l1', show (px_up s 150 0 0) 150 53 = s 150 53 from rfl, hL]
      simp only [if_neg (show ¬ ((L : Int) ≤ (j : Int)) by omega), if_pos (show 0 ≤ (j : Int) ∧ (j : Int) < 12 by omega)]
      rw [Int.toNat_natCast, hgs i j hi hjL, hag i j hi hjL, Option.bind_some, Option.bind_some, pz_i1, pz_i1, pz_wr_suc (by omega), (hsi j hjL).1, ht, pz_add hA ht8]
      by_cases c1 : s 179 j = (t : Int)
      · rw [if_pos c1]
        by_cases c2 : (s 180 i = s 180 j ∧ s 181 i ≠ s 181 j) ∨ (s 180 i < s 180 j ∧ s 181 j < s 181 i)
        · rw [if_pos c2, if_pos ⟨c1.symm, c2⟩]
          exact ih f g (j + 1) _ (by omega) (by omega) (by omega) (pz_or_lt hA ht8)
        · rw [if_neg c2, if_neg (fun q => c2 q.2)]
          exact ih f g (j + 1) _ (by omega) (by omega) (by omega) hA
      · rw [if_neg c1, if_neg (fun q => c1 q.1.symm)]
        exact ih f g (j + 1) _ (by omega) (by omega) (by omega) hA
  have hout : ∀ (r fu gu i A : Nat), i + r = L → r < fu → r < gu → A < 256 → ∃ B : Nat, l_Told_falseThings_4 s fu (A : Int) (i : Int) = some (B : Int) ∧ l_M_wrong_7 gu (px_up s 150 0 0) (A : Int) (i : Int) = some ((B : Int), px_up s 150 0 0) := by
    intro r
    induction r with
    | zero =>
      intro fu gu i A hi hf hg hA
      obtain ⟨f, rfl⟩ : ∃ f, fu = f + 1 := ⟨fu - 1, by omega⟩
      obtain ⟨g, rfl⟩ : ∃ g, gu = g + 1 := ⟨gu - 1, by omega⟩
      rw [l_Told_falseThings_4, l_M_wrong_7, l1', hL, if_pos (by omega), show (px_up s 150 0 0) 150 53 = s 150 53 from rfl, hL, if_pos (by omega)]
      exact ⟨A, rfl, rfl⟩
    | succ r ih =>
      intro fu gu i A hi hf hg hA
      obtain ⟨f, rfl⟩ : ∃ f, fu = f + 1 := ⟨fu - 1, by omega⟩
      obtain ⟨g, rfl⟩ : ∃ g, gu = g + 1 := ⟨gu - 1, by omega⟩
      have hiL : i < L := by omega
      have pi : 0 ≤ (i : Int) ∧ (i : Int) < 12 := by omega
      obtain ⟨q1, q2, q3, q4, q5⟩ := hsi i hiL
      obtain ⟨t, ht⟩ : ∃ t : Nat, s 179 i = (t : Int) := ⟨(s 179 i).toNat, by omega⟩
      have ht8 : t < 8 := by omega
      have pt : 0 ≤ (t : Int) ∧ (t : Int) < 8 := by omega
      have pt7 : 0 ≤ (t : Int) ∧ (t : Int) ≤ 7 := by omega
      have k8 : s 8 t = s 151 (8 + t) := (wF.2.2.1 t ht8).1
      have hgo : ∀ A : Nat, A < 256 → ∃ B : Nat, l_Told_falseThings_42 s (fun x2 x3 => l_Told_falseThings_4 s f x2 (px_wr (x3 + 1))) px_big (A : Int) (i : Int) (t : Int) 0 = some (B : Int) ∧ l_M_wrong_44 (fun s x1 x2 => l_M_wrong_7 g s x1 (px_wr (x2 + 1))) px_big (px_up s 150 0 0) (A : Int) (i : Int) (t : Int) 0 = some ((B : Int), px_up s 150 0 0) := by
        intro A hA
        obtain ⟨B, b1, b2, b3⟩ := hin (fun x2 x3 => l_Told_falseThings_4 s f x2 (px_wr (x3 + 1))) (fun s x1 x2 => l_M_wrong_7 g s x1 (px_wr (x2 + 1))) i t hiL ht ht8 L px_big px_big 0 A (by omega) (pz_big_lt (by omega)) (pz_big_lt (by omega)) hA
        rw [show ((0 : Nat) : Int) = 0 from rfl] at b2 b3
        rw [b2, b3]
        show ∃ C : Nat, l_Told_falseThings_4 s f (B : Int) (px_wr ((i : Int) + 1)) = _ ∧ l_M_wrong_7 g (px_up s 150 0 0) (B : Int) (px_wr ((i : Int) + 1)) = _
        rw [pz_wr_suc (by omega)]
        exact ih f g (i + 1) B (by omega) (by omega) (by omega) b1
      rw [l_Told_falseThings_4, l_M_wrong_7, pz_within, pz_i1, Int.toNat_natCast]
      simp (disch := decide) only [pz_up_c, pz_up_i]
      simp only [l1', hL, if_neg (show ¬ ((L : Int) ≤ (i : Int)) by omega), if_pos pi, q1, q4, q5, ht, if_pos pt, if_pos pt7, Int.toNat_natCast, k74]
      rw [pz_wr_id (x := 8 + (t : Int)) (by omega) (by omega), if_pos (show 0 ≤ 8 + (t : Int) ∧ 8 + (t : Int) < 40 by omega), show (8 + (t : Int)).toNat = 8 + t by omega, ← k8, pz_add hA ht8]
      by_cases c1 : s 151 0 < s 180 i
      · rw [if_pos c1, if_pos c1]; exact hgo A hA
      · rw [if_neg c1, if_neg c1]
        by_cases c2 : s 181 i ≤ s 8 t
        · rw [if_pos c2, if_pos c2]; exact hgo A hA
        · rw [if_neg c2, if_neg c2]; exact hgo _ (pz_or_lt hA ht8)
  obtain ⟨B, e1, e2⟩ := hout L px_big px_big 0 0 (by omega) (pz_big_lt (by omega)) (pz_big_lt (by omega)) (by decide)
  refine ⟨(B : Int), _, ?_, e2, pz_I_told h'⟩
  unfold f_R_wrong f_Told_falseThings
  rw [show l_Told_falseThings_4 s px_big 0 0 = some (B : Int) from e1]
  rfl
theorem po_messengers {s : px_Z} (h : pz_I s) (v : Int) : pz_oq (f_R_messengers s v) s (fun u => f_M_messengers u v) := by
  have h' := h
  obtain ⟨n, hW, hU, hM, hT, hX, hC⟩ := h
  obtain ⟨hn, w1, wF, w3, w4, w5, w6, ⟨w7a, w7b, w7c⟩, w8⟩ := hW
  obtain ⟨l1, l2, l3, l4⟩ := w7c
  have l1' : s 38 2 = s 150 57 := l1
  obtain ⟨L, hL⟩ : ∃ L : Nat, s 150 57 = (L : Int) := ⟨(s 150 57).toNat, by omega⟩
  have hL12 : L ≤ 12 := by omega
  have hsi : ∀ i : Nat, i < L → s 43 i = s 182 i ∧ 0 ≤ s 43 i ∧ s 43 i ≤ 60 ∧ 1 ≤ s 44 i ∧ s 44 i ≤ 20 ∧ s 43 i + s 44 i - 1 = s 183 i := fun i hi => l4 i (by omega)
  have huw : ∀ (w : Int) (r fu gu i A : Nat), i + r = L → A ≤ i → r < fu → r < gu → ∃ B : Nat, l_Told_underWay_4 s fu w (A : Int) (i : Int) = some (B : Int) ∧ l_M_underWay_4 (px_up s 150 0 0) gu w (A : Int) (i : Int) = some (B : Int) := by
    intro w r
    induction r with
    | zero =>
      intro fu gu i A hi hA hf hg
      obtain ⟨f, rfl⟩ : ∃ f, fu = f + 1 := ⟨fu - 1, by omega⟩
      obtain ⟨g, rfl⟩ : ∃ g, gu = g + 1 := ⟨gu - 1, by omega⟩
      rw [l_Told_underWay_4, l_M_underWay_4, l1', hL, if_pos (by omega), show (px_up s 150 0 0) 150 57 = s 150 57 from rfl, hL, if_pos (by omega)]
      exact ⟨A, rfl, rfl⟩
    | succ r ih =>
      intro fu gu i A hi hA hf hg
      obtain ⟨f, rfl⟩ : ∃ f, fu = f + 1 := ⟨fu - 1, by omega⟩
      obtain ⟨g, rfl⟩ : ∃ g, gu = g + 1 := ⟨gu - 1, by omega⟩
      have pi : 0 ≤ (i : Int) ∧ (i : Int) < 12 := by omega
      obtain ⟨q1, q2, q3, q4, q5, q6⟩ := hsi i (by omega)
      rw [l_Told_underWay_4, l_M_underWay_4, Int.toNat_natCast, pz_wr_id (x := s 43 i + s 44 i) (by omega) (by omega), pz_wr_id (x := s 43 i + s 44 i - 1) (by omega) (by omega), q6, pz_within, pz_isIn, pz_i1, pz_i1, pz_wr_suc (i := i) (by omega), pz_wr_suc (i := A) (by omega)]
      simp (disch := decide) only [pz_up_c, pz_up_i]
      simp only [l1', hL, if_neg (show ¬ ((L : Int) ≤ (i : Int)) by omega), if_pos pi, ← q1]
      by_cases c1 : s 43 i ≤ w ∧ w ≤ s 183 i
      · rw [if_pos c1, if_pos c1]; exact ih f g (i + 1) (A + 1) (by omega) (by omega) (by omega) (by omega)
      · rw [if_neg c1, if_neg c1]; exact ih f g (i + 1) A (by omega) (by omega) (by omega) (by omega)
  have hu2 : ∀ w : Int, ∃ B : Nat, f_Told_underWay s w = some (B : Int) ∧ f_M_underWay (px_up s 150 0 0) w = some (B : Int) := fun w => huw w L px_big px_big 0 0 (by omega) (by omega) (pz_big_lt (by omega)) (pz_big_lt (by omega))
  have hb : ∀ (K : px_Z → Int → Int → Int → Option (Int × px_Z)) (r fu gu i : Nat) (b mo : Int), i + r = 61 → r < fu → r < gu → ((b = -1 ∧ mo = 0) ∨ (b ≠ -1 ∧ f_Told_underWay s b = some mo)) → 0 ≤ mo → ∃ b2 mo2, l_Told_busiestWeek_6 s fu b mo (i : Int) = some b2 ∧ l_M_messengers_17 K gu (px_up s 150 0 0) v b mo (i : Int) = K (px_up s 150 0 0) v b2 mo2 ∧ ((b2 = -1 ∧ mo2 = 0) ∨ (b2 ≠ -1 ∧ f_Told_underWay s b2 = some mo2)) := by
    intro K r
    induction r with
    | zero =>
      intro fu gu i b mo hi hf hg hb hmo
      obtain ⟨f, rfl⟩ : ∃ f, fu = f + 1 := ⟨fu - 1, by omega⟩
      obtain ⟨g, rfl⟩ : ∃ g, gu = g + 1 := ⟨gu - 1, by omega⟩
      rw [l_Told_busiestWeek_6, l_M_messengers_17, if_pos (by omega), if_pos (by omega)]
      exact ⟨b, mo, rfl, rfl, hb⟩
    | succ r ih =>
      intro fu gu i b mo hi hf hg hb hmo
      obtain ⟨f, rfl⟩ : ∃ f, fu = f + 1 := ⟨fu - 1, by omega⟩
      obtain ⟨g, rfl⟩ : ∃ g, gu = g + 1 := ⟨gu - 1, by omega⟩
      obtain ⟨B, e1, e2⟩ := hu2 (i : Int)
      rw [l_Told_busiestWeek_6, l_M_messengers_17, if_neg (by omega), if_neg (by omega), e1, e2]
      simp only [Option.bind_some, pz_wr_suc (show i < 2147483647 by omega)]
      unfold f_M_greater
      by_cases c1 : (B : Int) ≤ mo
      · rw [if_pos c1, if_pos c1, if_pos c1]
        exact ih f g (i + 1) b mo (by omega) (by omega) (by omega) hb hmo
      · rw [if_neg c1, if_neg c1, if_neg c1]
        exact ih f g (i + 1) (i : Int) (B : Int) (by omega) (by omega) (by omega) (Or.inr ⟨by omega, e1⟩) (by omega)
  obtain ⟨b2, mo2, e1, e2, e3⟩ := hb (fun s x1 x2 x3 => if x1 = 0 then some (x3, s) else some (x2, s)) 61 px_big px_big 0 (-1) 0 (by omega) (pz_big_lt (by omega)) (pz_big_lt (by omega)) (Or.inl ⟨rfl, rfl⟩) (by decide)
  rw [show ((0 : Nat) : Int) = 0 from rfl] at e1 e2
  have key : ∃ a, f_R_messengers s v = some a ∧ f_M_messengers s v = some (a, px_up s 150 0 0) := by
    unfold f_R_messengers f_M_messengers f_Told_busiestWeek
    rw [e1, Option.bind_some, pz_isIn, pz_i1, e2]
    by_cases c0 : v = 0
    · subst c0
      rw [if_pos (show (0 : Int) ≤ 0 ∧ (0 : Int) ≤ 1 by decide)]
      show ∃ a, (if b2 = -1 then some 0 else (f_Told_underWay s b2).bind (fun q5 => some q5)) = some a ∧ some (mo2, px_up s 150 0 0) = some (a, px_up s 150 0 0)
      rcases e3 with ⟨q1, q2⟩ | ⟨q1, q2⟩
      · rw [if_pos q1, q2]; exact ⟨_, rfl, rfl⟩
      · rw [if_neg q1, q2]; exact ⟨_, rfl, rfl⟩
    · rw [if_neg c0]
      by_cases c1 : v = 1
      · subst c1
        rw [if_pos (show (0 : Int) ≤ 1 ∧ (1 : Int) ≤ 1 by decide)]
        exact ⟨_, rfl, rfl⟩
      · rw [if_neg c1, if_neg (by omega)]; exact ⟨_, rfl, rfl⟩
  obtain ⟨a, k1, k2⟩ := key
  exact ⟨a, _, k1, k2, pz_I_told h'⟩
/-! CARDS -/
def pz_pq (p q i r : Nat) : Int := (q : Int) ^ i * (p : Int) ^ r
def pz_sm (f : Nat → Int) : Nat → Int
  | 0 => 0
  | k + 1 => pz_sm f k + f k
theorem pz_pow_bd {x : Int} (h1 : 1 ≤ x) (h2 : x ≤ 9) : ∀ k : Nat, 1 ≤ x ^ k ∧ x ^ k ≤ 9 ^ k := by
  intro k
  induction k with
  | zero => exact ⟨by rw [Int.pow_zero]; decide, by rw [Int.pow_zero, Int.pow_zero]; decide⟩
  | succ k ih =>
    rw [Int.pow_succ, Int.pow_succ]
    refine ⟨?_, ?_⟩
    · have := Int.mul_le_mul ih.1 h1 (by decide) (by omega)
      omega
    · exact Int.mul_le_mul ih.2 h2 (by omega) (by omega)
theorem pz_pow9 {k : Nat} (h : k ≤ 11) : (9 : Int) ^ k ≤ 31381059609 := by
  rcases (show k = 0 ∨ k = 1 ∨ k = 2 ∨ k = 3 ∨ k = 4 ∨ k = 5 ∨ k = 6 ∨ k = 7 ∨ k = 8 ∨ k = 9 ∨ k = 10 ∨ k = 11 by omega) with rfl | rfl | rfl | rfl | rfl | rfl | rfl | rfl | rfl | rfl | rfl | rfl <;> decide +kernel
theorem pz_power {s : px_Z} {x : Int} (h1 : 1 ≤ x) (h2 : x ≤ 9) {K : Nat} (hK : K ≤ 11) : f_R_power s x (K : Int) = some (x ^ K) := by
  have hl : ∀ (m fu i : Nat), i + m = K → m < fu → l_R_power_4 s fu x (K : Int) (x ^ i) (i : Int) = some (x ^ K) := by
    intro m
    induction m with
    | zero =>
      intro fu i hi hf
      obtain ⟨f, rfl⟩ : ∃ f, fu = f + 1 := ⟨fu - 1, by omega⟩
      rw [l_R_power_4, if_pos (by omega), show i = K by omega]
    | succ m ih =>
      intro fu i hi hf
      obtain ⟨f, rfl⟩ : ∃ f, fu = f + 1 := ⟨fu - 1, by omega⟩
      have hb := pz_pow_bd h1 h2 (i + 1)
      have h9 := pz_pow9 (show i + 1 ≤ 11 by omega)
      have e : x ^ i * x = x ^ (i + 1) := (Int.pow_succ x i).symm
      rw [l_R_power_4, if_neg (by omega), pz_wr_suc (by omega), e, pz_wl_id (by omega) (by omega)]
      exact ih f (i + 1) (by omega) (by omega)
  have h0 := hl K px_big 0 (by omega) (pz_big_lt (by omega))
  rw [Int.pow_zero, show ((0 : Nat) : Int) = 0 from rfl] at h0
  exact h0
