/-! sets of up to eight, as numbers -/
theorem pz_wr_suc {i : Nat} (h : i < 2147483647) : px_wr ((i : Int) + 1) = ((i + 1 : Nat) : Int) := by
  rw [pz_wr_id (by omega) (by omega)]; omega
def pz_cnt (S : Nat) : Nat := S % 2 + S / 2 % 2 + S / 4 % 2 + S / 8 % 2 + S / 16 % 2 + S / 32 % 2 + S / 64 % 2 + S / 128 % 2
def pz_ra (n : Nat) (p : Nat → Bool) : Bool := (List.range n).all p
theorem pz_ra_at {n : Nat} {p : Nat → Bool} (h : pz_ra n p = true) {i : Nat} (hi : i < n) : p i = true := List.all_eq_true.mp h i (List.mem_range.mpr hi)
set_option maxRecDepth 100000 in
theorem pz_k1 : pz_ra 256 (fun S => pz_ra 8 (fun t => decide (px_and (px_shr (S : Int) (t : Int)) 1 = if S.testBit t then 1 else 0) && decide (px_or (S : Int) (px_shl 1 (t : Int)) = ((S ||| 2 ^ t : Nat) : Int)) && (S.testBit t || (decide (S ||| 2 ^ t = S + 2 ^ t) && decide (pz_cnt (S ||| 2 ^ t) = pz_cnt S + 1))) && decide (S ||| 2 ^ t < 256))) = true := by decide +kernel
theorem pz_bit {S t : Nat} (hS : S < 256) (ht : t < 8) : px_and (px_shr (S : Int) (t : Int)) 1 = if S.testBit t then 1 else 0 := by
  have h := pz_ra_at (pz_ra_at pz_k1 hS) ht
  simp only [Bool.and_eq_true, decide_eq_true_eq] at h
  exact h.1.1.1
theorem pz_add {S t : Nat} (hS : S < 256) (ht : t < 8) : px_or (S : Int) (px_shl 1 (t : Int)) = ((S ||| 2 ^ t : Nat) : Int) := by
  have h := pz_ra_at (pz_ra_at pz_k1 hS) ht
  simp only [Bool.and_eq_true, decide_eq_true_eq] at h
  exact h.1.1.2
theorem pz_or_add {S t : Nat} (hS : S < 256) (ht : t < 8) (hb : S.testBit t = false) : S ||| 2 ^ t = S + 2 ^ t ∧ pz_cnt (S ||| 2 ^ t) = pz_cnt S + 1 := by
  have h := pz_ra_at (pz_ra_at pz_k1 hS) ht
  simp only [Bool.and_eq_true, Bool.or_eq_true, decide_eq_true_eq, hb, Bool.false_eq_true, false_or] at h
  exact h.1.2
theorem pz_or_lt {S t : Nat} (hS : S < 256) (ht : t < 8) : S ||| 2 ^ t < 256 := by
  have h := pz_ra_at (pz_ra_at pz_k1 hS) ht
  simp only [Bool.and_eq_true, decide_eq_true_eq] at h
  exact h.2
set_option maxRecDepth 100000 in
theorem pz_k2 : pz_ra 9 (fun n => decide (px_wr (px_shl 1 (n : Int) - 1) = ((2 ^ n - 1 : Nat) : Int)) && decide (2 ^ n - 1 < 256) && pz_ra 256 (fun S => decide (2 ^ n ≤ S) || (decide (pz_cnt S ≤ n) && pz_ra 8 (fun t => decide (n ≤ t) || (decide (S ||| 2 ^ t < 2 ^ n) && (S.testBit t || (decide (pz_cnt S < n) && (decide (S ||| 2 ^ t = 2 ^ n - 1) == decide (pz_cnt S + 1 = n)))))) && (decide (S = 2 ^ n - 1) == decide (pz_cnt S = n)))) ) = true := by decide +kernel
theorem pz_all {n : Nat} (hn : n ≤ 8) : px_wr (px_shl 1 (n : Int) - 1) = ((2 ^ n - 1 : Nat) : Int) ∧ 2 ^ n - 1 < 256 := by
  have h := pz_ra_at pz_k2 (show n < 9 by omega)
  simp only [Bool.and_eq_true, decide_eq_true_eq] at h
  exact h.1
theorem pz_pow_le {n : Nat} (hn : n ≤ 8) : 2 ^ n ≤ 256 ∧ 1 ≤ 2 ^ n := by
  have h := (pz_all hn).2
  have h2 : 0 < 2 ^ n := Nat.two_pow_pos n
  omega
theorem pz_cnt_le {n S : Nat} (hn : n ≤ 8) (hS : S < 2 ^ n) : pz_cnt S ≤ n ∧ (S = 2 ^ n - 1 ↔ pz_cnt S = n) := by
  have h := pz_ra_at pz_k2 (show n < 9 by omega)
  have h0 := pz_pow_le hn
  simp only [Bool.and_eq_true, decide_eq_true_eq] at h
  have h2 := pz_ra_at h.2 (show S < 256 by omega)
  simp only [Bool.and_eq_true, Bool.or_eq_true, decide_eq_true_eq, beq_iff_eq, decide_eq_decide] at h2
  rcases h2 with h2 | h2
  · omega
  · exact ⟨h2.1.1, h2.2⟩
theorem pz_in_all {n S t : Nat} (hn : n ≤ 8) (hS : S < 2 ^ n) (ht : t < n) : S ||| 2 ^ t < 2 ^ n := by
  have h := pz_ra_at pz_k2 (show n < 9 by omega)
  have h0 := pz_pow_le hn
  simp only [Bool.and_eq_true, decide_eq_true_eq] at h
  have h2 := pz_ra_at h.2 (show S < 256 by omega)
  simp only [Bool.and_eq_true, Bool.or_eq_true, decide_eq_true_eq] at h2
  rcases h2 with h2 | h2
  · omega
  · have h3 := pz_ra_at h2.1.2 (show t < 8 by omega)
    simp only [Bool.and_eq_true, Bool.or_eq_true, decide_eq_true_eq] at h3
    rcases h3 with h3 | h3
    · omega
    · exact h3.1
theorem pz_him {n S t : Nat} (hn : n ≤ 8) (hS : S < 2 ^ n) (ht : t < n) (hb : S.testBit t = false) : pz_cnt S < n ∧ (S ||| 2 ^ t = 2 ^ n - 1 ↔ pz_cnt S + 1 = n) := by
  have h := pz_ra_at pz_k2 (show n < 9 by omega)
  have h0 := pz_pow_le hn
  simp only [Bool.and_eq_true, decide_eq_true_eq] at h
  have h2 := pz_ra_at h.2 (show S < 256 by omega)
  simp only [Bool.and_eq_true, Bool.or_eq_true, decide_eq_true_eq] at h2
  rcases h2 with h2 | h2
  · omega
  · have h3 := pz_ra_at h2.1.2 (show t < 8 by omega)
    simp only [Bool.and_eq_true, Bool.or_eq_true, decide_eq_true_eq, hb, Bool.false_eq_true, false_or, beq_iff_eq, decide_eq_decide] at h3
    rcases h3 with h3 | h3
    · omega
    · exact h3.2
theorem pz_by16 {p : Nat → Bool} (h : ∀ j, j < 16 → pz_ra 16 (fun a => p (16 * j + a)) = true) : pz_ra 256 p = true := by
  refine List.all_eq_true.mpr (fun A hA => ?_)
  have h1 := List.mem_range.mp hA
  have h2 := pz_ra_at (h (A / 16) (by omega)) (show A % 16 < 16 by omega)
  rw [show 16 * (A / 16) + A % 16 = A by omega] at h2
  exact h2
def pz_q3 (A : Nat) : Bool := pz_ra 256 (fun S => (decide (px_and (A : Int) (px_xor (S : Int) (-1)) = 0) == decide (A &&& S = A)) && decide (px_and (A : Int) (S : Int) = ((A &&& S : Nat) : Int)) && decide (px_or (A : Int) (S : Int) = ((A ||| S : Nat) : Int)))
set_option maxRecDepth 100000 in
theorem pz_k3_0 : pz_ra 16 (fun a => pz_q3 (16 * 0 + a)) = true := by decide +kernel
set_option maxRecDepth 100000 in
theorem pz_k3_1 : pz_ra 16 (fun a => pz_q3 (16 * 1 + a)) = true := by decide +kernel
set_option maxRecDepth 100000 in
theorem pz_k3_2 : pz_ra 16 (fun a => pz_q3 (16 * 2 + a)) = true := by decide +kernel
set_option maxRecDepth 100000 in
theorem pz_k3_3 : pz_ra 16 (fun a => pz_q3 (16 * 3 + a)) = true := by decide +kernel
set_option maxRecDepth 100000 in
theorem pz_k3_4 : pz_ra 16 (fun a => pz_q3 (16 * 4 + a)) = true := by decide +kernel
set_option maxRecDepth 100000 in
theorem pz_k3_5 : pz_ra 16 (fun a => pz_q3 (16 * 5 + a)) = true := by decide +kernel
set_option maxRecDepth 100000 in
theorem pz_k3_6 : pz_ra 16 (fun a => pz_q3 (16 * 6 + a)) = true := by decide +kernel
set_option maxRecDepth 100000 in
theorem pz_k3_7 : pz_ra 16 (fun a => pz_q3 (16 * 7 + a)) = true := by decide +kernel
set_option maxRecDepth 100000 in
theorem pz_k3_8 : pz_ra 16 (fun a => pz_q3 (16 * 8 + a)) = true := by decide +kernel
set_option maxRecDepth 100000 in
theorem pz_k3_9 : pz_ra 16 (fun a => pz_q3 (16 * 9 + a)) = true := by decide +kernel
set_option maxRecDepth 100000 in
theorem pz_k3_10 : pz_ra 16 (fun a => pz_q3 (16 * 10 + a)) = true := by decide +kernel
set_option maxRecDepth 100000 in
theorem pz_k3_11 : pz_ra 16 (fun a => pz_q3 (16 * 11 + a)) = true := by decide +kernel
set_option maxRecDepth 100000 in
theorem pz_k3_12 : pz_ra 16 (fun a => pz_q3 (16 * 12 + a)) = true := by decide +kernel
set_option maxRecDepth 100000 in
theorem pz_k3_13 : pz_ra 16 (fun a => pz_q3 (16 * 13 + a)) = true := by decide +kernel
set_option maxRecDepth 100000 in
theorem pz_k3_14 : pz_ra 16 (fun a => pz_q3 (16 * 14 + a)) = true := by decide +kernel
set_option maxRecDepth 100000 in
theorem pz_k3_15 : pz_ra 16 (fun a => pz_q3 (16 * 15 + a)) = true := by decide +kernel
theorem pz_k3 : pz_ra 256 (fun A => pz_ra 256 (fun S => (decide (px_and (A : Int) (px_xor (S : Int) (-1)) = 0) == decide (A &&& S = A)) && decide (px_and (A : Int) (S : Int) = ((A &&& S : Nat) : Int)) && decide (px_or (A : Int) (S : Int) = ((A ||| S : Nat) : Int)))) = true := pz_by16 (p := pz_q3) (fun j hj => match j, hj with
  | 0, _ => pz_k3_0
  | 1, _ => pz_k3_1
  | 2, _ => pz_k3_2
  | 3, _ => pz_k3_3
  | 4, _ => pz_k3_4
  | 5, _ => pz_k3_5
  | 6, _ => pz_k3_6
  | 7, _ => pz_k3_7
  | 8, _ => pz_k3_8
  | 9, _ => pz_k3_9
  | 10, _ => pz_k3_10
  | 11, _ => pz_k3_11
  | 12, _ => pz_k3_12
  | 13, _ => pz_k3_13
  | 14, _ => pz_k3_14
  | 15, _ => pz_k3_15
  | _ + 16, hj => absurd hj (by omega))
theorem pz_sub_iff {A S : Nat} (hA : A < 256) (hS : S < 256) : px_and (A : Int) (px_xor (S : Int) (-1)) = 0 ↔ A &&& S = A := by
  have h := pz_ra_at (pz_ra_at pz_k3 hA) hS
  simp only [Bool.and_eq_true, beq_iff_eq, decide_eq_decide] at h
  exact h.1.1
theorem pz_and_nat {A S : Nat} (hA : A < 256) (hS : S < 256) : px_and (A : Int) (S : Int) = ((A &&& S : Nat) : Int) := by
  have h := pz_ra_at (pz_ra_at pz_k3 hA) hS
  simp only [Bool.and_eq_true, decide_eq_true_eq] at h
  exact h.1.2
theorem pz_or_nat {A S : Nat} (hA : A < 256) (hS : S < 256) : px_or (A : Int) (S : Int) = ((A ||| S : Nat) : Int) := by
  have h := pz_ra_at (pz_ra_at pz_k3 hA) hS
  simp only [Bool.and_eq_true, decide_eq_true_eq] at h
  exact h.2
theorem pz_onesOf_s (s t : px_Z) : ∀ (n : Nat) (a b : Int), l_M_onesOf_4 s n a b = l_M_onesOf_4 t n a b := by
  intro n
  induction n with
  | zero => intro a b; rfl
  | succ n ih =>
    intro a b
    rw [l_M_onesOf_4, l_M_onesOf_4, ih]
set_option maxRecDepth 100000 in
theorem pz_k4 : pz_ra 256 (fun S => decide (f_M_onesOf (fun _ _ => 0) (S : Int) = some ((pz_cnt S : Nat) : Int)) && decide (f_Integer_bitCount (fun _ _ => 0) (S : Int) = ((pz_cnt S : Nat) : Int))) = true := by decide +kernel
theorem pz_ones {S : Nat} (s : px_Z) (hS : S < 256) : f_M_onesOf s (S : Int) = some ((pz_cnt S : Nat) : Int) := by
  have h := pz_ra_at pz_k4 hS
  simp only [Bool.and_eq_true, decide_eq_true_eq] at h
  rw [← h.1]
  exact pz_onesOf_s _ _ _ _ _
theorem pz_bitc {S : Nat} (s : px_Z) (hS : S < 256) : f_Integer_bitCount s (S : Int) = ((pz_cnt S : Nat) : Int) := by
  have h := pz_ra_at pz_k4 hS
  simp only [Bool.and_eq_true, decide_eq_true_eq] at h
  exact h.2
