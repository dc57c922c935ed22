/-! CARDS, on; FEED -/
theorem pz_part_bd {p q : Int} (h1 : 1 ≤ p) (h2 : p ≤ 9) (h3 : 1 ≤ q) (h4 : q ≤ 9) {a b : Nat} (h : a + b ≤ 11) : 1 ≤ q ^ a * p ^ b ∧ q ^ a * p ^ b ≤ 31381059609 := by
  have ha := pz_pow_bd h3 h4 a
  have hb := pz_pow_bd h1 h2 b
  refine ⟨?_, ?_⟩
  · have := Int.mul_le_mul ha.1 hb.1 (by decide) (by omega)
    omega
  · have h5 : q ^ a * p ^ b ≤ 9 ^ a * 9 ^ b := Int.mul_le_mul ha.2 hb.2 (by omega) (by omega)
    rw [← Int.pow_add] at h5
    have := pz_pow9 h
    omega
theorem pz_sm_bd {f : Nat → Int} {k : Nat} (h : ∀ i, i < k → 1 ≤ f i ∧ f i ≤ 31381059609) : (k : Int) ≤ pz_sm f k ∧ pz_sm f k ≤ (k : Int) * 31381059609 := by
  induction k with
  | zero => exact ⟨Int.le_refl 0, Int.le_refl 0⟩
  | succ k ih =>
    have h1 := ih (fun i hi => h i (by omega))
    have h2 := h k (by omega)
    rw [pz_sm]
    omega
theorem pz_gcd {s z : px_Z} : ∀ (k a b fu gu i : Nat), 0 < a → b < 2 ^ k → 2 * k + 1 < fu → 2 * k + 1 < gu → i + 2 * k + 1 ≤ 200 → ∃ G : Nat, 0 < G ∧ l_R_commonPart_6 s fu (a : Int) (b : Int) (i : Int) = some (G : Int) ∧ l_M_commonOf_4 z gu (a : Int) (b : Int) = some (G : Int) := by
  intro k
  have hzero : ∀ (a fu gu i : Nat), 0 < a → 0 < fu → 0 < gu → i < 200 → ∃ G : Nat, 0 < G ∧ l_R_commonPart_6 s fu (a : Int) 0 (i : Int) = some (G : Int) ∧ l_M_commonOf_4 z gu (a : Int) 0 = some (G : Int) := by
    intro a fu gu i ha hf hg hi
    obtain ⟨f, rfl⟩ : ∃ f, fu = f + 1 := ⟨fu - 1, by omega⟩
    obtain ⟨g, rfl⟩ : ∃ g, gu = g + 1 := ⟨gu - 1, by omega⟩
    refine ⟨a, ha, ?_, ?_⟩
    · rw [l_R_commonPart_6, if_neg (by omega)]; rfl
    · rw [l_M_commonOf_4]; rfl
  have hsg : ∀ b : Nat, 0 < b → ¬ ((if ((b : Nat) : Int) < 0 then (-1 : Int) else if ((b : Nat) : Int) = 0 then 0 else 1) = 0) := by
    intro b hb
    rw [if_neg (by omega), if_neg (by omega)]
    decide
  induction k with
  | zero =>
    intro a b fu gu i ha hb hf hg hi
    have : b = 0 := by have : b < 1 := hb
                       omega
    subst this
    exact hzero a fu gu i ha (by omega) (by omega) (by omega)
  | succ k ih =>
    intro a b fu gu i ha hb hf hg hi
    by_cases b0 : b = 0
    · subst b0
      exact hzero a fu gu i ha (by omega) (by omega) (by omega)
    · obtain ⟨f, rfl⟩ : ∃ f, fu = f + 1 := ⟨fu - 1, by omega⟩
      obtain ⟨g, rfl⟩ : ∃ g, gu = g + 1 := ⟨gu - 1, by omega⟩
      have hbp : 0 < b := by omega
      have hr : a % b < b := Nat.mod_lt _ hbp
      have e1 : ((a : Int)).tmod (b : Int) = ((a % b : Nat) : Int) := rfl
      rw [l_R_commonPart_6, l_M_commonOf_4, if_neg (by omega), if_neg (hsg b hbp), if_neg (by omega), if_neg (hsg b hbp), if_neg (by omega), e1, pz_wr_suc (by omega)]
      by_cases r0 : a % b = 0
      · rw [r0]
        exact hzero b f g (i + 1) hbp (by omega) (by omega) (by omega)
      · obtain ⟨f, rfl⟩ : ∃ f', f = f' + 1 := ⟨f - 1, by omega⟩
        obtain ⟨g, rfl⟩ : ∃ g', g = g' + 1 := ⟨g - 1, by omega⟩
        have hrp : 0 < a % b := by omega
        have e2 : ((b : Int)).tmod ((a % b : Nat) : Int) = ((b % (a % b) : Nat) : Int) := rfl
        rw [l_R_commonPart_6, l_M_commonOf_4, if_neg (by omega), if_neg (hsg _ hrp), if_neg (by omega), if_neg (hsg _ hrp), if_neg (by omega), e2, pz_wr_suc (by omega)]
        refine ih (a % b) (b % (a % b)) f g (i + 1 + 1) hrp ?_ (by omega) (by omega) (by omega)
        have h1 : b % (a % b) < a % b := Nat.mod_lt _ hrp
        have h2 : b % (a % b) ≤ b - a % b := by
          rw [Nat.mod_eq_sub_mod (Nat.le_of_lt hr)]
          exact Nat.mod_le _ _
        rw [Nat.pow_succ] at hb
        omega
theorem pz_parts {s : px_Z} {P G many : Nat} (hP : 1 ≤ P ∧ P ≤ 9) (hG : 2 ≤ G ∧ G ≤ 12) (hm : many ≤ G) : f_M_partsOf s (many : Int) (G : Int) (P : Int) = some (pz_sm (fun i => (10 - (P : Int)) ^ i * (P : Int) ^ (G - 1 - i)) many) := by
  have hbd : ∀ i, i < G → 1 ≤ (10 - (P : Int)) ^ i * (P : Int) ^ (G - 1 - i) ∧ (10 - (P : Int)) ^ i * (P : Int) ^ (G - 1 - i) ≤ 31381059609 := fun i hi => pz_part_bd (by omega) (by omega) (by omega) (by omega) (by omega)
  have h1 : ∀ (K : Int → Int → Int → Int → Int → Int → Option Int) (S : Int) (i : Nat), i < G → ∀ (m fu k : Nat), k + m = G - 1 → m < fu → l_M_partsOf_11 s K fu (many : Int) (G : Int) (P : Int) S (i : Int) ((10 - (P : Int)) ^ (k - (G - 1 - i)) * (P : Int) ^ (min k (G - 1 - i))) (k : Int) = K (many : Int) (G : Int) (P : Int) S (i : Int) ((10 - (P : Int)) ^ i * (P : Int) ^ (G - 1 - i)) := by
    intro K S i hi m
    induction m with
    | zero =>
      intro fu k hk hf
      obtain ⟨f, rfl⟩ : ∃ f, fu = f + 1 := ⟨fu - 1, by omega⟩
      rw [l_M_partsOf_11, pz_wr_pred (by omega), if_pos (by omega), show k - (G - 1 - i) = i by omega, show min k (G - 1 - i) = G - 1 - i by omega]
    | succ m ih =>
      intro fu k hk hf
      obtain ⟨f, rfl⟩ : ∃ f, fu = f + 1 := ⟨fu - 1, by omega⟩
      have hb := pz_part_bd (p := (P : Int)) (q := 10 - (P : Int)) (by omega) (by omega) (by omega) (by omega) (a := k + 1 - (G - 1 - i)) (b := min (k + 1) (G - 1 - i)) (by omega)
      have hn := ih f (k + 1) (by omega) (by omega)
      rw [l_M_partsOf_11, pz_wr_pred (by omega), if_neg (by omega), pz_wr_id (x := (G : Int) - 1 - (i : Int)) (by omega) (by omega), pz_wr_suc (by omega), pz_wr_id (x := 10 - (P : Int)) (by omega) (by omega)]
      by_cases c1 : (G : Int) - 1 - (i : Int) ≤ (k : Int)
      · have e : (10 - (P : Int)) ^ (k - (G - 1 - i)) * (P : Int) ^ (min k (G - 1 - i)) * (10 - (P : Int)) = (10 - (P : Int)) ^ (k + 1 - (G - 1 - i)) * (P : Int) ^ (min (k + 1) (G - 1 - i)) := by
          rw [show k + 1 - (G - 1 - i) = (k - (G - 1 - i)) + 1 by omega, show min (k + 1) (G - 1 - i) = min k (G - 1 - i) by omega, Int.pow_succ, Int.mul_right_comm]
        rw [if_pos c1, e, pz_wl_id (by omega) (by omega)]
        exact hn
      · have e : (10 - (P : Int)) ^ (k - (G - 1 - i)) * (P : Int) ^ (min k (G - 1 - i)) * (P : Int) = (10 - (P : Int)) ^ (k + 1 - (G - 1 - i)) * (P : Int) ^ (min (k + 1) (G - 1 - i)) := by
          rw [show k + 1 - (G - 1 - i) = k - (G - 1 - i) by omega, show min (k + 1) (G - 1 - i) = min k (G - 1 - i) + 1 by omega, Int.pow_succ, Int.mul_assoc]
        rw [if_neg c1, e, pz_wl_id (by omega) (by omega)]
        exact hn
  have h2 : ∀ (m fu i : Nat), i + m = many → m < fu → l_M_partsOf_4 s fu (many : Int) (G : Int) (P : Int) (pz_sm (fun i => (10 - (P : Int)) ^ i * (P : Int) ^ (G - 1 - i)) i) (i : Int) = some (pz_sm (fun i => (10 - (P : Int)) ^ i * (P : Int) ^ (G - 1 - i)) many) := by
    intro m
    induction m with
    | zero =>
      intro fu i hi hf
      obtain ⟨f, rfl⟩ : ∃ f, fu = f + 1 := ⟨fu - 1, by omega⟩
      rw [l_M_partsOf_4, if_pos (by omega), show i = many by omega]
    | succ m ih =>
      intro fu i hi hf
      obtain ⟨f, rfl⟩ : ∃ f, fu = f + 1 := ⟨fu - 1, by omega⟩
      rw [l_M_partsOf_4, if_neg (by omega)]
      have e := h1 (fun x1 x2 x3 x4 x6 x7 => l_M_partsOf_4 s f x1 x2 x3 (px_wl (x4 + x7)) (px_wr (x6 + 1))) (pz_sm (fun i => (10 - (P : Int)) ^ i * (P : Int) ^ (G - 1 - i)) i) i (by omega) (G - 1) px_big 0 (by omega) (pz_big_lt (by omega))
      rw [show 0 - (G - 1 - i) = 0 by omega, show min 0 (G - 1 - i) = 0 by omega, Int.pow_zero, Int.pow_zero, Int.mul_one, show ((0 : Nat) : Int) = 0 from rfl] at e
      rw [e]
      have b1 := pz_sm_bd (f := fun i => (10 - (P : Int)) ^ i * (P : Int) ^ (G - 1 - i)) (k := i) (fun j hj => hbd j (by omega))
      have b2 := hbd i (by omega)
      show l_M_partsOf_4 s f (many : Int) (G : Int) (P : Int) (px_wl (pz_sm (fun i => (10 - (P : Int)) ^ i * (P : Int) ^ (G - 1 - i)) i + (10 - (P : Int)) ^ i * (P : Int) ^ (G - 1 - i))) (px_wr ((i : Int) + 1)) = _
      rw [pz_wr_suc (by omega), pz_wl_id (by omega) (by omega)]
      exact ih f (i + 1) (by omega) (by omega)
  exact h2 many px_big 0 (by omega) (pz_big_lt (by omega))
theorem pz_cardsR {s : px_Z} {K : Int → Int → Int → Option Int} {P G C : Nat} (hP : 1 ≤ P ∧ P ≤ 9) (hG : 2 ≤ G ∧ G ≤ 12) (hC : C < G) (w : Int) : l_R_cards_30 s K px_big (C : Int) (G : Int) (P : Int) w 0 0 0 = K w (pz_sm (fun i => (10 - (P : Int)) ^ i * (P : Int) ^ (G - 1 - i)) C) (pz_sm (fun i => (10 - (P : Int)) ^ i * (P : Int) ^ (G - 1 - i)) G) := by
  have hbd : ∀ i, i < G → 1 ≤ (10 - (P : Int)) ^ i * (P : Int) ^ (G - 1 - i) ∧ (10 - (P : Int)) ^ i * (P : Int) ^ (G - 1 - i) ≤ 31381059609 := fun i hi => pz_part_bd (by omega) (by omega) (by omega) (by omega) (by omega)
  have h2 : ∀ (m fu i : Nat), i + m = G → m < fu → l_R_cards_30 s K fu (C : Int) (G : Int) (P : Int) w (pz_sm (fun i => (10 - (P : Int)) ^ i * (P : Int) ^ (G - 1 - i)) (min i C)) (pz_sm (fun i => (10 - (P : Int)) ^ i * (P : Int) ^ (G - 1 - i)) i) (i : Int) = K w (pz_sm (fun i => (10 - (P : Int)) ^ i * (P : Int) ^ (G - 1 - i)) C) (pz_sm (fun i => (10 - (P : Int)) ^ i * (P : Int) ^ (G - 1 - i)) G) := by
    intro m
    induction m with
    | zero =>
      intro fu i hi hf
      obtain ⟨f, rfl⟩ : ∃ f, fu = f + 1 := ⟨fu - 1, by omega⟩
      rw [l_R_cards_30, if_pos (by omega), show i = G by omega, show min G C = C by omega]
    | succ m ih =>
      intro fu i hi hf
      obtain ⟨f, rfl⟩ : ∃ f, fu = f + 1 := ⟨fu - 1, by omega⟩
      have b1 := pz_sm_bd (f := fun i => (10 - (P : Int)) ^ i * (P : Int) ^ (G - 1 - i)) (k := i) (fun j hj => hbd j (by omega))
      have b3 := pz_sm_bd (f := fun i => (10 - (P : Int)) ^ i * (P : Int) ^ (G - 1 - i)) (k := min i C) (fun j hj => hbd j (by omega))
      have b2 := hbd i (by omega)
      have hn := ih f (i + 1) (by omega) (by omega)
      rw [l_R_cards_30, if_neg (by omega), pz_wr_id (x := 10 - (P : Int)) (by omega) (by omega), pz_power (by omega) (by omega) (show i ≤ 11 by omega), Option.bind_some, pz_wr_pred (by omega), pz_wr_id (x := (G : Int) - 1 - (i : Int)) (by omega) (by omega), show (G : Int) - 1 - (i : Int) = ((G - 1 - i : Nat) : Int) by omega, pz_power (by omega) (by omega) (show G - 1 - i ≤ 11 by omega), Option.bind_some, pz_wr_suc (by omega), pz_wl_id (x := (10 - (P : Int)) ^ i * (P : Int) ^ (G - 1 - i)) (by omega) (by omega), pz_wl_id (x := pz_sm (fun i => (10 - (P : Int)) ^ i * (P : Int) ^ (G - 1 - i)) i + (10 - (P : Int)) ^ i * (P : Int) ^ (G - 1 - i)) (by omega) (by omega)]
      by_cases c1 : (C : Int) ≤ (i : Int)
      · rw [if_pos c1]
        rw [show min (i + 1) C = min i C by omega] at hn
        exact hn
      · rw [if_neg c1, show min i C = i by omega, pz_wl_id (by omega) (by omega)]
        rw [show min (i + 1) C = i + 1 by omega] at hn
        exact hn
  have := h2 G px_big 0 (by omega) (pz_big_lt (by omega))
  rw [show min 0 C = 0 by omega] at this
  exact this
theorem po_cards {s : px_Z} (h : pz_I s) (c g p w : Int) : pz_oq (f_R_cards s c g p w) s (fun u => f_M_cards u c g p w) := by
  have key : ∃ x, f_R_cards s c g p w = some x ∧ f_M_cards s c g p w = some (x, px_up s 150 0 0) := by
    unfold f_R_cards f_M_cards
    rw [pz_within, pz_within, pz_within, pz_within, pz_isIn, pz_isIn, pz_isIn, pz_isIn, pz_i1, pz_i1, pz_i1, pz_i1, pz_i1, pz_i1, pz_i1, pz_i1]
    by_cases c1 : 2 ≤ g ∧ g ≤ 12
    · rw [pz_wr_id (x := g - 1) (by omega) (by omega)]
      by_cases c2 : 1 ≤ c ∧ c ≤ g - 1
      · by_cases c3 : 1 ≤ p ∧ p ≤ 9
        · by_cases c4 : 0 ≤ w ∧ w ≤ 1
          · obtain ⟨G, rfl⟩ : ∃ G : Nat, g = (G : Int) := ⟨g.toNat, by omega⟩
            obtain ⟨C, rfl⟩ : ∃ C : Nat, c = (C : Int) := ⟨c.toNat, by omega⟩
            obtain ⟨P, rfl⟩ : ∃ P : Nat, p = (P : Int) := ⟨p.toNat, by omega⟩
            rw [if_pos c1, if_pos c2, if_pos c3, if_pos c4, if_pos c1, if_pos c2, if_pos c3, if_pos c4, pz_cardsR (by omega) (by omega) (by omega), pz_parts (by omega) (by omega) (by omega), pz_parts (by omega) (by omega) (by omega)]
            have hbd : ∀ i, i < G → 1 ≤ (10 - (P : Int)) ^ i * (P : Int) ^ (G - 1 - i) ∧ (10 - (P : Int)) ^ i * (P : Int) ^ (G - 1 - i) ≤ 31381059609 := fun i hi => pz_part_bd (by omega) (by omega) (by omega) (by omega) (by omega)
            have b1 := pz_sm_bd (f := fun i => (10 - (P : Int)) ^ i * (P : Int) ^ (G - 1 - i)) (k := C) (fun j hj => hbd j (by omega))
            have b2 := pz_sm_bd (f := fun i => (10 - (P : Int)) ^ i * (P : Int) ^ (G - 1 - i)) (k := G) (fun j hj => hbd j (by omega))
            generalize pz_sm (fun i => (10 - (P : Int)) ^ i * (P : Int) ^ (G - 1 - i)) C = A at b1 ⊢
            generalize pz_sm (fun i => (10 - (P : Int)) ^ i * (P : Int) ^ (G - 1 - i)) G = B at b2 ⊢
            obtain ⟨a, rfl⟩ : ∃ a : Nat, A = (a : Int) := ⟨A.toNat, by omega⟩
            obtain ⟨b, rfl⟩ : ∃ b : Nat, B = (b : Int) := ⟨B.toNat, by omega⟩
            have hb40 : b < 2 ^ 40 := by
              have : (2 : Nat) ^ 40 = 1099511627776 := by decide
              omega
            obtain ⟨D, d0, d1, d2⟩ := pz_gcd (s := s) (z := px_up s 150 0 0) 40 a b px_big px_big 0 (by omega) hb40 (pz_big_lt (by omega)) (pz_big_lt (by omega)) (by omega)
            have e1 : f_R_commonPart s (a : Int) (b : Int) = some (D : Int) := d1
            have e2 : f_M_commonOf (px_up s 150 0 0) (a : Int) (b : Int) = some (D : Int) := d2
            have hsg : ¬ ((if ((D : Nat) : Int) < 0 then (-1 : Int) else if ((D : Nat) : Int) = 0 then 0 else 1) ≤ 0) := by
              rw [if_neg (by omega), if_neg (by omega)]
              decide
            simp only [Option.bind_some, e1, e2, if_neg hsg, if_neg (show ¬ ((D : Int) = 0) by omega)]
            by_cases d0 : w = 0
            · rw [if_pos d0, if_pos d0]; exact ⟨_, rfl, rfl⟩
            · rw [if_neg d0, if_neg d0]; exact ⟨_, rfl, rfl⟩
          · rw [if_pos c1, if_pos c2, if_pos c3, if_neg c4, if_pos c1, if_pos c2, if_pos c3, if_neg c4]; exact ⟨_, rfl, rfl⟩
        · rw [if_pos c1, if_pos c2, if_neg c3, if_pos c1, if_pos c2, if_neg c3]; exact ⟨_, rfl, rfl⟩
      · rw [if_pos c1, if_neg c2, if_pos c1, if_neg c2]; exact ⟨_, rfl, rfl⟩
    · rw [if_neg c1, if_neg c1]; exact ⟨_, rfl, rfl⟩
  obtain ⟨x, e1, e2⟩ := key
  exact ⟨x, _, e1, e2, pz_I_told h⟩
/-- a byte by either shift -/
theorem pz_byte (w : BitVec 32) {k : Nat} (hk : k ≤ 24) : (w >>> k) &&& 255#32 = (w.sshiftRight k) &&& 255#32 := by
  apply BitVec.eq_of_getLsbD_eq
  intro i hi
  rw [BitVec.getLsbD_and, BitVec.getLsbD_and, BitVec.getLsbD_ushiftRight, BitVec.getLsbD_sshiftRight]
  by_cases h8 : i < 8
  · have h1 : k + i < 32 := by omega
    have h2 : ¬ (32 ≤ i) := by omega
    simp [h1, h2]
  · have h3 : (255#32).getLsbD i = false := by
      show Nat.testBit (255 % 2 ^ 32) i = false
      refine Nat.testBit_lt_two_pow (Nat.lt_of_lt_of_le (show 255 % 2 ^ 32 < 2 ^ 8 by decide) ?_)
      exact Nat.pow_le_pow_right (by decide) (by omega)
    rw [h3, Bool.and_false, Bool.and_false]
theorem pz_byte_rg (w : BitVec 32) : 0 ≤ (w &&& 255#32).toInt ∧ (w &&& 255#32).toInt < 256 := by
  have h : (w &&& 255#32).toNat ≤ 255 := by
    rw [BitVec.toNat_and]
    exact Nat.and_le_right
  rw [BitVec.toInt_eq_toNat_cond, if_pos (by omega)]
  omega
theorem pz_fdb (x : Int) {m : Nat} (hm : m < 4) : px_and (px_ush x (8 * (m : Int))) 255 = px_and (px_shr x (8 * (m : Int))) 255 ∧ 0 ≤ px_and (px_shr x (8 * (m : Int))) 255 ∧ px_and (px_shr x (8 * (m : Int))) 255 < 256 := by
  have hs : px_and (px_shr x (8 * (m : Int))) 255 = (((Int32.ofInt x).toBitVec.sshiftRight (8 * m)) &&& 255#32).toInt := by
    unfold px_and px_shr
    rw [Int32.ofInt_toInt]
    rcases (show m = 0 ∨ m = 1 ∨ m = 2 ∨ m = 3 by omega) with rfl | rfl | rfl | rfl <;> rfl
  have hu : px_and (px_ush x (8 * (m : Int))) 255 = (((Int32.ofInt x).toBitVec >>> (8 * m)) &&& 255#32).toInt := by
    unfold px_and px_ush
    rw [Int32.ofInt_toInt]
    rcases (show m = 0 ∨ m = 1 ∨ m = 2 ∨ m = 3 by omega) with rfl | rfl | rfl | rfl <;> rfl
  rw [hs, hu, pz_byte _ (by omega)]
  exact ⟨rfl, pz_byte_rg _⟩
def pz_tp (s z : px_Z) (N : Nat) : Prop := s 5 5 = (N : Int) ∧ z 150 13 = (N : Int) ∧ (∀ i, i < 400 → s 120 i = z 156 i ∧ 0 ≤ z 156 i ∧ z 156 i < 256)
theorem pz_feed1 (x : Int) : ∀ (m fu gu N : Nat) (s z : px_Z), m ≤ 4 → pz_tp s z N → N + m ≤ 400 → m < fu → m < gu → ∃ s' z', l_R_feedOne_2 fu s x (8 * (m : Int) - 8) = some s' ∧ l_M_types_2 gu z x (8 * (m : Int) - 8) = some z' ∧ pz_tp s' z' (N + m) ∧ (∀ c i, c ≠ 120 → ¬ (c = 5 ∧ i = 5) → s' c i = s c i) ∧ (∀ c i, c ≠ 156 → ¬ (c = 150 ∧ i = 13) → z' c i = z c i) := by
  intro m
  induction m with
  | zero =>
    intro fu gu N s z hm ht hN hf hg
    obtain ⟨f, rfl⟩ : ∃ f, fu = f + 1 := ⟨fu - 1, by omega⟩
    obtain ⟨g, rfl⟩ : ∃ g, gu = g + 1 := ⟨gu - 1, by omega⟩
    rw [l_R_feedOne_2, l_M_types_2, if_pos (by omega), if_pos (by omega)]
    exact ⟨s, z, rfl, rfl, ht, fun _ _ _ _ => rfl, fun _ _ _ _ => rfl⟩
  | succ m ih =>
    intro fu gu N s z hm ht hN hf hg
    obtain ⟨f, rfl⟩ : ∃ f, fu = f + 1 := ⟨fu - 1, by omega⟩
    obtain ⟨g, rfl⟩ : ∃ g, gu = g + 1 := ⟨gu - 1, by omega⟩
    obtain ⟨t1, t2, t3⟩ := ht
    obtain ⟨d1, d2, d3⟩ := pz_fdb x (m := m) (by omega)
    have e8 : 8 * ((m + 1 : Nat) : Int) - 8 = 8 * (m : Int) := by omega
    rw [l_R_feedOne_2, l_M_types_2, e8, t1, t2]
    simp only [if_neg (show ¬ (8 * (m : Int) < 0) by omega), if_neg (show ¬ ((400 : Int) ≤ (N : Int)) by omega), if_pos (show 0 ≤ (N : Int) ∧ (N : Int) < 400 by omega), Int.toNat_natCast, d1]
    rw [show (px_up s 120 N (px_and (px_shr x (8 * (m : Int))) 255)) 5 5 = s 5 5 from rfl, t1, show (px_up z 156 N (px_and (px_shr x (8 * (m : Int))) 255)) 150 13 = z 150 13 from rfl, t2, pz_wr_suc (by omega), pz_wr_id (x := 8 * (m : Int) + -8) (by omega) (by omega), show 8 * (m : Int) + -8 = 8 * (m : Int) - 8 by omega]
    obtain ⟨s', z', h1, h2, h3, h4, h5⟩ := ih f g (N + 1) (px_up (px_up s 120 N (px_and (px_shr x (8 * (m : Int))) 255)) 5 5 ((N + 1 : Nat) : Int)) (px_up (px_up z 156 N (px_and (px_shr x (8 * (m : Int))) 255)) 150 13 ((N + 1 : Nat) : Int)) (by omega) ⟨rfl, rfl, fun i hi => by
      show px_up s 120 N (px_and (px_shr x (8 * (m : Int))) 255) 120 i = px_up z 156 N (px_and (px_shr x (8 * (m : Int))) 255) 156 i ∧ 0 ≤ px_up z 156 N (px_and (px_shr x (8 * (m : Int))) 255) 156 i ∧ px_up z 156 N (px_and (px_shr x (8 * (m : Int))) 255) 156 i < 256
      rw [pz_up_same, pz_up_same]
      by_cases hiN : i = N
      · rw [if_pos hiN, if_pos hiN]; exact ⟨rfl, d2, d3⟩
      · rw [if_neg hiN, if_neg hiN]; exact t3 i hi⟩ (by omega) (by omega) (by omega)
    refine ⟨s', z', h1, h2, by rw [show N + (m + 1) = N + 1 + m by omega]; exact h3, fun c i h6 h7 => ?_, fun c i h6 h7 => ?_⟩
    · rw [h4 c i h6 h7, pz_up_get, if_neg h7, pz_up_c h6]
    · rw [h5 c i h6 h7, pz_up_get, if_neg h7, pz_up_c h6]
theorem po_feed {s : px_Z} (h : pz_I s) (a b c d e : Int) : pz_op (f_R_feed s a b c d e) (fun u => f_M_feed u a b c d e) := by
  have h' := h
  obtain ⟨n, hW, hU, hM, hT, hX, hC⟩ := h
  obtain ⟨t1, t2, t3, t4⟩ := hT
  obtain ⟨N, hN⟩ : ∃ N : Nat, s 150 13 = (N : Int) := ⟨(s 150 13).toNat, by omega⟩
  by_cases h380 : N ≤ 380
  · have one : ∀ (x : Int) (M : Nat) (p q : px_Z), pz_tp p q M → M + 4 ≤ 400 → ∃ p' q', f_R_feedOne p x = some p' ∧ f_M_types q x = some q' ∧ pz_tp p' q' (M + 4) ∧ (∀ c i, c ≠ 120 → ¬ (c = 5 ∧ i = 5) → p' c i = p c i) ∧ (∀ c i, c ≠ 156 → ¬ (c = 150 ∧ i = 13) → q' c i = q c i) := fun x M p q h1 h2 => pz_feed1 x 4 px_big px_big M p q (by omega) h1 h2 (pz_big_lt (by omega)) (pz_big_lt (by omega))
    -- the reference starts from what the class leaves: both states are followed apart, then joined
    have p0 : pz_tp s (px_up s 150 0 0) N := ⟨t1.trans hN, hN, t4⟩
    obtain ⟨s1, z1, ra, ma, p1, fa, ga⟩ := one a N s (px_up s 150 0 0) p0 (by omega)
    obtain ⟨s2, z2, rb, mb, p2, fb, gb⟩ := one b (N + 4) s1 z1 p1 (by omega)
    obtain ⟨s3, z3, rc, mc, p3, fc, gc⟩ := one c (N + 4 + 4) s2 z2 p2 (by omega)
    obtain ⟨s4, z4, rd, md, p4, fd, gd⟩ := one d (N + 4 + 4 + 4) s3 z3 p3 (by omega)
    obtain ⟨s5, z5, re, me, p5, fe, ge⟩ := one e (N + 4 + 4 + 4 + 4) s4 z4 p4 (by omega)
    have hR : f_R_feed s a b c d e = some (s5 5 5, s5) := by
      unfold f_R_feed
      rw [t1, hN, pz_wr_id (by omega) (by omega), if_pos (by omega), ra, Option.bind_some, rb, Option.bind_some, rc, Option.bind_some, rd, Option.bind_some, re, Option.bind_some]
    have hs5 : ∀ c i, c ≠ 120 → ¬ (c = 5 ∧ i = 5) → s5 c i = s c i := fun c i h1 h2 => (fe c i h1 h2).trans ((fd c i h1 h2).trans ((fc c i h1 h2).trans ((fb c i h1 h2).trans (fa c i h1 h2))))
    have q0 : pz_tp s (px_up s5 150 0 0) N := by
      refine ⟨t1.trans hN, (hs5 150 13 (by decide) (by decide)).trans hN, fun i hi => ?_⟩
      have e1 : (px_up s5 150 0 0) 156 i = s 156 i := hs5 156 i (by decide) (by omega)
      rw [e1]
      exact t4 i hi
    obtain ⟨u1, y1, ra', ma', q1, -, ka⟩ := one a N s (px_up s5 150 0 0) q0 (by omega)
    rw [ra] at ra'; cases ra'
    obtain ⟨u2, y2, rb', mb', q2, -, kb⟩ := one b (N + 4) s1 y1 q1 (by omega)
    rw [rb] at rb'; cases rb'
    obtain ⟨u3, y3, rc', mc', q3, -, kc⟩ := one c (N + 4 + 4) s2 y2 q2 (by omega)
    rw [rc] at rc'; cases rc'
    obtain ⟨u4, y4, rd', md', q4, -, kd⟩ := one d (N + 4 + 4 + 4) s3 y3 q3 (by omega)
    rw [rd] at rd'; cases rd'
    obtain ⟨u5, y5, re', me', q5, -, ke⟩ := one e (N + 4 + 4 + 4 + 4) s4 y4 q4 (by omega)
    rw [re] at re'; cases re'
    have hy5 : ∀ c i, c ≠ 156 → ¬ (c = 150 ∧ i = 13) → y5 c i = (px_up s5 150 0 0) c i := fun c i h1 h2 => (ke c i h1 h2).trans ((kd c i h1 h2).trans ((kc c i h1 h2).trans ((kb c i h1 h2).trans (ka c i h1 h2))))
    have ek : ∀ k : Nat → Nat → Bool, k 150 0 = false → k 150 13 = false → k 5 5 = false → (∀ i, k 156 i = false) → (∀ i, k 120 i = false) → pz_ek k s y5 := by
      intro k k0 k13 k55 k155 k120 c i hk
      have c155 : c ≠ 156 := fun q => by rw [q, k155 i] at hk; cases hk
      have c120 : c ≠ 120 := fun q => by rw [q, k120 i] at hk; cases hk
      have c13 : ¬ (c = 150 ∧ i = 13) := fun q => by rw [q.1, q.2, k13] at hk; cases hk
      have c0 : ¬ (c = 150 ∧ i = 0) := fun q => by rw [q.1, q.2, k0] at hk; cases hk
      have c5 : ¬ (c = 5 ∧ i = 5) := fun q => by rw [q.1, q.2, k55] at hk; cases hk
      rw [hy5 c i c155 c13, pz_up_get, if_neg c0, hs5 c i c120 c5]
    refine ⟨s5 5 5, s5, y5, hR, ?_, ?_⟩
    · show f_M_feed s5 a b c d e = _
      unfold f_M_feed
      rw [show (px_up s5 150 0 0) 150 13 = s5 150 13 from rfl, hs5 150 13 (by decide) (by decide), hN, if_pos (by omega), ma', Option.bind_some, mb', Option.bind_some, mc', Option.bind_some, md', Option.bind_some, me', Option.bind_some, q5.2.1, q5.1]
    · have hT5 : pz_T y5 := by
        have e5 : y5 5 5 = s5 5 5 := hy5 5 5 (by decide) (by decide)
        have e120 : ∀ i, y5 120 i = s5 120 i := fun i => hy5 120 i (by decide) (by omega)
        refine ⟨?_, ?_, ?_, fun i hi => ?_⟩
        · rw [e5, q5.1, q5.2.1]
        · rw [q5.2.1]; omega
        · rw [q5.2.1]; omega
        · rw [e120 i]; exact q5.2.2 i hi
      exact ⟨n, pz_W_ek hW (ek _ rfl rfl rfl (fun _ => rfl) (fun _ => rfl)) (ek _ rfl rfl rfl (fun _ => rfl) (fun _ => rfl)), pz_U_ek hU (ek _ rfl rfl rfl (fun _ => rfl) (fun _ => rfl)), pz_M_ek hM (ek _ rfl rfl rfl (fun _ => rfl) (fun _ => rfl)), hT5, pz_X_ek hX (ek _ rfl rfl rfl (fun _ => rfl) (fun _ => rfl)), pz_C_ek hC (ek _ rfl rfl rfl (fun _ => rfl) (fun _ => rfl))⟩
  · refine ⟨-1, s, px_up s 150 0 0, ?_, ?_, pz_I_told h'⟩
    · unfold f_R_feed
      rw [t1, hN, pz_wr_id (by omega) (by omega), if_neg (by omega)]
    · show f_M_feed s a b c d e = _
      unfold f_M_feed
      rw [show (px_up s 150 0 0) 150 13 = s 150 13 from rfl, hN, if_neg (by omega)]
