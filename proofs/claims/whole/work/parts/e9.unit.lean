/-! TEXT: codes of a LAW, put and emitted -/
theorem pt_itn {α : Type} {c : Prop} [Decidable c] {a b : α} : (if (if c then (1 : Int) else 0) = 0 then a else b) = if c then b else a := by
  by_cases h : c <;> simp [h]
theorem pt_tysn {code : Nat → Int} : ∀ (r k : Nat) (ts : List Nat), pz_ty code (r + 1) k ts = (pz_ty code r k ts).bind (pz_t1 (code (k + r))) := by
  intro r
  induction r with
  | zero =>
    intro k ts
    have h1 : pz_ty code 0 (k + 1) = fun us => some us := rfl
    rw [pz_ty, pz_ty, Option.bind_some, Nat.add_zero, h1]
    cases pz_t1 (code k) ts <;> rfl
  | succ r ih =>
    intro k ts
    rw [pz_ty]
    have h1 : pz_ty code (r + 1) k ts = (pz_t1 (code k) ts).bind (pz_ty code r (k + 1)) := rfl
    have h2 : pz_ty code (r + 1) (k + 1) = fun us => (pz_ty code r (k + 1) us).bind (pz_t1 (code (k + 1 + r))) := funext (fun us => ih (k + 1) us)
    rw [h1, h2, show k + (r + 1) = k + 1 + r by omega]
    cases pz_t1 (code k) ts <;> rfl
def pt_Q (k0 m : Nat) (ts : List Nat) (u z : px_Z) : Prop := u 125 1 = (m : Int) ∧ z 150 27 = (m : Int) ∧ k0 ≤ m ∧ pz_ty (u 130) (m - k0) k0 [] = some ts ∧ (∀ i, i < m → pz_cr (u 130 i) (z 163 (800 + i)) (z 164 (800 + i)) ∧ (z 150 26 ≠ 0 → u 130 i ≠ 263 ∧ u 130 i ≠ 264))
def pt_fl (m : Nat) (u v : px_Z) : Prop := ∀ c j, ¬ (c = 121 ∧ (j = 4 ∨ j = 7 ∨ j = 8)) → ¬ (c = 125 ∧ j = 1) → ¬ (c = 130 ∧ m ≤ j) → v c j = u c j
def pt_gs (z w : px_Z) : Prop := ∀ c j, ¬ (c = 150 ∧ ((14 ≤ j ∧ j ≤ 17) ∨ j = 27 ∨ j = 31 ∨ j = 32)) → ¬ ((c = 163 ∨ c = 164) ∧ 800 ≤ j) → w c j = z c j
theorem pt_flR (m : Nat) (u : px_Z) : pt_fl m u u := fun _ _ _ _ _ => rfl
theorem pt_gsR (z : px_Z) : pt_gs z z := fun _ _ _ _ => rfl
theorem pt_flT {m m' : Nat} {u v w : px_Z} (h1 : pt_fl m u v) (h2 : pt_fl m' v w) (h : m ≤ m') : pt_fl m u w := fun c j g1 g2 g3 => (h2 c j g1 g2 (by omega)).trans (h1 c j g1 g2 g3)
theorem pt_gsT {u v w : px_Z} (h1 : pt_gs u v) (h2 : pt_gs v w) : pt_gs u w := fun c j g1 g2 => (h2 c j g1 g2).trans (h1 c j g1 g2)
theorem pt_flA {m : Nat} {u v : px_Z} (h : pt_fa u v) : pt_fl m u v := fun c j g1 _ _ => h c j g1
theorem pt_gsB {u v : px_Z} (h : pt_fb u v) : pt_gs u v := fun c j g1 _ => h c j (by omega)
theorem pt_Qfr {k0 m : Nat} {ts : List Nat} {u z v w : px_Z} (h : pt_Q k0 m ts u z) (h1 : pt_fa u v) (h2 : pt_fb z w) : pt_Q k0 m ts v w := by
  obtain ⟨a1, a2, a3, a4, a5⟩ := h
  have e : v 130 = u 130 := funext fun j => h1 130 j (by omega)
  refine ⟨(h1 125 1 (by omega)).trans a1, (h2 150 27 (by omega)).trans a2, a3, by rw [e]; exact a4, fun i hi => ?_⟩
  rw [e, h2 163 (800 + i) (by omega), h2 164 (800 + i) (by omega), h2 150 26 (by omega)]
  exact a5 i hi
theorem pt_put {u : px_Z} {m : Nat} (h : u 125 1 = (m : Int)) (hm : m < 400) (x : Int) : ∃ v, f_Law_put u x = some v ∧ v 125 1 = ((m + 1 : Nat) : Int) ∧ v 130 m = x ∧ (∀ c j, ¬ (c = 125 ∧ j = 1) → ¬ (c = 130 ∧ j = m) → v c j = u c j) := by
  unfold f_Law_put
  rw [h, if_neg (by omega), if_pos ⟨Int.natCast_nonneg _, by omega⟩, Int.toNat_natCast, pt_upn (by omega), h, pz_wr_suc (by omega)]
  exact ⟨_, rfl, pt_upi, by rw [pt_upn (by omega), pt_upi], fun c j g1 g2 => by rw [pt_upn g1, pt_upn g2]⟩
theorem pt_putD {u : px_Z} {m : Nat} (h : (m : Int) ≤ u 125 1) (x : Int) : ∃ v, f_Law_put u x = some v ∧ (m : Int) ≤ v 125 1 ∧ (∀ c j, ¬ (c = 125 ∧ j = 1) → ¬ (c = 130 ∧ m ≤ j) → v c j = u c j) := by
  obtain ⟨k, hk⟩ : ∃ k : Nat, u 125 1 = (k : Int) := ⟨(u 125 1).toNat, by omega⟩
  by_cases h4 : k < 400
  · obtain ⟨v, a1, a2, a3, a4⟩ := pt_put hk h4 x
    exact ⟨v, a1, by omega, fun c j g1 g2 => a4 c j g1 (by omega)⟩
  · refine ⟨u, ?_, h, fun _ _ _ _ => rfl⟩
    unfold f_Law_put
    rw [if_pos (by omega)]
theorem pt_w800 {m : Nat} (h : m < 400) : px_wr (800 + (m : Int)) = ((800 + m : Nat) : Int) := by rw [pz_wr_id (by omega) (by omega)]; omega
theorem pt_emit {z : px_Z} {m : Nat} (h : z 150 27 = (m : Int)) (hm : m < 400) (o a : Int) : ∃ w, f_M_emits z o a = some w ∧ w 150 27 = ((m + 1 : Nat) : Int) ∧ w 163 (800 + m) = o ∧ w 164 (800 + m) = a ∧ (∀ c j, ¬ (c = 150 ∧ j = 27) → ¬ ((c = 163 ∨ c = 164) ∧ j = 800 + m) → w c j = z c j) := by
  have e1 : ∀ q : Nat, px_up z 163 q o 150 27 = (m : Int) := fun q => by rw [pt_upn (by omega)]; exact h
  unfold f_M_emits
  rw [h, pt_w800 hm, if_pos ⟨Int.natCast_nonneg _, by omega⟩, Int.toNat_natCast, e1, pt_w800 hm, if_pos ⟨Int.natCast_nonneg _, by omega⟩, Int.toNat_natCast, pt_upn (by omega), e1, pz_wr_suc (by omega)]
  exact ⟨_, rfl, pt_upi, by rw [pt_upn (by omega), pt_upn (by omega), pt_upi], by rw [pt_upn (by omega), pt_upi], fun c j g1 g2 => by rw [pt_upn g1, pt_upn (by omega), pt_upn (by omega)]⟩
/-- a code more of both -/
theorem pt_Qpe {k0 m : Nat} {ts us : List Nat} {u z v w : px_Z} {x o a : Int} (h : pt_Q k0 m ts u z) (v1 : v 125 1 = ((m + 1 : Nat) : Int)) (v2 : v 130 m = x) (v3 : ∀ c j, ¬ (c = 125 ∧ j = 1) → ¬ (c = 130 ∧ j = m) → v c j = u c j) (w1 : w 150 27 = ((m + 1 : Nat) : Int)) (w2 : w 163 (800 + m) = o) (w3 : w 164 (800 + m) = a) (w4 : ∀ c j, ¬ (c = 150 ∧ j = 27) → ¬ ((c = 163 ∨ c = 164) ∧ j = 800 + m) → w c j = z c j) (hc : pz_cr x o a) (ht : pz_t1 x ts = some us) (hw : z 150 26 ≠ 0 → x ≠ 263 ∧ x ≠ 264) : pt_Q k0 (m + 1) us v w := by
  obtain ⟨a1, a2, a3, a4, a5⟩ := h
  refine ⟨v1, w1, by omega, ?_, fun i hi => ?_⟩
  · rw [show m + 1 - k0 = (m - k0) + 1 by omega, pt_tysn, pz_ty_congr (c := v 130) (d := u 130) _ _ _ (fun i g1 g2 => v3 130 i (by omega) (by omega)), a4, Option.bind_some, show k0 + (m - k0) = m by omega, v2]
    exact ht
  · rw [w4 150 26 (by omega) (by omega)]
    by_cases e : i = m
    · subst e
      rw [v2, w2, w3]; exact ⟨hc, hw⟩
    · rw [v3 130 i (by omega) (by omega), w4 163 (800 + i) (by omega) (by omega), w4 164 (800 + i) (by omega) (by omega)]
      exact a5 i (by omega)
/-- both stand at the token t, m codes, kinds ts -/
def pt_S (b : Nat → Int) (L T k0 t m : Nat) (ts : List Nat) (u z : px_Z) : Prop := pt_A u b L T t ∧ pt_B z b L (pt_st b L t) ∧ u 121 7 = 0 ∧ pt_Q k0 m ts u z
/-- both have the same fault -/
def pt_X (b : Nat → Int) (L T m : Nat) (v w : px_Z) : Prop := v 121 7 ≠ 0 ∧ (∃ t, pt_A v b L T t) ∧ (m : Int) ≤ v 125 1 ∧ w 150 31 = v 121 7 ∧ w 150 32 = v 121 8
/-- put and emitted, side by side -/
theorem pt_pe2 {b : Nat → Int} {L T k0 t m : Nat} {ts us : List Nat} {u z : px_Z} {x o a : Int} (h : pt_S b L T k0 t m ts u z) (hm : m < 400) (hc : pz_cr x o a) (ht : pz_t1 x ts = some us) (hw : z 150 26 ≠ 0 → x ≠ 263 ∧ x ≠ 264) : ∃ v w, f_Law_put u x = some v ∧ f_M_emits z o a = some w ∧ pt_S b L T k0 t (m + 1) us v w ∧ pt_fl m u v ∧ pt_gs z w := by
  obtain ⟨hA, hB, h0, hQ⟩ := h
  obtain ⟨v, v1, v2, v3, v4⟩ := pt_put hQ.1 hm x
  obtain ⟨w, w1, w2, w3, w4, w5⟩ := pt_emit hQ.2.1 hm o a
  exact ⟨v, w, v1, w1, ⟨pt_A_of hA (fun j hj => v4 121 j (by omega) (by omega)) (fun c j g1 g2 => v4 c j (by omega) (by omega)), pt_B_of hB (fun j g1 g2 => w5 150 j (by omega) (by omega)) (fun j => w5 156 j (by omega) (by omega)) (fun j => w5 157 j (by omega) (by omega)), (v4 121 7 (by omega) (by omega)).trans h0, pt_Qpe hQ v2 v3 v4 w2 w3 w4 w5 hc ht hw⟩, fun c j g1 g2 g3 => v4 c j g2 (by omega), fun c j g1 g2 => w5 c j (by omega) (by omega)⟩
/-- one token on -/
theorem pt_go {b : Nat → Int} {L T k0 t m : Nat} {ts : List Nat} {u z : px_Z} (h : pt_S b L T k0 t m ts u z) (ht : t < T) : ∃ v w, f_Reader_step u = some v ∧ f_M_reads z = some w ∧ pt_S b L T k0 (t + 1) m ts v w ∧ pt_fa u v ∧ pt_fb z w := by
  obtain ⟨hA, hB, h0, hQ⟩ := h
  obtain ⟨v, w, a1, a2, a3, a4, a5, a6, a7⟩ := pt_good hA hB h0 ht
  exact ⟨v, w, a1, a2, ⟨a5, a6, a7, pt_Qfr hQ a3 a4⟩, a3, a4⟩
theorem pt_no {b : Nat → Int} {L T k0 t m : Nat} {ts : List Nat} {u z : px_Z} (h : pt_S b L T k0 t m ts u z) {k : Int} (hk : k ≠ 0) : ∃ v w, f_Reader_fail u k = some v ∧ f_M_errs z k = some (-1, w) ∧ pt_X b L T m v w ∧ pt_fa u v ∧ pt_fb z w := by
  obtain ⟨hA, hB, h0, hQ⟩ := h
  obtain ⟨v, w, a1, a2, a3, a4, a5, a6, a7, a8, a9⟩ := pt_bad hA hB h0 k hk
  exact ⟨v, w, a1, a2, ⟨by rw [a6]; exact hk, ⟨t, a5⟩, by rw [a3 125 1 (by omega), hQ.1]; exact Int.le_refl _, by rw [a8, a6], by rw [a9, a7]⟩, a3, a4⟩
/-- which LAW: PRICES or WEEKS -/
def pt_P (u z : px_Z) : Prop := (u 121 6 = 0 ∧ z 150 26 ≠ 0) ∨ (u 121 6 = 1 ∧ z 150 26 = 0)
theorem pt_Pfr {m : Nat} {u z v w : px_Z} (h : pt_P u z) (h1 : pt_fl m u v) (h2 : pt_gs z w) : pt_P v w := by
  unfold pt_P
  rw [h1 121 6 (by omega) (by omega) (by omega), h2 150 26 (by omega) (by omega)]
  exact h
theorem pt_ask : ∀ j, j < 28 → ((8 ≤ pt_pe j ∧ pt_pe j ≤ 16) ↔ j ≤ 8) ∧ (pt_pe j = 12 ↔ j = 7) ∧ (pt_pe j = 14 ↔ j = 8) ∧ (j ≤ 8 → pz_pm (pt_pe j - 8) = j) := by decide +kernel
theorem pt_t1n {c : Int} {ts : List Nat} (h1 : 1000 ≤ c) (h2 : c ≤ 10999) (hl : ts.length < 32) : pz_t1 c ts = some ((if c = 1000 then 0 else 2) :: ts) := by
  unfold pz_t1; rw [if_pos h1, if_pos ⟨h2, hl⟩]
theorem pt_t1w {c : Int} {ts : List Nat} (h1 : 256 ≤ c) (h2 : c ≤ 264) (hl : ts.length < 32) : pz_t1 c ts = some (0 :: ts) := by
  unfold pz_t1; rw [if_neg (by omega), if_pos ⟨h1, h2⟩, if_pos hl]
set_option maxHeartbeats 1000000 in
theorem pt_unit {b : Nat → Int} {L T k0 t m : Nat} {ts : List Nat} {u z : px_Z} (h : pt_S b L T k0 t m ts u z) (hp : pt_P u z) (hm : m < 400) (hl : ts.length < 32) : ∃ v w r, f_Reader_readUnit u = some v ∧ f_M_readUnit z = some (r, w) ∧ pt_fl m u v ∧ pt_gs z w ∧ ((r = 0 ∧ t < T ∧ ∃ k, k ≠ 1 ∧ pt_S b L T k0 (t + 1) (m + 1) (k :: ts) v w) ∨ (r = -1 ∧ pt_X b L T m v w)) := by
  obtain ⟨hA, hB, h0, hQ⟩ := h
  obtain ⟨g1, g2, g3, g4⟩ := pt_A_tok hA
  have h9 : z 150 16 = pt_mk b L (pt_st b L t) := hB.2.2.2.2.2.2.2.2.1
  have h10 := hB.2.2.2.2.2.2.2.2.2
  -- the two ends
  have bad : f_Reader_readUnit u = (f_Reader_fail u 1).bind (fun q5 => some q5) → f_M_readUnit z = (f_M_errs z 1).bind (fun q10 => some (q10.1, q10.2)) → ∃ v w r, f_Reader_readUnit u = some v ∧ f_M_readUnit z = some (r, w) ∧ pt_fl m u v ∧ pt_gs z w ∧ ((r = 0 ∧ t < T ∧ ∃ k, k ≠ 1 ∧ pt_S b L T k0 (t + 1) (m + 1) (k :: ts) v w) ∨ (r = -1 ∧ pt_X b L T m v w)) := by
    intro e1 e2
    obtain ⟨v, w, a1, a2, a3, a4, a5⟩ := pt_no ⟨hA, hB, h0, hQ⟩ (k := 1) (by decide)
    rw [e1, e2, a1, a2, Option.bind_some, Option.bind_some]
    exact ⟨v, w, -1, rfl, rfl, pt_flA a4, pt_gsB a5, Or.inr ⟨rfl, a3⟩⟩
  have good : ∀ (x o a : Int) (k : Nat), pt_ck b L (pt_st b L t) ≠ 0 → k ≠ 1 → pz_cr x o a → pz_t1 x ts = some (k :: ts) → (z 150 26 ≠ 0 → x ≠ 263 ∧ x ≠ 264) → f_Reader_readUnit u = (f_Law_put u x).bind (fun q6 => (f_Reader_step q6).bind (fun q7 => some q7)) → f_M_readUnit z = (f_M_emits z o a).bind (fun q5 => (f_M_reads q5).bind (fun q6 => some (0, q6))) → ∃ v w r, f_Reader_readUnit u = some v ∧ f_M_readUnit z = some (r, w) ∧ pt_fl m u v ∧ pt_gs z w ∧ ((r = 0 ∧ t < T ∧ ∃ k, k ≠ 1 ∧ pt_S b L T k0 (t + 1) (m + 1) (k :: ts) v w) ∨ (r = -1 ∧ pt_X b L T m v w)) := by
    intro x o a k hne hk hc ht hw e1 e2
    have htT := pt_A_end hA hne
    obtain ⟨v1, w1, a1, a2, a3, a4, a5⟩ := pt_pe2 ⟨hA, hB, h0, hQ⟩ hm hc ht hw
    obtain ⟨v, w, b1, b2, b3, b4, b5⟩ := pt_go a3 htT
    rw [e1, e2, a1, a2, Option.bind_some, Option.bind_some, b1, b2, Option.bind_some, Option.bind_some]
    exact ⟨v, w, 0, rfl, rfl, pt_flT a4 (pt_flA b4) (Nat.le_refl m), pt_gsT a5 (pt_gsB b5), Or.inl ⟨rfl, htT, k, hk, b3⟩⟩
  have cls : ∀ q : Int, (u 121 6 = 0 → q = 6) → (u 121 6 = 1 → q = 8) → f_Reader_readUnit u = j_Reader_readUnit_j13 u (pt_ck b L (pt_st b L t)) q 256 := by
    intro q q0 q1
    unfold f_Reader_readUnit
    rw [if_pos g1, g2]
    rcases hp with ⟨p1, p2⟩ | ⟨p1, p2⟩
    · rw [if_pos p1, q0 p1]
    · rw [if_neg (by omega), q1 p1]
  obtain ⟨q, q0, q1, q2⟩ : ∃ q : Int, (u 121 6 = 0 → q = 6) ∧ (u 121 6 = 1 → q = 8) ∧ (q = 6 ∨ q = 8) := by
    rcases hp with ⟨p1, p2⟩ | ⟨p1, p2⟩
    · exact ⟨6, fun _ => rfl, fun h => by omega, Or.inl rfl⟩
    · exact ⟨8, fun h => by omega, fun _ => rfl, Or.inr rfl⟩
  have cl := cls q q0 q1
  have wq : px_wr (256 + q) = 256 + q := pz_wr_id (by omega) (by omega)
  unfold j_Reader_readUnit_j13 at cl
  rw [pz_within, wq, pt_itn] at cl
  rcases pt_kinds b (pt_st_le b L t) with ⟨k1, k2, k3⟩ | ⟨ki, k1, k2⟩ | ⟨ki, k1, k2⟩ | ⟨ki, k1, k2, k3⟩ | ⟨j, ki, kj, k1, k2, k3⟩
  · refine bad ?_ ?_
    · rw [cl, if_neg (by omega), if_neg (by omega)]
    · unfold f_M_readUnit j_M_readUnit_j11 j_M_readUnit_j12
      rw [h9, k2, if_neg (by decide), if_pos rfl, if_neg (by decide)]
  · have hr := pt_mwR k1
    have ew : px_wr (1000 + pt_mw b L (pt_st b L t)) = 1000 + pt_mw b L (pt_st b L t) := pz_wr_id (by omega) (by omega)
    refine good (1000 + pt_mw b L (pt_st b L t)) 0 (pt_mw b L (pt_st b L t)) (if 1000 + pt_mw b L (pt_st b L t) = 1000 then 0 else 2) (by rw [k1]; decide) ?_ (Or.inl ⟨rfl, rfl, hr.1, hr.2⟩) (pt_t1n (by omega) (by omega) hl) (fun _ => by omega) ?_ ?_
    · split <;> decide
    · rw [cl, if_pos k1, if_pos g1, g3 k1, ew]
    · unfold f_M_readUnit j_M_readUnit_j11 j_M_readUnit_j12 j_M_readUnit_j23 j_M_readUnit_j29
      rw [h9, k2, if_neg (by decide), if_pos rfl, if_pos rfl, if_pos rfl, if_pos rfl, h10 ki]
  · refine bad ?_ ?_
    · rw [cl, if_neg (by omega), if_neg (by omega)]
    · unfold f_M_readUnit j_M_readUnit_j11 j_M_readUnit_j12
      rw [h9, k2, if_neg (by decide), if_pos rfl, if_neg (by decide)]
  · have hcr := of_decide_eq_true k1
    refine bad ?_ ?_
    · rw [cl, if_neg (by omega), if_neg (by omega)]
    · unfold f_M_readUnit j_M_readUnit_j11 j_M_readUnit_j12
      rw [h9, k2, if_neg (by decide), if_pos rfl, if_neg (by decide)]
  · obtain ⟨s1, s2, s3, s4⟩ := pt_ask j kj
    by_cases ok : (256 + (j : Int)) ≤ 256 + q
    · have j8 : j ≤ 8 := by omega
      have s1' := s1.mpr j8
      have s4' := s4 j8
      have e8 : px_wr ((pt_pe j : Int) - 8) = ((pt_pe j - 8 : Nat) : Int) := by rw [pz_wr_id (by omega) (by omega)]; omega
      refine good (256 + (j : Int)) 1 ((pt_pe j - 8 : Nat) : Int) 0 (by omega) (by decide) ?_ (pt_t1w (by omega) (by omega) hl) (fun hz => ?_) ?_ ?_
      · refine Or.inr (Or.inl ⟨rfl, Int.natCast_nonneg _, by omega, ?_⟩)
        rw [Int.toNat_natCast, s4']
      · rcases hp with ⟨p1, p2⟩ | ⟨p1, p2⟩
        · have := q0 p1; omega
        · exact absurd p2 hz
      · rw [cl, if_neg (by omega), k1, if_pos ⟨by omega, ok⟩]
      · unfold f_M_readUnit
        have e1 : f_M_canAsk z (z 150 17) ≠ 0 := by
          unfold f_M_canAsk
          rw [h10 ki, k3, pz_isIn, pt_itn, if_pos ⟨by omega, by omega⟩]
          rcases hp with ⟨p1, p2⟩ | ⟨p1, p2⟩
          · have := q0 p1
            rw [if_neg p2, if_neg (by omega), if_neg (by omega)]; decide
          · rw [if_pos p2]; decide
        unfold j_M_readUnit_j12 j_M_readUnit_j23 j_M_readUnit_j29
        rw [h9, k2, if_pos rfl, if_neg e1, if_neg (by decide), if_neg (by decide), if_neg (by decide), h10 ki, k3, e8]
    · refine bad ?_ ?_
      · rw [cl, if_neg (by omega), k1, if_neg (fun h => ok h.2)]
      · unfold f_M_readUnit
        have e1 : f_M_canAsk z (z 150 17) = 0 := by
          unfold f_M_canAsk
          rw [h10 ki, k3, pz_isIn, pt_itn]
          by_cases j8 : j ≤ 8
          · have s1' := s1.mpr j8
            rw [if_pos ⟨by omega, by omega⟩]
            rcases hp with ⟨p1, p2⟩ | ⟨p1, p2⟩
            · have := q0 p1
              rw [if_neg p2]
              by_cases e12 : j = 7
              · rw [if_pos (by have := s2.mpr e12; omega)]
              · rw [if_neg (by omega), if_pos (by have := s3.mpr (by omega : j = 8); omega)]
            · have := q1 p1; omega
          · rw [if_neg (by omega)]
        unfold j_M_readUnit_j11 j_M_readUnit_j12
        rw [h9, k2, if_pos rfl, if_pos e1, if_pos rfl, if_neg (by decide)]
