/-! THE IMAGE of the reference -/
/-- which number lies at a place of the image -/
def pz_inv (p : Nat) : Nat × Nat :=
  if p < 40 then (151, p)
  else if p < 50 then (150, [6, 8, 9, 10, 35, 37, 43, 51, 53, 57].getD (p - 40) 0)
  else if p < 74 then ([154, 167, 178].getD ((p - 50) % 3) 0, (p - 50) / 3)
  else if p < 134 then (179 + (p - 74) % 5, (p - 74) / 5)
  else if p < 254 then (166, p - 134)
  else if p < 434 then (171, p - 254)
  else if p < 1034 then (155, p - 434)
  else if (p - 1034) % 865 = 0 then (158, (p - 1034) / 865)
  else if (p - 1034) % 865 < 65 then (159 + ((p - 1034) % 865 - 1) % 4, 16 * ((p - 1034) / 865) + ((p - 1034) % 865 - 1) / 4)
  else (163 + ((p - 1034) % 865 - 65) % 2, 400 * ((p - 1034) / 865) + ((p - 1034) % 865 - 65) / 2)
set_option maxRecDepth 100000 in
theorem pz_inv_k1 : pz_ra 2764 (fun p => decide (pz_pos (pz_inv p).1 (pz_inv p).2 = p) && pz_kp (pz_inv p).1 (pz_inv p).2) = true := by decide +kernel
set_option maxRecDepth 100000 in
theorem pz_inv_k2 : [151, 154, 155, 158, 159, 160, 161, 162, 163, 164, 166, 167, 171, 178, 179, 180, 181, 182, 183].all (fun c => pz_ra (pz_kb c) (fun i => decide (pz_inv (pz_pos c i) = (c, i)) && decide (pz_pos c i < 2764))) = true := by decide +kernel
set_option maxRecDepth 100000 in
theorem pz_inv_k3 : [6, 8, 9, 10, 35, 37, 43, 51, 53, 57].all (fun i => decide (pz_inv (pz_pos 150 i) = (150, i)) && decide (pz_pos 150 i < 2764)) = true := by decide +kernel
theorem pz_inv_pos {c i : Nat} (h : pz_kp c i = true) : pz_inv (pz_pos c i) = (c, i) ∧ pz_pos c i < 2764 := by
  by_cases hc : c = 150
  · subst hc
    have h2 : [6, 8, 9, 10, 35, 37, 43, 51, 53, 57].contains i = true := h
    have h3 := List.all_eq_true.mp pz_inv_k3 i (List.contains_iff_mem.mp h2)
    simp only [Bool.and_eq_true, decide_eq_true_eq] at h3
    exact h3
  · unfold pz_kp at h
    rw [if_neg hc] at h
    simp only [Bool.and_eq_true, bne_iff_ne, decide_eq_true_eq] at h
    have hm : c ∈ [151, 154, 155, 158, 159, 160, 161, 162, 163, 164, 166, 167, 171, 178, 179, 180, 181, 182, 183] := by
      refine Classical.byContradiction (fun hn => h.1 ?_)
      simp only [List.mem_cons, List.not_mem_nil, or_false, not_or] at hn
      unfold pz_kb
      obtain ⟨a1, a2, a3, a4, a5, a6, a7, a8, a9, a10, a11, a12, a13, a14, a15, a16, a17, a18, a19⟩ := hn
      simp only [a1, a2, a3, a4, a5, a6, a7, a8, a9, a10, a11, a12, a13, a14, a15, a16, a17, a18, a19, if_false]
    have h3 := pz_ra_at (List.all_eq_true.mp pz_inv_k2 c hm) h.2
    simp only [Bool.and_eq_true, decide_eq_true_eq] at h3
    exact h3
theorem pz_pos_inv {p : Nat} (h : p < 2764) : pz_pos (pz_inv p).1 (pz_inv p).2 = p ∧ pz_kp (pz_inv p).1 (pz_inv p).2 = true := by
  have h3 := pz_ra_at pz_inv_k1 h
  simp only [Bool.and_eq_true, decide_eq_true_eq] at h3
  exact h3
/-- K numbers are kept (T) or brought back -/
def pz_KI (T : Bool) (z0 : px_Z) (K : Nat) (z : px_Z) : Prop :=
  z 150 62 = (K : Int) ∧ z 150 60 = (if T then 1 else 0) ∧ (∀ c i, pz_kp c i = true → z c i = if T = false ∧ pz_pos c i < K then z0 184 (pz_pos c i) else z0 c i) ∧ (∀ p, z 184 p = if T = true ∧ p < K then z0 (pz_inv p).1 (pz_inv p).2 else z0 184 p) ∧ (∀ a b, pz_kp a b = false → a ≠ 184 → ¬ (a = 150 ∧ b = 62) → z a b = z0 a b)
theorem pz_keep1 {T : Bool} {z0 z : px_Z} {c i : Nat} (h : pz_KI T z0 (pz_pos c i) z) (hk : pz_kp c i = true) : ∃ v z1, f_M_keeps z (z c i) = some (v, z1) ∧ pz_KI T z0 (pz_pos c i + 1) (px_up z1 c i v) := by
  obtain ⟨hi1, hi2⟩ := pz_inv_pos hk
  obtain ⟨h1, h2, h3, h4, h5⟩ := h
  have hc183 : c ≠ 184 := fun q => by rw [q] at hk; cases hk
  have hc62 : ¬ (c = 150 ∧ i = 62) := fun q => by rw [q.1, q.2] at hk; cases hk
  generalize hK : pz_pos c i = K at h1 h2 h3 h4 h5 hi1 hi2 ⊢
  have e1 : px_wr (z 150 62 + 1) = ((K + 1 : Nat) : Int) := by rw [h1, pz_wr_suc (by omega)]
  have e2 : px_wr (((K + 1 : Nat) : Int) - 1) = (K : Int) := by rw [pz_wr_pred (by omega)]; omega
  have e3 : 0 ≤ (K : Int) ∧ (K : Int) < 3000 := by clear e1 e2; omega
  have inj : ∀ a b, pz_kp a b = true → pz_pos a b = K → a = c ∧ b = i := by
    intro a b hab hp
    have := (pz_inv_pos hab).1
    rw [hp, hi1] at this
    injection this with q1 q2
    exact ⟨q1.symm, q2.symm⟩
  cases T with
  | true =>
    have h2' : (px_up z 150 62 ((K + 1 : Nat) : Int)) 150 60 = 1 := h2
    have e : f_M_keeps z (z c i) = some (z c i, px_up (px_up z 150 62 ((K + 1 : Nat) : Int)) 184 K (z c i)) := by
      unfold f_M_keeps
      rw [e1, h2', if_neg (by decide), pz_up_s, e2, if_pos e3, Int.toNat_natCast]
    clear e1 e2
    refine ⟨_, _, e, ?_, ?_, fun a b hab => ?_, fun p => ?_, fun a b h6 h7 h8 => ?_⟩
    · rw [pz_up_get, if_neg (fun q => hc62 ⟨q.1.symm, q.2.symm⟩), pz_up_c (by decide), pz_up_s]
    · rw [pz_up_get]
      by_cases hq : 150 = c ∧ 60 = i
      · exfalso; rw [← hq.1, ← hq.2] at hk; cases hk
      · rw [if_neg hq]; exact h2
    · have ha : a ≠ 184 := fun q => by rw [q] at hab; cases hab
      have hab62 : ¬ (a = 150 ∧ b = 62) := fun q => by rw [q.1, q.2] at hab; cases hab
      rw [if_neg (fun q => by cases q.1), pz_up_get]
      have h9 := h3 a b hab
      rw [if_neg (fun q => by cases q.1)] at h9
      by_cases hq : a = c ∧ b = i
      · rw [if_pos hq, ← hq.1, ← hq.2]; exact h9
      · rw [if_neg hq, pz_up_c ha, pz_up_get, if_neg hab62]; exact h9
    · rw [pz_up_c (fun q => hc183 q.symm), pz_up_same]
      by_cases hp : p = K
      · subst hp
        rw [if_pos rfl, if_pos ⟨rfl, by omega⟩, hi1]
        have h9 := h3 c i hk
        rw [if_neg (fun q => by cases q.1)] at h9
        exact h9
      · rw [if_neg hp, pz_up_c (by decide), h4 p]
        by_cases hpK : p < K
        · rw [if_pos ⟨rfl, hpK⟩, if_pos ⟨rfl, by omega⟩]
        · rw [if_neg (fun q => hpK q.2), if_neg (fun q => by omega)]
    · rw [pz_up_get, if_neg (fun q => by rw [q.1, q.2, hk] at h6; cases h6), pz_up_c h7, pz_up_get, if_neg h8]
      exact h5 a b h6 h7 h8
  | false =>
    have h2' : (px_up z 150 62 ((K + 1 : Nat) : Int)) 150 60 = 0 := h2
    have e : f_M_keeps z (z c i) = some (z 184 K, px_up z 150 62 ((K + 1 : Nat) : Int)) := by
      unfold f_M_keeps
      rw [e1, h2', if_pos rfl, pz_up_s, e2, if_pos e3, Int.toNat_natCast]
      rfl
    clear e1 e2
    refine ⟨_, _, e, ?_, ?_, fun a b hab => ?_, fun p => ?_, fun a b h6 h7 h8 => ?_⟩
    · rw [pz_up_get, if_neg (fun q => hc62 ⟨q.1.symm, q.2.symm⟩), pz_up_s]
    · rw [pz_up_get]
      by_cases hq : 150 = c ∧ 60 = i
      · exfalso; rw [← hq.1, ← hq.2] at hk; cases hk
      · rw [if_neg hq]; exact h2
    · have hab62 : ¬ (a = 150 ∧ b = 62) := fun q => by rw [q.1, q.2] at hab; cases hab
      have h9 := h3 a b hab
      have h183 := h4 K
      rw [if_neg (fun q => by cases q.1)] at h183
      rw [pz_up_get]
      by_cases hq : a = c ∧ b = i
      · rw [if_pos hq, hq.1, hq.2, hK, if_pos ⟨rfl, by omega⟩]
        exact h183
      · rw [if_neg hq, pz_up_get, if_neg hab62, h9]
        have hne : pz_pos a b ≠ K := fun q => hq (inj a b hab q)
        by_cases hpK : pz_pos a b < K
        · rw [if_pos ⟨rfl, hpK⟩, if_pos ⟨rfl, by omega⟩]
        · rw [if_neg (fun q => hpK q.2), if_neg (fun q => by omega)]
    · rw [pz_up_c (fun q => hc183 q.symm), pz_up_c (by decide), h4 p, if_neg (fun q => by cases q.1), if_neg (fun q => by cases q.1)]
    · rw [pz_up_get, if_neg (fun q => by rw [q.1, q.2, hk] at h6; cases h6), pz_up_get, if_neg h8]
      exact h5 a b h6 h7 h8
