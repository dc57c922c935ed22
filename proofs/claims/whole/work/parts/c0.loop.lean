/-! THE LAW'S LOOP out of the calls -/
def pz_TX : Prop := ∀ (s : px_Z), pz_I s → ∀ v : Int, -2147483648 ≤ v ∧ v < 2147483648 → pz_op (f_R_text s v) (fun u => f_M_text u v)
theorem pz_scg {sc : List Int} {j : Nat} (h : j < sc.length) : ∃ v, sc[((j : Nat) : Int).toNat]? = some v ∧ v ∈ sc := by
  refine ⟨sc[j], ?_, List.getElem_mem h⟩
  rw [Int.toNat_natCast]; exact List.getElem?_eq_getElem h
set_option maxHeartbeats 8000000 in
set_option maxRecDepth 100000 in
theorem pz_lawS (ht : pz_TX) {sc : List Int} (h1 : sc.length ≤ 3072) (h2 : ∀ v ∈ sc, -2147483648 ≤ v ∧ v < 2147483648) (n : Nat) (j : Nat) (s : px_Z) (hI : pz_I s) (hj : j + 6 ≤ sc.length) (ih : ∀ s, pz_I s → ∃ z, l_law_10 sc n s ((j + 6 : Nat) : Int) = some (1, z)) : ∃ z, l_law_10 sc (n + 1) s (j : Int) = some (1, z) := by
  obtain ⟨v0, g0, m0⟩ := pz_scg (sc := sc) (j := j) (by omega)
  obtain ⟨v1, g1, m1⟩ := pz_scg (sc := sc) (j := j + 1) (by omega)
  obtain ⟨v2, g2, m2⟩ := pz_scg (sc := sc) (j := j + 2) (by omega)
  obtain ⟨v3, g3, m3⟩ := pz_scg (sc := sc) (j := j + 3) (by omega)
  obtain ⟨v4, g4, m4⟩ := pz_scg (sc := sc) (j := j + 4) (by omega)
  obtain ⟨v5, g5, m5⟩ := pz_scg (sc := sc) (j := j + 5) (by omega)
  have w1 : px_wr ((j : Int) + 1) = ((j + 1 : Nat) : Int) := by rw [pz_wr_id (by omega) (by omega)]; omega
  have w2 : px_wr ((j : Int) + 2) = ((j + 2 : Nat) : Int) := by rw [pz_wr_id (by omega) (by omega)]; omega
  have w3 : px_wr ((j : Int) + 3) = ((j + 3 : Nat) : Int) := by rw [pz_wr_id (by omega) (by omega)]; omega
  have w4 : px_wr ((j : Int) + 4) = ((j + 4 : Nat) : Int) := by rw [pz_wr_id (by omega) (by omega)]; omega
  have w5 : px_wr ((j : Int) + 5) = ((j + 5 : Nat) : Int) := by rw [pz_wr_id (by omega) (by omega)]; omega
  have w6 : px_wr ((j : Int) + 6) = ((j + 6 : Nat) : Int) := by rw [pz_wr_id (by omega) (by omega)]; omega
  have w0 : ¬ px_wr (((sc.length : Nat) : Int) - 6) < (j : Int) := by rw [pz_wr_id (by omega) (by omega)]; omega
  have n0 : ∀ k : Nat, (0 : Int) ≤ ((k : Nat) : Int) := fun k => Int.natCast_nonneg k
  rw [l_law_10]
  simp only [if_neg w0, w1, w2, w3, w4, w5, w6, n0, if_true, g0, g1, g2, g3, g4, g5, Option.bind_some]
  by_cases k0 : px_and v0 31 = 0
  · rw [if_pos k0]
    obtain ⟨a, u, v, e1, e2, e3⟩ := po_state hI v1
    dsimp only at e2
    simp only [e1, e2, Option.bind_some, if_true]
    exact ih v e3
  rw [if_neg k0]
  by_cases k1 : px_and v0 31 = 1
  · rw [if_pos k1]
    obtain ⟨a, u, v, e1, e2, e3⟩ := po_thing hI v1
    dsimp only at e2
    simp only [e1, e2, Option.bind_some, if_true]
    exact ih v e3
  rw [if_neg k1]
  by_cases k2 : px_and v0 31 = 2
  · rw [if_pos k2]
    obtain ⟨a, u, v, e1, e2, e3⟩ := po_set hI v1 v2 v3
    dsimp only at e2
    simp only [e1, e2, Option.bind_some, if_true]
    exact ih v e3
  rw [if_neg k2]
  by_cases k3 : px_and v0 31 = 3
  · rw [if_pos k3]
    obtain ⟨a, u, v, e1, e2, e3⟩ := po_feed hI v1 v2 v3 v4 v5
    dsimp only at e2
    simp only [e1, e2, Option.bind_some, if_true]
    exact ih v e3
  rw [if_neg k3]
  by_cases k4 : px_and v0 31 = 4
  · rw [if_pos k4]
    obtain ⟨a, u, v, e1, e2, e3⟩ := po_end hI v1
    dsimp only at e2
    simp only [e1, e2, Option.bind_some, if_true]
    exact ih v e3
  rw [if_neg k4]
  by_cases k5 : px_and v0 31 = 5
  · rw [if_pos k5]
    obtain ⟨a, u, v, e1, e2, e3⟩ := ht s hI v1 (h2 v1 m1)
    dsimp only at e2
    simp only [e1, e2, Option.bind_some, if_true]
    exact ih v e3
  rw [if_neg k5]
  by_cases k6 : px_and v0 31 = 6
  · rw [if_pos k6]
    obtain ⟨a, v, e1, e2, e3⟩ := po_fault hI v1
    dsimp only at e2
    have e1' := Option.some.inj e1
    simp only [e1', e2, Option.bind_some, if_true]
    exact ih v e3
  rw [if_neg k6]
  by_cases k7 : px_and v0 31 = 7
  · rw [if_pos k7]
    obtain ⟨a, u, v, e1, e2, e3⟩ := po_pay hI v1 v2
    dsimp only at e2
    simp only [e1, e2, Option.bind_some, if_true]
    exact ih v e3
  rw [if_neg k7]
  by_cases k8 : px_and v0 31 = 8
  · rw [if_pos k8]
    obtain ⟨a, u, v, e1, e2, e3⟩ := po_cry hI v1
    dsimp only at e2
    simp only [e1, e2, Option.bind_some, if_true]
    exact ih v e3
  rw [if_neg k8]
  by_cases k9 : px_and v0 31 = 9
  · rw [if_pos k9]
    obtain ⟨a, u, v, e1, e2, e3⟩ := po_weeks hI v1
    dsimp only at e2
    simp only [e1, e2, Option.bind_some, if_true]
    exact ih v e3
  rw [if_neg k9]
  by_cases k10 : px_and v0 31 = 10
  · rw [if_pos k10]
    obtain ⟨a, u, v, e1, e2, e3⟩ := po_goes hI 
    dsimp only at e2
    simp only [e1, e2, Option.bind_some, if_true]
    exact ih v e3
  rw [if_neg k10]
  by_cases k11 : px_and v0 31 = 11
  · rw [if_pos k11]
    obtain ⟨a, u, v, e1, e2, e3⟩ := po_of hI v1 v2
    dsimp only at e2
    simp only [e1, e2, Option.bind_some, if_true]
    exact ih v e3
  rw [if_neg k11]
  by_cases k12 : px_and v0 31 = 12
  · rw [if_pos k12]
    obtain ⟨a, v, e1, e2, e3⟩ := po_mud hI v1 v2
    dsimp only at e2
    simp only [e1, e2, Option.bind_some, if_true]
    exact ih v e3
  rw [if_neg k12]
  by_cases k13 : px_and v0 31 = 13
  · rw [if_pos k13]
    obtain ⟨a, v, e1, e2, e3⟩ := po_book hI v1 v2
    dsimp only at e2
    simp only [e1, e2, Option.bind_some, if_true]
    exact ih v e3
  rw [if_neg k13]
  by_cases k14 : px_and v0 31 = 14
  · rw [if_pos k14]
    obtain ⟨a, u, v, e1, e2, e3⟩ := po_least hI v1 (h2 v1 m1)
    dsimp only at e2
    simp only [e1, e2, Option.bind_some, if_true]
    exact ih v e3
  rw [if_neg k14]
  by_cases k15 : px_and v0 31 = 15
  · rw [if_pos k15]
    obtain ⟨a, u, v, e1, e2, e3⟩ := po_orders hI v1 (h2 v1 m1)
    dsimp only at e2
    simp only [e1, e2, Option.bind_some, if_true]
    exact ih v e3
  rw [if_neg k15]
  by_cases k16 : px_and v0 31 = 16
  · rw [if_pos k16]
    obtain ⟨a, v, e1, e2, e3⟩ := po_fits hI v1 v2 v3 v4
    dsimp only at e2
    simp only [e1, e2, Option.bind_some, if_true]
    exact ih v e3
  rw [if_neg k16]
  by_cases k17 : px_and v0 31 = 17
  · rw [if_pos k17]
    obtain ⟨a, v, e1, e2, e3⟩ := po_kept hI 
    dsimp only at e2
    simp only [e1, e2, Option.bind_some, if_true]
    exact ih v e3
  rw [if_neg k17]
  by_cases k18 : px_and v0 31 = 18
  · rw [if_pos k18]
    obtain ⟨a, u, v, e1, e2, e3⟩ := po_letter hI v1
    dsimp only at e2
    simp only [e1, e2, Option.bind_some, if_true]
    exact ih v e3
  rw [if_neg k18]
  by_cases k19 : px_and v0 31 = 19
  · rw [if_pos k19]
    obtain ⟨a, v, e1, e2, e3⟩ := po_letters hI v1 (h2 v1 m1)
    dsimp only at e2
    simp only [e1, e2, Option.bind_some, if_true]
    exact ih v e3
  rw [if_neg k19]
  by_cases k20 : px_and v0 31 = 20
  · rw [if_pos k20]
    obtain ⟨a, u, v, e1, e2, e3⟩ := po_sight hI v1 v2 v3
    dsimp only at e2
    simp only [e1, e2, Option.bind_some, if_true]
    exact ih v e3
  rw [if_neg k20]
  by_cases k21 : px_and v0 31 = 21
  · rw [if_pos k21]
    obtain ⟨a, v, e1, e2, e3⟩ := po_wrong hI 
    dsimp only at e2
    simp only [e1, e2, Option.bind_some, if_true]
    exact ih v e3
  rw [if_neg k21]
  by_cases k22 : px_and v0 31 = 22
  · rw [if_pos k22]
    obtain ⟨a, u, v, e1, e2, e3⟩ := po_lasts hI 
    dsimp only at e2
    simp only [e1, e2, Option.bind_some, if_true]
    exact ih v e3
  rw [if_neg k22]
  by_cases k23 : px_and v0 31 = 23
  · rw [if_pos k23]
    obtain ⟨a, v, e1, e2, e3⟩ := po_cards hI v1 v2 v3 v4
    dsimp only at e2
    simp only [e1, e2, Option.bind_some, Int.lt_irrefl, if_false, if_true]
    exact ih v e3
  rw [if_neg k23]
  by_cases k24 : px_and v0 31 = 24
  · rw [if_pos k24]
    obtain ⟨a, v, e1, e2, e3⟩ := po_share hI v1 v2 v3 v4
    dsimp only at e2
    simp only [e1, e2, Option.bind_some, if_true]
    exact ih v e3
  rw [if_neg k24]
  by_cases k25 : px_and v0 31 = 25
  · rw [if_pos k25]
    obtain ⟨a, u, v, e1, e2, e3⟩ := po_errand hI v1 v2
    dsimp only at e2
    simp only [e1, e2, Option.bind_some, if_true]
    exact ih v e3
  rw [if_neg k25]
  by_cases k26 : px_and v0 31 = 26
  · rw [if_pos k26]
    obtain ⟨a, v, e1, e2, e3⟩ := po_messengers hI v1
    dsimp only at e2
    simp only [e1, e2, Option.bind_some, if_true]
    exact ih v e3
  rw [if_neg k26]
  by_cases k27 : px_and v0 31 = 27
  · rw [if_pos k27]
    obtain ⟨a, u, v, e1, e2, e3⟩ := po_hit hI v1
    dsimp only at e2
    simp only [e1, e2, Option.bind_some, if_true]
    exact ih v e3
  rw [if_neg k27]
  by_cases k28 : px_and v0 31 = 28
  · rw [if_pos k28]
    obtain ⟨a, u, v, e1, e2, e3⟩ := po_undo hI 
    dsimp only at e2
    simp only [e1, e2, Option.bind_some, if_true]
    exact ih v e3
  rw [if_neg k28]
  by_cases k29 : px_and v0 31 = 29
  · rw [if_pos k29]
    by_cases hq : v1 = 0
    · obtain ⟨a, u, v, e1, e2, e3⟩ := po_image0 hI
      dsimp only at e2
      simp only [if_pos hq, e1, e2, Option.bind_some, if_true]
      exact ih v e3
    · obtain ⟨a, u, v, e1, e2, e3⟩ := po_image1 hI
      dsimp only at e2
      simp only [if_neg hq, e1, e2, Option.bind_some, if_true]
      exact ih v e3
  rw [if_neg k29]
  by_cases k30 : px_and v0 31 = 30
  · rw [if_pos k30]
    obtain ⟨a, v, e1, e2, e3⟩ := po_look hI v1
    dsimp only at e2
    simp only [e1, e2, Option.bind_some, if_true]
    exact ih v e3
  rw [if_neg k30]
  exact ih s hI
theorem pz_lawL (ht : pz_TX) {sc : List Int} (h1 : sc.length ≤ 3072) (h2 : ∀ v ∈ sc, -2147483648 ≤ v ∧ v < 2147483648) : ∀ (n : Nat) (j : Nat) (s : px_Z), pz_I s → j ≤ sc.length → sc.length < j + n → ∃ z, l_law_10 sc n s (j : Int) = some (1, z) := by
  intro n
  induction n with
  | zero => intro j s _ a b; omega
  | succ n ih =>
    intro j s hI a b
    by_cases hj : j + 6 ≤ sc.length
    · exact pz_lawS ht h1 h2 n j s hI hj (fun s' h' => ih (j + 6) s' h' hj (by omega))
    · have w0 : px_wr (((sc.length : Nat) : Int) - 6) < (j : Int) := by rw [pz_wr_id (by omega) (by omega)]; omega
      refine ⟨s, ?_⟩
      rw [l_law_10, if_pos w0]
theorem pz_W0of (ht : pz_TX) (hz : pz_I px_z1) : px_W0 := by
  intro sc h1 h2
  obtain ⟨z, hz'⟩ := pz_lawL ht h1 h2 px_big 0 px_z1 hz (by omega) (by have : px_big = 1000000 := rfl; omega)
  exact ⟨z, hz'⟩
