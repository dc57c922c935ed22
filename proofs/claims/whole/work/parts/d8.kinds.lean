/-! TOKENS: the class's kinds beside the reference's -/
def pt_pe (j : Nat) : Nat := ([8, 9, 10, 11, 13, 15, 16, 12, 14, 0, 1, 2, 3, 4, 5, 6, 7, 17, 18, 19, 20, 21, 22, 23, 24, 25, 26, 27] : List Nat).getD j 0
def pt_sl (b : Nat → Int) : Nat → Nat → List Int
  | 0, _ => []
  | r + 1, i => b i :: pt_sl b r (i + 1)
theorem pt_mts (b : Nat → Int) : ∀ (w : List Int) (r i : Nat), (pt_mt b (i + r) w i = true ↔ pt_sl b r i = w) := by
  intro w
  induction w with
  | nil =>
    intro r i
    rw [pt_mt, decide_eq_true_iff]
    cases r with
    | zero => exact ⟨fun _ => rfl, fun _ => rfl⟩
    | succ r => exact ⟨fun h => by omega, fun h => by cases h⟩
  | cons c w ih =>
    intro r i
    cases r with
    | zero =>
      rw [pt_mt, decide_eq_false (by omega), Bool.false_and]
      exact ⟨fun h => (by cases h), fun h => (by cases h)⟩
    | succ r =>
      rw [pt_mt, decide_eq_true (by omega : i < i + (r + 1)), Bool.true_and, Bool.and_eq_true, decide_eq_true_iff, show i + (r + 1) = i + 1 + r by omega, ih r (i + 1), pt_sl]
      constructor
      · rintro ⟨h1, h2⟩; rw [h1, h2]
      · intro h; injection h with h1 h2; exact ⟨h1, h2⟩
def pt_fx (x : List Int) : List (List Int) → Nat → Option Nat
  | [], _ => none
  | w :: ws, k => if x = w then some k else pt_fx x ws (k + 1)
theorem pt_ixf (b : Nat → Int) (r i : Nat) : ∀ (ws : List (List Int)) (k : Nat), pt_ix b i (i + r) ws k = pt_fx (pt_sl b r i) ws k := by
  intro ws
  induction ws with
  | nil => intro k; rfl
  | cons w ws ih =>
    intro k
    rw [pt_ix, pt_fx, ih]
    by_cases h : pt_sl b r i = w
    · rw [if_pos h, if_pos ((pt_mts b w r i).mpr h)]
    · rw [if_neg h, if_neg (fun hh => h ((pt_mts b w r i).mp hh))]
theorem pt_fxn {x : List Int} : ∀ (ws : List (List Int)) (k : Nat), x ∉ ws → pt_fx x ws k = none := by
  intro ws
  induction ws with
  | nil => intro k _; rfl
  | cons w ws ih =>
    intro k h
    rw [pt_fx, if_neg (fun hh => h (by rw [hh]; exact List.mem_cons_self)), ih _ (fun hh => h (List.mem_cons_of_mem _ hh))]
theorem pt_fxa : ∀ x ∈ pt_ws, pt_fx x pt_wm 0 = (pt_fx x pt_ws 0).map pt_pe := by decide +kernel
theorem pt_fxb : ∀ x ∈ pt_wm, x ∈ pt_ws := by decide +kernel
theorem pt_fxc : ∀ x ∈ pt_ws, ∃ j, j < 28 ∧ pt_fx x pt_ws 0 = some j := by decide +kernel
theorem pt_pei : ∀ j, j < 28 → ∀ k, k < 28 → pt_pe j = pt_pe k → j = k := by decide +kernel
theorem pt_words (b : Nat → Int) {i e : Nat} (h : i ≤ e) : pt_ix b i e pt_wm 0 = (pt_ix b i e pt_ws 0).map pt_pe ∧ ∀ j, pt_ix b i e pt_ws 0 = some j → j < 28 := by
  obtain ⟨r, rfl⟩ : ∃ r, e = i + r := ⟨e - i, by omega⟩
  rw [pt_ixf, pt_ixf]
  by_cases h1 : pt_sl b r i ∈ pt_ws
  · refine ⟨pt_fxa _ h1, fun j hj => ?_⟩
    obtain ⟨k, k1, k2⟩ := pt_fxc _ h1
    rw [k2] at hj; injection hj with hj; omega
  · rw [pt_fxn pt_ws 0 h1, pt_fxn pt_wm 0 (fun hh => h1 (pt_fxb _ hh))]
    exact ⟨rfl, fun j hj => by cases hj⟩
/-- the token at i, seen by both -/
theorem pt_kinds (b : Nat → Int) {L i : Nat} (h : i ≤ L) :
    (pt_ck b L i = 0 ∧ pt_mk b L i = 0 ∧ i = L) ∨ (i < L ∧ pt_ck b L i = 1 ∧ pt_mk b L i = 3) ∨ (i < L ∧ pt_ck b L i = 2 ∧ pt_mk b L i = 1) ∨ (i < L ∧ pt_sg (pt_ck b L i) = true ∧ pt_mk b L i = 4 ∧ pt_mw b L i = pt_ck b L i) ∨ (∃ j : Nat, i < L ∧ j < 28 ∧ pt_ck b L i = 256 + (j : Int) ∧ pt_mk b L i = 2 ∧ pt_mw b L i = (pt_pe j : Int)) := by
  by_cases hi : i < L
  · have hen := pt_en_le b (L := L) (i := i) h
    obtain ⟨w1, w2⟩ := pt_words b hen.1
    unfold pt_ck pt_mk pt_mw
    rw [if_pos hi, if_pos hi]
    cases hle : pt_le (b i)
    · rw [if_neg (by decide : ¬ false = true), if_neg (by decide : ¬ false = true), if_neg (by decide : ¬ false = true)]
      cases hdi : pt_di (b i)
      · rw [if_neg (by decide : ¬ false = true), if_neg (by decide : ¬ false = true), if_neg (by decide : ¬ false = true)]
        cases hsg : pt_sg (b i)
        · exact Or.inr (Or.inr (Or.inl ⟨hi, rfl, rfl⟩))
        · exact Or.inr (Or.inr (Or.inr (Or.inl ⟨hi, by rw [if_pos rfl]; exact hsg, rfl, rfl⟩)))
      · rw [if_pos rfl, if_pos rfl, if_pos rfl]
        by_cases h5 : pt_en b L i < i + 5
        · rw [if_pos h5, if_pos h5]; exact Or.inr (Or.inl ⟨hi, rfl, rfl⟩)
        · rw [if_neg h5, if_neg h5]; exact Or.inr (Or.inr (Or.inl ⟨hi, rfl, rfl⟩))
    · rw [if_pos rfl, if_pos rfl, if_pos rfl]
      rw [w1]
      cases hx : pt_ix b i (pt_en b L i) pt_ws 0 with
      | none => exact Or.inr (Or.inr (Or.inl ⟨hi, rfl, rfl⟩))
      | some j => exact Or.inr (Or.inr (Or.inr (Or.inr ⟨j, hi, w2 j hx, rfl, rfl, rfl⟩)))
  · have e : i = L := by omega
    refine Or.inl ⟨?_, ?_, e⟩
    · rw [pt_ck, if_neg hi]
    · rw [pt_mk, if_neg hi]
