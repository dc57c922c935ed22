/-! PURE PART: small words -/
theorem pz_wr_id {x : Int} (h1 : -2147483648 ≤ x) (h2 : x < 2147483648) : px_wr x = x := by
  unfold px_wr
  rw [Int.bmod_def]
  have h : (4294967296 : Nat) = 2 * 2147483648 := rfl
  split <;> omega
theorem pz_wr_rg (x : Int) : -2147483648 ≤ px_wr x ∧ px_wr x < 2147483648 := by
  unfold px_wr
  rw [Int.bmod_def]
  split <;> omega
theorem pz_wl_id {x : Int} (h1 : -9223372036854775808 ≤ x) (h2 : x < 9223372036854775808) : px_wl x = x := by
  unfold px_wl
  rw [Int.bmod_def]
  split <;> omega
theorem pz_up_get (f : px_Z) (k i : Nat) (v : Int) (a b : Nat) : px_up f k i v a b = if a = k ∧ b = i then v else f a b := rfl
theorem pz_cp_get (f : px_Z) (s d sp dp n a b : Nat) : px_cp f s d sp dp n a b = if a = d ∧ dp ≤ b ∧ b < dp + n then f s (sp + (b - dp)) else f a b := rfl
/-- it answers, and what it answers is so -/
def pz_ok {α : Type} (o : Option α) (Q : α → Prop) : Prop := ∃ a, o = some a ∧ Q a
theorem pz_ok_some {α : Type} {a : α} {Q : α → Prop} (h : Q a) : pz_ok (some a) Q := ⟨a, rfl, h⟩
theorem pz_ok_bind {α β : Type} {o : Option α} {k : α → Option β} {Q : β → Prop} (h : pz_ok o (fun a => pz_ok (k a) Q)) : pz_ok (o.bind k) Q := by
  obtain ⟨a, rfl, h⟩ := h
  exact h
theorem pz_ok_b {α β : Type} {o : Option α} {P : α → Prop} {k : α → Option β} {Q : β → Prop} (h : pz_ok o P) (h2 : ∀ a, P a → pz_ok (k a) Q) : pz_ok (o.bind k) Q := by
  obtain ⟨a, rfl, h⟩ := h
  exact h2 a h
theorem pz_ok_mono {α : Type} {o : Option α} {P Q : α → Prop} (h : pz_ok o P) (h2 : ∀ a, P a → Q a) : pz_ok o Q := by
  obtain ⟨a, e, h⟩ := h
  exact ⟨a, e, h2 a h⟩
theorem pz_ok_if {α : Type} {c : Prop} [Decidable c] {a b : Option α} {Q : α → Prop} (h1 : c → pz_ok a Q) (h2 : ¬ c → pz_ok b Q) : pz_ok (if c then a else b) Q := by
  by_cases h : c
  · rw [if_pos h]; exact h1 h
  · rw [if_neg h]; exact h2 h
theorem pz_ok_gd {α : Type} {c : Prop} [Decidable c] {a : Option α} {Q : α → Prop} (h : c) (h1 : pz_ok a Q) : pz_ok (if c then a else none) Q := by
  rw [if_pos h]; exact h1
theorem pz_ok_eq {α : Type} {o : Option α} {a : α} {Q : α → Prop} (h : o = some a) (h1 : Q a) : pz_ok o Q := ⟨a, h, h1⟩
/-- all cells but some are as they were -/
def pz_ag (L : List Nat) (s t : px_Z) : Prop := ∀ c i, c ∉ L → t c i = s c i
theorem pz_ag_rf {L : List Nat} {s : px_Z} : pz_ag L s s := fun _ _ _ => rfl
theorem pz_ag_tr {L : List Nat} {s t u : px_Z} (h1 : pz_ag L s t) (h2 : pz_ag L t u) : pz_ag L s u := fun c i h => (h2 c i h).trans (h1 c i h)
theorem pz_ag_mono {L M : List Nat} {s t : px_Z} (h1 : pz_ag L s t) (h : ∀ c ∈ L, c ∈ M) : pz_ag M s t := fun c i hc => h1 c i (fun hl => hc (h c hl))
theorem pz_ag_up {L : List Nat} {s t : px_Z} {k i : Nat} {v : Int} (h1 : pz_ag L s t) (h : k ∈ L) : pz_ag L s (px_up t k i v) := by
  intro c j hc
  have hq : ¬ (c = k ∧ j = i) := fun hq => hc (by rw [hq.1]; exact h)
  rw [pz_up_get, if_neg hq]
  exact h1 c j hc
/-- a fold over m places from i on -/
def pz_fo {α : Type} (g : Nat → α → α) : Nat → Nat → α → α
  | 0, _, a => a
  | m + 1, i, a => pz_fo g m (i + 1) (g i a)
theorem pz_fo_congr {α : Type} {g h : Nat → α → α} : ∀ (m i : Nat) (a : α), (∀ j, i ≤ j → j < i + m → ∀ a, g j a = h j a) → pz_fo g m i a = pz_fo h m i a := by
  intro m
  induction m with
  | zero => intro i a _; rfl
  | succ m ih =>
    intro i a hh
    rw [pz_fo, pz_fo, hh i (Nat.le_refl _) (by omega)]
    exact ih _ _ (fun j h1 h2 => hh j (by omega) (by omega))
theorem pz_fo_inv {α : Type} {g : Nat → α → α} (P : Nat → α → Prop) : ∀ (m i : Nat) (a : α), P i a → (∀ j, i ≤ j → j < i + m → ∀ a, P j a → P (j + 1) (g j a)) → P (i + m) (pz_fo g m i a) := by
  intro m
  induction m with
  | zero => intro i a h _; exact h
  | succ m ih =>
    intro i a h hh
    rw [pz_fo, show i + (m + 1) = i + 1 + m by omega]
    exact ih _ _ (hh i (Nat.le_refl _) (by omega) a h) (fun j h1 h2 => hh j (by omega) (by omega))
/-- the first of m places from i on that is so -/
def pz_fi (p : Nat → Bool) : Nat → Nat → Option Nat
  | 0, _ => none
  | m + 1, i => if p i then some i else pz_fi p m (i + 1)
theorem pz_fi_congr {p q : Nat → Bool} : ∀ (m i : Nat), (∀ j, i ≤ j → j < i + m → p j = q j) → pz_fi p m i = pz_fi q m i := by
  intro m
  induction m with
  | zero => intro i _; rfl
  | succ m ih =>
    intro i hh
    rw [pz_fi, pz_fi, hh i (Nat.le_refl _) (by omega), ih _ (fun j h1 h2 => hh j (by omega) (by omega))]
theorem pz_fi_some {p : Nat → Bool} : ∀ (m i j : Nat), pz_fi p m i = some j → i ≤ j ∧ j < i + m ∧ p j = true := by
  intro m
  induction m with
  | zero => intro i j h; cases h
  | succ m ih =>
    intro i j h
    rw [pz_fi] at h
    split at h
    · rename_i hp; cases h; exact ⟨Nat.le_refl _, by omega, hp⟩
    · have := ih _ _ h
      exact ⟨by omega, by omega, this.2.2⟩
theorem pz_fi_none {p : Nat → Bool} : ∀ (m i : Nat), pz_fi p m i = none → ∀ j, i ≤ j → j < i + m → p j = false := by
  intro m
  induction m with
  | zero => intro i h j h1 h2; omega
  | succ m ih =>
    intro i h j h1 h2
    rw [pz_fi] at h
    split at h
    · cases h
    · rename_i hp
      by_cases e : j = i
      · subst e; simpa using hp
      · exact ih _ h j (by omega) (by omega)
theorem pz_fi_first {p : Nat → Bool} : ∀ (m i j : Nat), pz_fi p m i = some j → ∀ k, i ≤ k → k < j → p k = false := by
  intro m
  induction m with
  | zero => intro i j h; cases h
  | succ m ih =>
    intro i j h k h1 h2
    rw [pz_fi] at h
    split at h
    · cases h; omega
    · rename_i hp
      by_cases e : k = i
      · subst e; simpa using hp
      · exact ih _ _ h k (by omega) h2
theorem pz_isIn (s : px_Z) (x a b : Int) : f_M_isIn s x a b = if a ≤ x ∧ x ≤ b then 1 else 0 := by
  unfold f_M_isIn
  repeat' split
  all_goals omega
theorem pz_within (s : px_Z) (x a b : Int) : f_R_within s x a b = if a ≤ x ∧ x ≤ b then 1 else 0 := by
  unfold f_R_within
  repeat' split
  all_goals omega
def pz_cl (x a b : Int) : Int := if x < a then a else if b < x then b else x
theorem pz_heldM (s : px_Z) (x a b : Int) : f_M_held s x a b = pz_cl x a b := by
  unfold f_M_held pz_cl
  repeat' split
  all_goals omega
theorem pz_heldR (s : px_Z) (x a b : Int) (h : a ≤ b) : f_R_held s x a b = pz_cl x a b := by
  unfold f_R_held f_Math_max f_Math_min pz_cl
  repeat' split
  all_goals omega
theorem pz_i10 {c : Prop} [Decidable c] : ((if c then (1 : Int) else 0) = 0) ↔ ¬ c := by
  by_cases h : c <;> simp [h]
theorem pz_i11 {c : Prop} [Decidable c] : ((if c then (1 : Int) else 0) = 1) ↔ c := by
  by_cases h : c <;> simp [h]
theorem pz_ifu (s : Option px_Z) : (s.bind (fun q => some q)) = s := by cases s <;> rfl
theorem pz_big_lt {n : Nat} (h : n < 1000000) : n < px_big := h
