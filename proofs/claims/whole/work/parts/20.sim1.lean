/-! THE REAL MACHINE AND THE SMALL ONE: what a real value, a real world is in the small one -/
abbrev px_g : Type := Nat × Nat × Nat × Nat × Nat
def px_ix (g : px_g) (a : Nat) : Nat := if g.1 ≤ a then a - g.1 + 5 else if a = g.2.1 then 1 else 0
def px_uv (g : px_g) : Value → px_V
  | .int x => .inl x.toInt
  | .long x => .inr (.inl x.toInt)
  | .ref a => .inr (.inr (px_ix g a))
  | _ => .inr (.inr 0)
def px_us (g : px_g) (st : List Value) : List px_V := st.map (px_uv g)
def px_ul (g : px_g) (lv : List (Nat × Value)) : px_L := lv.map (fun q => (q.1, px_uv g q.2))
def px_uf (f : Nat → Nat → Int32) : Nat → Nat → Int := fun k i => (f k i).toInt
theorem px_ix5 {g : px_g} {a k : Nat} (h : px_ix g a = k + 5) : a = g.1 + k := by
  unfold px_ix at h
  split at h
  · omega
  · split at h <;> omega
theorem px_ix_new (g : px_g) (k : Nat) : px_ix g (g.1 + k) = k + 5 := by
  unfold px_ix
  rw [if_pos (Nat.le_add_right _ _)]
  omega
theorem px_us_cons (g : px_g) (v : Value) (st : List Value) : px_us g (v :: st) = px_uv g v :: px_us g st := rfl
theorem px_pI_inv {g : px_g} {st : List Value} {v : Int} {r : List px_V} (h : px_pI (px_us g st) = some (v, r)) : ∃ (x : Int32) (st' : List Value), st = .int x :: st' ∧ v = x.toInt ∧ r = px_us g st' := by
  cases st with
  | nil => simp [px_us, px_pI] at h
  | cons a t =>
    cases a <;> simp [px_us, px_uv, px_pI] at h
    exact ⟨_, t, rfl, h.1.symm, h.2.symm⟩
theorem px_pL_inv {g : px_g} {st : List Value} {v : Int} {r : List px_V} (h : px_pL (px_us g st) = some (v, r)) : ∃ (x : Int64) (st' : List Value), st = .long x :: st' ∧ v = x.toInt ∧ r = px_us g st' := by
  cases st with
  | nil => simp [px_us, px_pL] at h
  | cons a t =>
    cases a <;> simp [px_us, px_uv, px_pL] at h
    exact ⟨_, t, rfl, h.1.symm, h.2.symm⟩
theorem px_pR_inv {g : px_g} {st : List Value} {k : Nat} {r : List px_V} (h : px_pR (px_us g st) = some (k, r)) (hk : k ≠ 0) : ∃ (a : Nat) (st' : List Value), st = .ref a :: st' ∧ px_ix g a = k ∧ r = px_us g st' := by
  cases st with
  | nil => simp [px_us, px_pR] at h
  | cons a t =>
    cases a <;> simp [px_us, px_uv, px_pR] at h
    all_goals first | exact ⟨_, t, rfl, h.1, h.2.symm⟩ | exact absurd h.1.symm hk
theorem px_pR5 {g : px_g} {st : List Value} {k : Nat} {r : List px_V} (h : px_pR (px_us g st) = some (k + 5, r)) : ∃ (st' : List Value), st = .ref (g.1 + k) :: st' ∧ r = px_us g st' := by
  obtain ⟨a, t, rfl, h1, h2⟩ := px_pR_inv h (by omega)
  rw [px_ix5 h1]
  exact ⟨t, rfl, h2⟩
theorem px_ld_inv {g : px_g} {lv : List (Nat × Value)} {i : Nat} {v : px_V} (h : px_ld (px_ul g lv) i = some v) : ∃ w, px_uv g w = v ∧ (i, w) ∈ lv := by
  induction lv with
  | nil => simp [px_ld, px_ul] at h
  | cons q t ih =>
    by_cases hq : q.1 = i
    · have h2 : px_uv g q.2 = v := by simpa [px_ld, px_ul, hq] using h
      exact ⟨q.2, h2, by rw [← hq]; exact List.mem_cons_self⟩
    · have h2 : px_ld (px_ul g t) i = some v := by simpa [px_ld, px_ul, hq] using h
      obtain ⟨w, h3, h4⟩ := ih h2
      exact ⟨w, h3, List.mem_cons_of_mem _ h4⟩
theorem px_uv_int {g : px_g} {w : Value} {v : Int} (h : px_uv g w = .inl v) : ∃ x, w = .int x ∧ x.toInt = v := by
  cases w <;> simp [px_uv] at h
  exact ⟨_, rfl, h⟩
theorem px_uv_long {g : px_g} {w : Value} {v : Int} (h : px_uv g w = .inr (.inl v)) : ∃ x, w = .long x ∧ x.toInt = v := by
  cases w <;> simp [px_uv] at h
  exact ⟨_, rfl, h⟩
theorem px_uv_ref {g : px_g} {w : Value} {v : Nat} (h : px_uv g w = .inr (.inr (v + 1))) : ∃ x, w = .ref x ∧ px_ix g x = v + 1 := by
  cases w <;> simp [px_uv] at h
  exact ⟨_, rfl, h⟩
def px_cc (g : px_g) (lv : List (Nat × Value)) : Prop := ∀ q ∈ lv, px_cat (px_uv g q.2) = q.2.category
theorem px_s1_eq {g : px_g} {lv : List (Nat × Value)} (hc : px_cc g lv) (i : Nat) (w : Value) : px_s1 (px_ul g lv) i (px_uv g w) = px_ul g ((i, w) :: lv.filter (fun q => !(q.1 == i) && !(q.1 + 1 == i && q.2.category == 2))) := by
  unfold px_s1
  show _ = (i, px_uv g w) :: px_ul g (lv.filter _)
  congr 1
  induction lv with
  | nil => rfl
  | cons q t ih =>
    have h1 := hc q List.mem_cons_self
    have h2 := ih (fun q h => hc q (List.mem_cons_of_mem _ h))
    simp only [px_ul, List.map_cons, List.filter_cons] at h2 ⊢
    rw [h1]
    split
    · simp only [List.map_cons]; rw [h2]
    · exact h2
theorem px_s2_eq {g : px_g} {lv : List (Nat × Value)} (hc : px_cc g lv) (i : Nat) (w : Value) : px_s2 (px_ul g lv) i (px_uv g w) = px_ul g ((i, w) :: lv.filter (fun q => !(q.1 == i) && (!(q.1 == i + 1) && !(q.1 + 1 == i && q.2.category == 2)))) := by
  unfold px_s2
  show _ = (i, px_uv g w) :: px_ul g (lv.filter _)
  congr 1
  induction lv with
  | nil => rfl
  | cons q t ih =>
    have h1 := hc q List.mem_cons_self
    have h2 := ih (fun q h => hc q (List.mem_cons_of_mem _ h))
    simp only [px_ul, List.map_cons, List.filter_cons] at h2 ⊢
    rw [h1]
    split
    · simp only [List.map_cons]; rw [h2]
    · exact h2
theorem px_cc_cons {g : px_g} {lv : List (Nat × Value)} (hc : px_cc g lv) {i : Nat} {w : Value} {p : Nat × Value → Bool} (hw : px_cat (px_uv g w) = w.category) : px_cc g ((i, w) :: lv.filter p) := by
  intro q hq
  rcases List.mem_cons.mp hq with rfl | hq
  · exact hw
  · exact hc q (List.mem_filter.mp hq).1
/-- the cells -/
def px_dn (n0 : Nat) (r : Nat) : Value := if 5 ≤ r then .ref (n0 + (r - 5)) else .null
def px_ent (n0 : Nat) (cA cF : ClassId) (f : Nat → Nat → Int32) (k : Nat) (sh : px_Sh) : va_E :=
  if sh.1 = 12 then .inl (cA, sh.2.1, .inl (f (k + 5)))
  else if sh.1 = 13 then .inl (cF, sh.2.1, .inr (.inr (.inr (.inr (fun j => match sh.2.2[j]? with
    | some (some r) => if 5 ≤ r then some (n0 + (r - 5)) else none
    | _ => none)))))
  else .inr (sh.1, sh.2.2.mapIdx (fun i r => match r with
    | some r => px_dn n0 r
    | none => .int (f (k + 5) i)))
def px_wd (n0 : Nat) (cA cF : ClassId) (G : List px_Sh) (f : Nat → Nat → Int32) : va_W := G.mapIdx (fun k sh => (n0 + k, px_ent n0 cA cF f k sh))
theorem px_wd_get (n0 : Nat) (cA cF : ClassId) (G : List px_Sh) (f : Nat → Nat → Int32) (k : Nat) : (px_wd n0 cA cF G f)[k]? = G[k]?.map (fun sh => (n0 + k, px_ent n0 cA cF f k sh)) := by
  unfold px_wd
  rw [List.getElem?_mapIdx]
theorem px_wd_at {n0 : Nat} {cA cF : ClassId} {G : List px_Sh} (f : Nat → Nat → Int32) {k : Nat} {sh : px_Sh} (h : G[k]? = some sh) : (px_wd n0 cA cF G f)[k]? = some (n0 + k, px_ent n0 cA cF f k sh) := by
  rw [px_wd_get, h]; rfl
theorem px_wd_D (n0 : Nat) (cA cF : ClassId) (G : List px_Sh) (f : Nat → Nat → Int32) : va_D (fun q => n0 ≤ q) (px_wd n0 cA cF G f) := by
  constructor
  · intro i j p q hp hq h
    rw [px_wd_get] at hp hq
    cases hi : G[i]? with
    | none => rw [hi] at hp; cases hp
    | some a =>
      cases hj : G[j]? with
      | none => rw [hj] at hq; cases hq
      | some b =>
        rw [hi] at hp; rw [hj] at hq
        cases hp; cases hq
        have : n0 + i = n0 + j := h
        omega
  · intro k q hq
    rw [px_wd_get] at hq
    cases hi : G[k]? with
    | none => rw [hi] at hq; cases hq
    | some a =>
      rw [hi] at hq
      cases hq
      exact Nat.le_add_right _ _
def px_fu (f : Nat → Nat → Int32) (k i : Nat) (x : Int32) : Nat → Nat → Int32 := fun a b => if a = k ∧ b = i then x else f a b
theorem px_uf_fu (f : Nat → Nat → Int32) (k i : Nat) (x : Int32) : px_uf (px_fu f k i x) = px_up (px_uf f) k i x.toInt := by
  funext a b
  unfold px_uf px_fu px_up
  split <;> rfl
theorem px_fu_ne (f : Nat → Nat → Int32) {k i j : Nat} (x : Int32) (h : j ≠ k) : px_fu f k i x j = f j := by
  funext b
  unfold px_fu
  rw [if_neg (fun q => h q.1)]
theorem px_fu_self (f : Nat → Nat → Int32) (k i : Nat) (x : Int32) : px_fu f k i x k = upd (f k) i x := by
  funext b
  unfold px_fu upd
  by_cases hb : b = i
  · rw [if_pos ⟨rfl, hb⟩, if_pos hb]
  · rw [if_neg (fun q => hb q.2), if_neg hb]
/-- another table of ints that differs in one cell alone -/
theorem px_ent_ne {n0 : Nat} {cA cF : ClassId} {f f' : Nat → Nat → Int32} {k : Nat} (sh : px_Sh) (h : f' (k + 5) = f (k + 5)) : px_ent n0 cA cF f' k sh = px_ent n0 cA cF f k sh := by
  unfold px_ent
  rw [h]
theorem px_wd_set {n0 : Nat} {cA cF : ClassId} {G : List px_Sh} {f f' : Nat → Nat → Int32} {k : Nat} {sh sh' : px_Sh} (hk : G[k]? = some sh) (h : ∀ j, j ≠ k → f' (j + 5) = f (j + 5)) : px_wd n0 cA cF (G.set k sh') f' = (px_wd n0 cA cF G f).set k (n0 + k, px_ent n0 cA cF f' k sh') := by
  apply List.ext_getElem?
  intro j
  have hl : k < G.length := (List.getElem?_eq_some_iff.mp hk).1
  rw [px_wd_get, List.getElem?_set, List.getElem?_set]
  by_cases hj : k = j
  · subst hj
    have hl2 : k < (px_wd n0 cA cF G f).length := by simpa [px_wd] using hl
    rw [if_pos rfl, if_pos rfl, if_pos hl, if_pos hl2]
    rfl
  · rw [if_neg hj, if_neg hj, px_wd_get]
    cases G[j]? with
    | none => rfl
    | some s2 =>
      show some (n0 + j, px_ent n0 cA cF f' j s2) = some (n0 + j, px_ent n0 cA cF f j s2)
      rw [px_ent_ne s2 (h j (fun q => hj q.symm))]
theorem px_set_self {α : Type} {G : List α} {k : Nat} {sh : α} (h : G[k]? = some sh) : G.set k sh = G := by
  apply List.ext_getElem?
  intro j
  rw [List.getElem?_set]
  by_cases hj : k = j
  · subst hj
    rw [if_pos rfl, if_pos (List.getElem?_eq_some_iff.mp h).1, h]
  · rw [if_neg hj]
