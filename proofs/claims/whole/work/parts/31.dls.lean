/-! the locals matter only by what is found in them -/
def px_nd : px_L → Bool
  | [] => true
  | q :: t => !(t.any (fun p => p.1 == q.1)) && px_nd t
def px_sub (a b : px_L) : Prop := ∀ i v, px_ld a i = some v → px_ld b i = some v
theorem px_ld_cons (q : Nat × px_V) (t : px_L) (i : Nat) : px_ld (q :: t) i = if q.1 = i then some q.2 else px_ld t i := by
  unfold px_ld
  rw [List.find?_cons]
  by_cases h : q.1 = i
  · rw [if_pos h, h]
    simp
  · rw [if_neg h]
    have : (q.1 == i) = false := by simpa using h
    rw [this]
theorem px_ld_any {t : px_L} {i : Nat} (h : t.any (fun p => p.1 == i) = false) : px_ld t i = none := by
  induction t with
  | nil => rfl
  | cons q t ih =>
    rw [List.any_cons, Bool.or_eq_false_iff] at h
    rw [px_ld_cons, if_neg (by simpa using h.1)]
    exact ih h.2
theorem px_nd_flt {t : px_L} {p : Nat × px_V → Bool} (h : px_nd t = true) : px_nd (t.filter p) = true := by
  induction t with
  | nil => rfl
  | cons q t ih =>
    simp only [px_nd, Bool.and_eq_true, Bool.not_eq_true'] at h
    rw [List.filter_cons]
    split
    · simp only [px_nd, Bool.and_eq_true, Bool.not_eq_true']
      refine ⟨?_, ih h.2⟩
      rw [List.any_eq_false] at h ⊢
      intro x hx
      exact h.1 x (List.mem_filter.mp hx).1
    · exact ih h.2
theorem px_ld_flt {t : px_L} {p : Nat × px_V → Bool} (h : px_nd t = true) (i : Nat) : px_ld (t.filter p) i = match px_ld t i with
    | some v => if p (i, v) = true then some v else none
    | none => none := by
  induction t with
  | nil => rfl
  | cons q t ih =>
    simp only [px_nd, Bool.and_eq_true, Bool.not_eq_true'] at h
    have ih := ih h.2
    obtain ⟨k, w⟩ := q
    rw [List.filter_cons]
    by_cases hk : k = i
    · subst hk
      rw [px_ld_cons, if_pos rfl]
      have hn := px_ld_any h.1
      by_cases hp : p (k, w) = true
      · rw [if_pos hp, px_ld_cons, if_pos rfl]
        show some w = if p (k, w) = true then some w else none
        rw [if_pos hp]
      · rw [if_neg hp, ih, hn]
        show none = if p (k, w) = true then some w else none
        rw [if_neg hp]
    · rw [px_ld_cons, if_neg hk, ← ih]
      split
      · rw [px_ld_cons, if_neg hk]
      · rfl
theorem px_nd_s1 {t : px_L} (h : px_nd t = true) (i : Nat) (v : px_V) : px_nd (px_s1 t i v) = true := by
  unfold px_s1
  simp only [px_nd, Bool.and_eq_true, Bool.not_eq_true']
  refine ⟨?_, px_nd_flt h⟩
  rw [List.any_eq_false]
  intro x hx
  have h2 := (List.mem_filter.mp hx).2
  simp only [Bool.and_eq_true, Bool.not_eq_true'] at h2
  simp [h2.1]
theorem px_nd_s2 {t : px_L} (h : px_nd t = true) (i : Nat) (v : px_V) : px_nd (px_s2 t i v) = true := by
  unfold px_s2
  simp only [px_nd, Bool.and_eq_true, Bool.not_eq_true']
  refine ⟨?_, px_nd_flt h⟩
  rw [List.any_eq_false]
  intro x hx
  have h2 := (List.mem_filter.mp hx).2
  simp only [Bool.and_eq_true, Bool.not_eq_true'] at h2
  simp [h2.1]
theorem px_sub_s1 {a b : px_L} (ha : px_nd a = true) (hb : px_nd b = true) (h : px_sub a b) (i : Nat) (v : px_V) : px_sub (px_s1 a i v) (px_s1 b i v) := by
  intro j w hw
  unfold px_s1 at hw ⊢
  rw [px_ld_cons] at hw ⊢
  by_cases hj : i = j
  · rw [if_pos hj] at hw ⊢
    exact hw
  · rw [if_neg hj] at hw ⊢
    rw [px_ld_flt ha] at hw
    rw [px_ld_flt hb]
    cases hq : px_ld a j with
    | none => rw [hq] at hw; cases hw
    | some u =>
      rw [hq] at hw
      rw [h j u hq]
      exact hw
theorem px_sub_s2 {a b : px_L} (ha : px_nd a = true) (hb : px_nd b = true) (h : px_sub a b) (i : Nat) (v : px_V) : px_sub (px_s2 a i v) (px_s2 b i v) := by
  intro j w hw
  unfold px_s2 at hw ⊢
  rw [px_ld_cons] at hw ⊢
  by_cases hj : i = j
  · rw [if_pos hj] at hw ⊢
    exact hw
  · rw [if_neg hj] at hw ⊢
    rw [px_ld_flt ha] at hw
    rw [px_ld_flt hb]
    cases hq : px_ld a j with
    | none => rw [hq] at hw; cases hw
    | some u =>
      rw [hq] at hw
      rw [h j u hq]
      exact hw
/-- more in the locals does the same -/
def px_Ml (F : px_F) : Prop := ∀ (sc a : List Int) (ip : Nat) (x y : px_L) (st : List px_V) (h : px_H) (ip1 : Nat) (x1 : px_L) (st1 : List px_V) (h1 : px_H), px_nd x = true → px_nd y = true → px_sub x y → F sc a ip x st h = some (ip1, x1, st1, h1) → ∃ y1, F sc a ip y st h = some (ip1, y1, st1, h1) ∧ px_nd x1 = true ∧ px_nd y1 = true ∧ px_sub x1 y1

theorem px_ml_const : px_Ml px_o_const := by
  intro sc a ip x y st h ip1 x1 st1 h1 hx hy hs hF
  simp only [px_o_const, Bool.cond_eq_ite] at hF ⊢
  repeat' split at hF
  all_goals first | (cases hF; done) | (cases hF; exact ⟨y, by simp_all, hx, hy, hs⟩)
theorem px_ml_lcmp : px_Ml px_o_lcmp := by
  intro sc a ip x y st h ip1 x1 st1 h1 hx hy hs hF
  simp only [px_o_lcmp, Bool.cond_eq_ite] at hF ⊢
  repeat' split at hF
  all_goals first | (cases hF; done) | (cases hF; exact ⟨y, by simp_all, hx, hy, hs⟩)
theorem px_ml_icmp : px_Ml px_o_icmp := by
  intro sc a ip x y st h ip1 x1 st1 h1 hx hy hs hF
  simp only [px_o_icmp, Bool.cond_eq_ite] at hF ⊢
  repeat' split at hF
  all_goals first | (cases hF; done) | (cases hF; exact ⟨y, by simp_all, hx, hy, hs⟩)
theorem px_ml_ifc : px_Ml px_o_ifc := by
  intro sc a ip x y st h ip1 x1 st1 h1 hx hy hs hF
  simp only [px_o_ifc, Bool.cond_eq_ite] at hF ⊢
  repeat' split at hF
  all_goals first | (cases hF; done) | (cases hF; exact ⟨y, by simp_all, hx, hy, hs⟩)
theorem px_ml_goto : px_Ml px_o_goto := by
  intro sc a ip x y st h ip1 x1 st1 h1 hx hy hs hF
  simp only [px_o_goto, Bool.cond_eq_ite] at hF ⊢
  repeat' split at hF
  all_goals first | (cases hF; done) | (cases hF; exact ⟨y, by simp_all, hx, hy, hs⟩)
theorem px_ml_lsw : px_Ml px_o_lsw := by
  intro sc a ip x y st h ip1 x1 st1 h1 hx hy hs hF
  simp only [px_o_lsw, Bool.cond_eq_ite] at hF ⊢
  repeat' split at hF
  all_goals first | (cases hF; done) | (cases hF; exact ⟨y, by simp_all, hx, hy, hs⟩)
theorem px_ml_dup : px_Ml px_o_dup := by
  intro sc a ip x y st h ip1 x1 st1 h1 hx hy hs hF
  simp only [px_o_dup, Bool.cond_eq_ite] at hF ⊢
  repeat' split at hF
  all_goals first | (cases hF; done) | (cases hF; exact ⟨y, by simp_all, hx, hy, hs⟩)
theorem px_ml_pop : px_Ml px_o_pop := by
  intro sc a ip x y st h ip1 x1 st1 h1 hx hy hs hF
  simp only [px_o_pop, Bool.cond_eq_ite] at hF ⊢
  repeat' split at hF
  all_goals first | (cases hF; done) | (cases hF; exact ⟨y, by simp_all, hx, hy, hs⟩)
theorem px_ml_dup2 : px_Ml px_o_dup2 := by
  intro sc a ip x y st h ip1 x1 st1 h1 hx hy hs hF
  simp only [px_o_dup2, Bool.cond_eq_ite] at hF ⊢
  repeat' split at hF
  all_goals first | (cases hF; done) | (cases hF; exact ⟨y, by simp_all, hx, hy, hs⟩)
theorem px_ml_getf : px_Ml px_o_getf := by
  intro sc a ip x y st h ip1 x1 st1 h1 hx hy hs hF
  simp only [px_o_getf, Bool.cond_eq_ite] at hF ⊢
  repeat' split at hF
  all_goals first | (cases hF; done) | (cases hF; exact ⟨y, by simp_all, hx, hy, hs⟩)
theorem px_ml_putf : px_Ml px_o_putf := by
  intro sc a ip x y st h ip1 x1 st1 h1 hx hy hs hF
  simp only [px_o_putf, Bool.cond_eq_ite] at hF ⊢
  repeat' split at hF
  all_goals first | (cases hF; done) | (cases hF; exact ⟨y, by simp_all, hx, hy, hs⟩)
theorem px_ml_iald : px_Ml px_o_iald := by
  intro sc a ip x y st h ip1 x1 st1 h1 hx hy hs hF
  simp only [px_o_iald, Bool.cond_eq_ite] at hF ⊢
  repeat' split at hF
  all_goals first | (cases hF; done) | (cases hF; exact ⟨y, by simp_all, hx, hy, hs⟩)
theorem px_ml_iast : px_Ml px_o_iast := by
  intro sc a ip x y st h ip1 x1 st1 h1 hx hy hs hF
  simp only [px_o_iast, Bool.cond_eq_ite] at hF ⊢
  repeat' split at hF
  all_goals first | (cases hF; done) | (cases hF; exact ⟨y, by simp_all, hx, hy, hs⟩)
theorem px_ml_alen : px_Ml px_o_alen := by
  intro sc a ip x y st h ip1 x1 st1 h1 hx hy hs hF
  simp only [px_o_alen, Bool.cond_eq_ite] at hF ⊢
  repeat' split at hF
  all_goals first | (cases hF; done) | (cases hF; exact ⟨y, by simp_all, hx, hy, hs⟩)
theorem px_ml_aald : px_Ml px_o_aald := by
  intro sc a ip x y st h ip1 x1 st1 h1 hx hy hs hF
  simp only [px_o_aald, Bool.cond_eq_ite] at hF ⊢
  repeat' split at hF
  all_goals first | (cases hF; done) | (cases hF; exact ⟨y, by simp_all, hx, hy, hs⟩)
theorem px_ml_copy : px_Ml px_o_copy := by
  intro sc a ip x y st h ip1 x1 st1 h1 hx hy hs hF
  simp only [px_o_copy, Bool.cond_eq_ite] at hF ⊢
  repeat' split at hF
  all_goals first | (cases hF; done) | (cases hF; exact ⟨y, by simp_all, hx, hy, hs⟩)
theorem px_ml_new : px_Ml px_o_new := by
  intro sc a ip x y st h ip1 x1 st1 h1 hx hy hs hF
  simp only [px_o_new, Bool.cond_eq_ite] at hF ⊢
  repeat' split at hF
  all_goals first | (cases hF; done) | (cases hF; exact ⟨y, by simp_all, hx, hy, hs⟩)
theorem px_ml_newa : px_Ml px_o_newa := by
  intro sc a ip x y st h ip1 x1 st1 h1 hx hy hs hF
  simp only [px_o_newa, Bool.cond_eq_ite] at hF ⊢
  repeat' split at hF
  all_goals first | (cases hF; done) | (cases hF; exact ⟨y, by simp_all, hx, hy, hs⟩)
theorem px_ml_objinit : px_Ml px_o_objinit := by
  intro sc a ip x y st h ip1 x1 st1 h1 hx hy hs hF
  simp only [px_o_objinit, Bool.cond_eq_ite] at hF ⊢
  repeat' split at hF
  all_goals first | (cases hF; done) | (cases hF; exact ⟨y, by simp_all, hx, hy, hs⟩)
theorem px_ml_l2 : px_Ml px_o_l2 := by
  intro sc a ip x y st h ip1 x1 st1 h1 hx hy hs hF
  simp only [px_o_l2, Bool.cond_eq_ite] at hF ⊢
  repeat' split at hF
  all_goals first | (cases hF; done) | (cases hF; exact ⟨y, by simp_all, hx, hy, hs⟩)
theorem px_ml_lconst : px_Ml px_o_lconst := by
  intro sc a ip x y st h ip1 x1 st1 h1 hx hy hs hF
  simp only [px_o_lconst, Bool.cond_eq_ite] at hF ⊢
  repeat' split at hF
  all_goals first | (cases hF; done) | (cases hF; exact ⟨y, by simp_all, hx, hy, hs⟩)
theorem px_ml_i2c : px_Ml px_o_i2c := by
  intro sc a ip x y st h ip1 x1 st1 h1 hx hy hs hF
  simp only [px_o_i2c, Bool.cond_eq_ite] at hF ⊢
  repeat' split at hF
  all_goals first | (cases hF; done) | (cases hF; exact ⟨y, by simp_all, hx, hy, hs⟩)
theorem px_ml_no : px_Ml px_o_no := by
  intro sc a ip x y st h ip1 x1 st1 h1 hx hy hs hF
  simp only [px_o_no, Bool.cond_eq_ite] at hF ⊢
  repeat' split at hF
  all_goals first | (cases hF; done) | (cases hF; exact ⟨y, by simp_all, hx, hy, hs⟩)
theorem px_ml_newr : px_Ml px_o_newr := by
  intro sc a ip x y st h ip1 x1 st1 h1 hx hy hs hF
  simp only [px_o_newr, Bool.cond_eq_ite] at hF ⊢
  repeat' split at hF
  all_goals first | (cases hF; done) | (cases hF; exact ⟨y, by simp_all, hx, hy, hs⟩)
theorem px_ml_aast : px_Ml px_o_aast := by
  intro sc a ip x y st h ip1 x1 st1 h1 hx hy hs hF
  simp only [px_o_aast, Bool.cond_eq_ite] at hF ⊢
  repeat' split at hF
  all_goals first | (cases hF; done) | (cases hF; exact ⟨y, by simp_all, hx, hy, hs⟩)
theorem px_ml_bin (f : Int → Int → Option Int) : px_Ml (px_bin f) := by
  intro sc a ip x y st h ip1 x1 st1 h1 hx hy hs hF
  simp only [px_bin] at hF ⊢
  repeat' split at hF
  all_goals first | (cases hF; done) | (cases hF; exact ⟨y, by simp_all, hx, hy, hs⟩)
theorem px_ml_lbin (f : Int → Int → Option Int) : px_Ml (px_lbin f) := by
  intro sc a ip x y st h ip1 x1 st1 h1 hx hy hs hF
  simp only [px_lbin] at hF ⊢
  repeat' split at hF
  all_goals first | (cases hF; done) | (cases hF; exact ⟨y, by simp_all, hx, hy, hs⟩)
theorem px_ml_iload : px_Ml px_o_iload := by
  intro sc a ip x y st h ip1 x1 st1 h1 hx hy hs hF
  simp only [px_o_iload] at hF ⊢
  split at hF
  · split at hF
    · rename_i hv
      cases hF
      rw [hs _ _ hv]
      exact ⟨y, rfl, hx, hy, hs⟩
    · cases hF
  · cases hF
theorem px_ml_lload : px_Ml px_o_lload := by
  intro sc a ip x y st h ip1 x1 st1 h1 hx hy hs hF
  simp only [px_o_lload] at hF ⊢
  split at hF
  · split at hF
    · rename_i hv
      cases hF
      rw [hs _ _ hv]
      exact ⟨y, rfl, hx, hy, hs⟩
    · cases hF
  · cases hF
theorem px_ml_aload : px_Ml px_o_aload := by
  intro sc a ip x y st h ip1 x1 st1 h1 hx hy hs hF
  simp only [px_o_aload] at hF ⊢
  split at hF
  · split at hF
    · rename_i hv
      cases hF
      rw [hs _ _ hv]
      exact ⟨y, rfl, hx, hy, hs⟩
    · cases hF
  · cases hF
theorem px_ml_istore : px_Ml px_o_istore := by
  intro sc a ip x y st h ip1 x1 st1 h1 hx hy hs hF
  simp only [px_o_istore] at hF ⊢
  split at hF
  · rename_i hv
    cases hF
    exact ⟨_, rfl, px_nd_s1 hx _ _, px_nd_s1 hy _ _, px_sub_s1 hx hy hs _ _⟩
  · cases hF
theorem px_ml_lstore : px_Ml px_o_lstore := by
  intro sc a ip x y st h ip1 x1 st1 h1 hx hy hs hF
  simp only [px_o_lstore] at hF ⊢
  split at hF
  · rename_i hv
    cases hF
    exact ⟨_, rfl, px_nd_s2 hx _ _, px_nd_s2 hy _ _, px_sub_s2 hx hy hs _ _⟩
  · cases hF
theorem px_ml_astore : px_Ml px_o_astore := by
  intro sc a ip x y st h ip1 x1 st1 h1 hx hy hs hF
  simp only [px_o_astore] at hF ⊢
  split at hF
  · rename_i hv
    cases hF
    exact ⟨_, rfl, px_nd_s1 hx _ _, px_nd_s1 hy _ _, px_sub_s1 hx hy hs _ _⟩
  · cases hF
theorem px_ml_tsw : px_Ml px_o_tsw := by
  intro sc a ip x y st h ip1 x1 st1 h1 hx hy hs hF
  simp only [px_o_tsw] at hF ⊢
  split at hF
  · split at hF
    · split at hF
      · rename_i h0
        cases hF
        rw [if_pos h0]
        exact ⟨y, rfl, hx, hy, hs⟩
      · rename_i h0
        rw [if_neg h0]
        split at hF
        · rename_i hv
          cases hF
          first | exact ⟨y, rfl, hx, hy, hs⟩ | (rw [hv]; exact ⟨y, rfl, hx, hy, hs⟩)
        · cases hF
    · cases hF
  · cases hF
theorem px_ml_iinc : px_Ml px_o_iinc := by
  intro sc a ip x y st h ip1 x1 st1 h1 hx hy hs hF
  simp only [px_o_iinc] at hF ⊢
  split at hF
  · split at hF
    · rename_i hv
      cases hF
      rw [hs _ _ hv]
      exact ⟨_, rfl, px_nd_s1 hx _ _, px_nd_s1 hy _ _, px_sub_s1 hx hy hs _ _⟩
    · cases hF
  · cases hF
theorem px_ml_gets : px_Ml px_o_gets := by
  intro sc a ip x y st h ip1 x1 st1 h1 hx hy hs hF
  simp only [px_o_gets] at hF ⊢
  split at hF
  · cases hF
    exact ⟨y, rfl, hx, hy, hs⟩
  · split at hF
    · rename_i hv
      split at hF
      · rename_i h0
        split at hF
        · rename_i hw
          cases hF
          rw [hs _ _ hv]
          simp only
          rw [if_pos h0, hw]
          exact ⟨y, rfl, hx, hy, hs⟩
        · cases hF
      · cases hF
    · cases hF
  · cases hF
theorem px_ml_prim : px_Ml px_o_prim := by
  intro sc a ip x y st h ip1 x1 st1 h1 hx hy hs hF
  simp only [px_o_prim] at hF ⊢
  split at hF
  · split at hF
    · rename_i h0
      cases hF
      rw [if_pos h0]
      exact ⟨y, rfl, hx, hy, hs⟩
    · cases hF
  · split at hF
    · rename_i hv
      split at hF
      · rename_i h0
        split at hF
        · rename_i hw
          cases hF
          rw [hs _ _ hv]
          simp only
          rw [if_pos h0, hw]
          exact ⟨y, rfl, hx, hy, hs⟩
        · cases hF
      · cases hF
    · cases hF
  · split at hF
    · rename_i hv
      split at hF
      · rename_i h0
        cases hF
        rw [hs _ _ hv]
        simp only
        rw [if_pos h0]
        exact ⟨y, rfl, hx, hy, hs⟩
      · cases hF
    · cases hF
  · cases hF
theorem px_ml_ops {k : Nat} {F : px_F} (h : px_ops[k]? = some F) : px_Ml F := by
  have hk : k < 59 := (List.getElem?_eq_some_iff.mp h).1
  match k, hk, h with
  | 0, _, h => cases h; exact px_ml_const
  | 1, _, h => cases h; exact px_ml_const
  | 2, _, h => cases h; exact px_ml_const
  | 3, _, h => cases h; exact px_ml_const
  | 4, _, h => cases h; exact px_ml_const
  | 5, _, h => cases h; exact px_ml_iload
  | 6, _, h => cases h; exact px_ml_iload
  | 7, _, h => cases h; exact px_ml_istore
  | 8, _, h => cases h; exact px_ml_istore
  | 9, _, h => cases h; exact px_ml_iinc
  | 10, _, h => cases h; exact px_ml_bin _
  | 11, _, h => cases h; exact px_ml_bin _
  | 12, _, h => cases h; exact px_ml_bin _
  | 13, _, h => cases h; exact px_ml_bin _
  | 14, _, h => cases h; exact px_ml_bin _
  | 15, _, h => cases h; exact px_ml_bin _
  | 16, _, h => cases h; exact px_ml_bin _
  | 17, _, h => cases h; exact px_ml_bin _
  | 18, _, h => cases h; exact px_ml_bin _
  | 19, _, h => cases h; exact px_ml_bin _
  | 20, _, h => cases h; exact px_ml_bin _
  | 21, _, h => cases h; exact px_ml_icmp
  | 22, _, h => cases h; exact px_ml_ifc
  | 23, _, h => cases h; exact px_ml_goto
  | 24, _, h => cases h; exact px_ml_tsw
  | 25, _, h => cases h; exact px_ml_lsw
  | 26, _, h => cases h; exact px_ml_dup
  | 27, _, h => cases h; exact px_ml_pop
  | 28, _, h => cases h; exact px_ml_dup2
  | 29, _, h => cases h; exact px_ml_aload
  | 30, _, h => cases h; exact px_ml_astore
  | 31, _, h => cases h; exact px_ml_getf
  | 32, _, h => cases h; exact px_ml_putf
  | 33, _, h => cases h; exact px_ml_iald
  | 34, _, h => cases h; exact px_ml_iast
  | 35, _, h => cases h; exact px_ml_aald
  | 36, _, h => cases h; exact px_ml_aast
  | 37, _, h => cases h; exact px_ml_alen
  | 38, _, h => cases h; exact px_ml_new
  | 39, _, h => cases h; exact px_ml_newa
  | 40, _, h => cases h; exact px_ml_newr
  | 41, _, h => cases h; exact px_ml_lload
  | 42, _, h => cases h; exact px_ml_lload
  | 43, _, h => cases h; exact px_ml_lstore
  | 44, _, h => cases h; exact px_ml_lstore
  | 45, _, h => cases h; exact px_ml_lconst
  | 46, _, h => cases h; exact px_ml_lconst
  | 47, _, h => cases h; exact px_ml_lbin _
  | 48, _, h => cases h; exact px_ml_lbin _
  | 49, _, h => cases h; exact px_ml_lbin _
  | 50, _, h => cases h; exact px_ml_lbin _
  | 51, _, h => cases h; exact px_ml_lcmp
  | 52, _, h => cases h; exact px_ml_l2
  | 53, _, h => cases h; exact px_ml_i2c
  | 54, _, h => cases h; exact px_ml_gets
  | 55, _, h => cases h; exact px_ml_copy
  | 56, _, h => cases h; exact px_ml_objinit
  | 57, _, h => cases h; exact px_ml_prim
  | 58, _, h => cases h; exact px_ml_no
  | n + 59, hk, _ => exact absurd hk (by omega)
theorem px_run_ls (sc : List Int) : ∀ (n d m ip : Nat) (x y : px_L) (st : List px_V) (h : px_H) (r : Option px_V × px_H), px_nd x = true → px_nd y = true → px_sub x y → px_run sc n d m ip x st h = some r → px_run sc n d m ip y st h = some r := by
  intro n
  induction n with
  | zero => intro d m ip x y st h r _ _ _ hr; cases hr
  | succ n ih =>
    intro d m ip x y st h r hx hy hs hr
    unfold px_run at hr ⊢
    split at hr
    · split at hr
      · rw [Bool.cond_eq_ite] at hr ⊢
        split at hr
        · rename_i hmay
          rw [if_pos hmay]
          split at hr
          · rename_i r2 h2 hc
            first | exact ih _ _ _ _ _ _ _ _ hx hy hs hr | (rw [hc]; exact ih _ _ _ _ _ _ _ _ hx hy hs hr)
          · cases hr
        · cases hr
      · cases hr
    · exact hr
    · exact hr
    · exact hr
    · rename_i he
      split at hr
      · rename_i ip1 x1 st1 h1 hst
        unfold px_st at hst
        rw [he] at hst
        simp only at hst
        split at hst
        · rename_i F hF
          obtain ⟨y1, b1, b2, b3, b4⟩ := px_ml_ops hF _ _ _ _ _ _ _ _ _ _ _ hx hy hs hst
          have hst2 : px_st sc m ip y st h = some (ip1, y1, st1, h1) := by
            unfold px_st
            rw [he]
            simp only
            rw [hF]
            exact b1
          rw [hst2]
          exact ih _ _ _ _ _ _ _ _ b2 b3 b4 hr
        · cases hst
      · cases hr
    · cases hr
section PXD2
variable {sc : List Int} {d m ip : Nat} {ls : px_L} {st : List px_V} {h : px_H} {Q : Option px_V → px_H → Prop}
theorem px_sub_of {a b : px_L} (h : ∀ q ∈ a, px_ld b q.1 = some q.2) : px_sub a b := by
  intro i v hv
  have : ∃ q ∈ a, q.1 = i ∧ q.2 = v := by
    induction a with
    | nil => cases hv
    | cons q t ih =>
      rw [px_ld_cons] at hv
      by_cases hq : q.1 = i
      · rw [if_pos hq] at hv
        exact ⟨q, List.mem_cons_self, hq, Option.some.inj hv⟩
      · rw [if_neg hq] at hv
        obtain ⟨p, h1, h2⟩ := ih (fun p hp => h p (List.mem_cons_of_mem _ hp)) hv
        exact ⟨p, List.mem_cons_of_mem _ h1, h2⟩
  obtain ⟨q, h1, rfl, rfl⟩ := this
  exact h q h1
theorem px_D_ls (x : px_L) (hx : px_nd x = true) (hy : px_nd ls = true) (hs : ∀ q ∈ x, px_ld ls q.1 = some q.2) (kk : px_D sc d m ip x st h Q) : px_D sc d m ip ls st h Q := by
  obtain ⟨n, r, h1, a, b⟩ := kk
  exact ⟨n, r, h1, px_run_ls sc n d m ip x ls st h _ hx hy (px_sub_of hs) a, b⟩
theorem px_D_iald {pc k n : Nat} {a : List Int} {rs : List (Option Nat)} {j : Int} (he : px_e m ip = some (pc, 37, a)) (hG : h.1[k]? = some (12, n, rs)) (hb : 0 ≤ j ∧ j < n) (kk : px_D sc d m (ip + 1) ls (.inl (h.2 (k + 5) j.toNat) :: st) h Q) : px_D sc d m ip ls (.inl j :: .inr (.inr (k + 5)) :: st) h Q := by
  refine px_D_1 he ?_ kk
  unfold px_st
  rw [he]
  show px_o_iald sc a ip ls (.inl j :: .inr (.inr (k + 5)) :: st) h = _
  simp only [px_o_iald, px_pI, px_pR, px_rd]
  rw [hG]
  simp only
  rw [if_pos hb]
theorem px_D_iast {pc k n : Nat} {a : List Int} {rs : List (Option Nat)} {j v : Int} (he : px_e m ip = some (pc, 38, a)) (hG : h.1[k]? = some (12, n, rs)) (hb : 0 ≤ j ∧ j < n) (kk : px_D sc d m (ip + 1) ls st (h.1, px_up h.2 (k + 5) j.toNat v) Q) : px_D sc d m ip ls (.inl v :: .inl j :: .inr (.inr (k + 5)) :: st) h Q := by
  refine px_D_1 he ?_ kk
  unfold px_st
  rw [he]
  show px_o_iast sc a ip ls (.inl v :: .inl j :: .inr (.inr (k + 5)) :: st) h = _
  simp only [px_o_iast, px_pI, px_pR]
  rw [hG]
  simp only
  rw [if_pos hb]
theorem px_D_div {pc : Nat} {a : List Int} {x y : Int} (he : px_e m ip = some (pc, 17, a)) (hy : ¬ y = 0) (kk : px_D sc d m (ip + 1) ls (.inl (px_wr (x.tdiv y)) :: st) h Q) : px_D sc d m ip ls (.inl y :: .inl x :: st) h Q := by
  refine px_D_1 he ?_ kk
  unfold px_st
  rw [he]
  show px_bin _ sc a ip ls (.inl y :: .inl x :: st) h = _
  simp only [px_bin, px_pI]
  rw [if_neg hy]
theorem px_D_rem {pc : Nat} {a : List Int} {x y : Int} (he : px_e m ip = some (pc, 18, a)) (hy : ¬ y = 0) (kk : px_D sc d m (ip + 1) ls (.inl (x.tmod y) :: st) h Q) : px_D sc d m ip ls (.inl y :: .inl x :: st) h Q := by
  refine px_D_1 he ?_ kk
  unfold px_st
  rw [he]
  show px_bin _ sc a ip ls (.inl y :: .inl x :: st) h = _
  simp only [px_bin, px_pI]
  rw [if_neg hy]
theorem px_D_ldiv {pc : Nat} {a : List Int} {x y : Int} (he : px_e m ip = some (pc, 53, a)) (hy : ¬ y = 0) (kk : px_D sc d m (ip + 1) ls (.inr (.inl (px_wl (x.tdiv y))) :: st) h Q) : px_D sc d m ip ls (.inr (.inl y) :: .inr (.inl x) :: st) h Q := by
  refine px_D_1 he ?_ kk
  unfold px_st
  rw [he]
  show px_lbin _ sc a ip ls (.inr (.inl y) :: .inr (.inl x) :: st) h = _
  simp only [px_lbin, px_pL]
  rw [if_neg hy]
theorem px_D_lrem {pc : Nat} {a : List Int} {x y : Int} (he : px_e m ip = some (pc, 54, a)) (hy : ¬ y = 0) (kk : px_D sc d m (ip + 1) ls (.inr (.inl (x.tmod y)) :: st) h Q) : px_D sc d m ip ls (.inr (.inl y) :: .inr (.inl x) :: st) h Q := by
  refine px_D_1 he ?_ kk
  unfold px_st
  rw [he]
  show px_lbin _ sc a ip ls (.inr (.inl y) :: .inr (.inl x) :: st) h = _
  simp only [px_lbin, px_pL]
  rw [if_neg hy]
theorem px_D_tsw {pc : Nat} {df lo hi t c x : Int} {ts : List Int} (he : px_e m ip = some (pc, 28, df :: lo :: hi :: ts)) (hx : x = c) (hc : ¬ (c < lo ∨ hi < c)) (ht : ts[(c - lo).toNat]? = some t) (kk : px_D sc d m t.toNat ls st h Q) : px_D sc d m ip ls (.inl x :: st) h Q := by
  refine px_D_1 he ?_ kk
  unfold px_st
  rw [he]
  show px_o_tsw sc _ ip ls (.inl x :: st) h = _
  simp only [px_o_tsw, px_pI]
  rw [hx, if_neg hc, ht]
theorem px_D_tswD {pc : Nat} {df lo hi x : Int} {ts : List Int} (he : px_e m ip = some (pc, 28, df :: lo :: hi :: ts)) (hc : x < lo ∨ hi < x) (kk : px_D sc d m df.toNat ls st h Q) : px_D sc d m ip ls (.inl x :: st) h Q := by
  refine px_D_1 he ?_ kk
  unfold px_st
  rw [he]
  show px_o_tsw sc _ ip ls (.inl x :: st) h = _
  simp only [px_o_tsw, px_pI]
  rw [if_pos hc]
theorem px_D_lsw {pc : Nat} {df x t : Int} {ts : List Int} (he : px_e m ip = some (pc, 29, df :: ts)) (hx : px_lk ts df x = t) (kk : px_D sc d m t.toNat ls st h Q) : px_D sc d m ip ls (.inl x :: st) h Q := by
  refine px_D_1 he ?_ kk
  unfold px_st
  rw [he]
  show px_o_lsw sc _ ip ls (.inl x :: st) h = _
  simp only [px_o_lsw, px_pI]
  rw [hx]
theorem px_D_aald {pc k n r : Nat} {a : List Int} {rs : List (Option Nat)} {j c : Int} (he : px_e m ip = some (pc, 39, a)) (hG : h.1[k]? = some (13, n, rs)) (hj : j = c) (hb : 0 ≤ c ∧ c < n) (hr : px_rf rs c.toNat = some r) (kk : px_D sc d m (ip + 1) ls (.inr (.inr r) :: st) h Q) : px_D sc d m ip ls (.inl j :: .inr (.inr (k + 5)) :: st) h Q := by
  refine px_D_1 he ?_ kk
  unfold px_st
  rw [he]
  show px_o_aald sc a ip ls (.inl j :: .inr (.inr (k + 5)) :: st) h = _
  simp only [px_o_aald, px_pI, px_pR]
  rw [hG]
  simp only
  rw [hj, if_pos hb, hr]
theorem px_D_sld {pc : Nat} {a : List Int} {j v : Int} (he : px_e m ip = some (pc, 37, a)) (hb : 0 ≤ j) (hv : sc[j.toNat]? = some v) (kk : px_D sc d m (ip + 1) ls (.inl v :: st) h Q) : px_D sc d m ip ls (.inl j :: .inr (.inr 1) :: st) h Q := by
  refine px_D_1 he ?_ kk
  unfold px_st
  rw [he]
  show px_o_iald sc a ip ls (.inl j :: .inr (.inr 1) :: st) h = _
  simp only [px_o_iald, px_pI, px_pR, px_rd]
  rw [if_pos hb, hv]
theorem px_D_gets {pc : Nat} {q ix w ip2 i j v : Int} (he : px_e m ip = some (pc, 58, [1, q, ix, w, ip2, i])) (hl : px_ld ls i.toNat = some (.inl j)) (hb : 0 ≤ j) (hv : px_mt[j.toNat]? = some v) (kk : px_D sc d m ip2.toNat ls (.inl v :: st) h Q) : px_D sc d m ip ls st h Q := by
  refine px_D_1 he ?_ kk
  unfold px_st
  rw [he]
  show px_o_gets sc _ ip ls st h = _
  simp only [px_o_gets]
  rw [hl]
  simp only
  rw [if_pos hb, hv]
theorem px_D_chr {pc : Nat} {q ix r ip2 iv i z j v : Int} (he : px_e m ip = some (pc, 61, [2, q, ix, r, ip2, iv, i, z])) (hl : px_ld ls i.toNat = some (.inl j)) (hb : 0 ≤ j) (hs : st.length ≤ 3) (hv : (px_tx r)[j.toNat]? = some v) (kk : px_D sc d m ip2.toNat ls (.inl v :: st) h Q) : px_D sc d m ip ls st h Q := by
  refine px_D_1 he ?_ kk
  unfold px_st
  rw [he]
  show px_o_prim sc _ ip ls st h = _
  simp only [px_o_prim]
  rw [hl]
  simp only
  rw [if_pos ⟨hb, hs⟩, hv]
theorem px_D_putz {pc k c n : Nat} {rs : List (Option Nat)} {ci sl fi ix v : Int} (he : px_e m ip = some (pc, 36, [ci, sl, 1, fi, ix])) (hG : h.1[k]? = some (c, n, rs)) (hc : (c == ci.toNat) = true) (hr : rs[sl.toNat]? = some none) (hv : v = 0 ∨ v = 1) (kk : px_D sc d m (ip + 1) ls st (h.1, px_up h.2 (k + 5) sl.toNat v) Q) : px_D sc d m ip ls (.inl v :: .inr (.inr (k + 5)) :: st) h Q := by
  refine px_D_1 he ?_ kk
  unfold px_st
  rw [he]
  have hz : (((1 : Int) == 0) || ((1 : Int) == 4) || (v == 0) || (v == 1)) = true := by
    rcases hv with rfl | rfl <;> rfl
  show px_o_putf sc [ci, sl, 1, fi, ix] ip ls (.inl v :: .inr (.inr (k + 5)) :: st) h = _
  unfold px_o_putf
  show (match (some (v, Sum.inr (Sum.inr (k + 5)) :: st) : Option (Int × List px_V)) with
      | some (v, st) => match px_pR st with
        | some (k + 5, st) => match h.1[k]? with
          | some (c, _, rs) => bif c == ci.toNat && (((1 : Int) == 0) || ((1 : Int) == 4) || (v == 0) || (v == 1)) then match rs[sl.toNat]? with
              | some none => some (ip + 1, ls, st, (h.1, px_up h.2 (k + 5) sl.toNat v))
              | _ => none
            else none
          | none => none
        | _ => none
      | none => none) = _
  simp only [px_pR]
  rw [hG]
  simp only
  rw [hc, hz]
  simp only [Bool.and_self, cond_true]
  rw [hr]
end PXD2
