/-! RUNS OF THE SMALL MACHINE, goal first -/
def px_D (sc : List Int) (d m ip : Nat) (ls : px_L) (st : List px_V) (h : px_H) (Q : Option px_V → px_H → Prop) : Prop := ∃ n r h1, px_run sc n d m ip ls st h = some (r, h1) ∧ Q r h1
theorem px_more (sc : List Int) : ∀ (n d m ip : Nat) (ls : px_L) (st : List px_V) (h : px_H) (x : Option px_V × px_H), px_run sc n d m ip ls st h = some x → px_run sc (n + 1) d m ip ls st h = some x := by
  intro n
  induction n with
  | zero => intro d m ip ls st h x hr; cases hr
  | succ n ih =>
    intro d m ip ls st h x hr
    unfold px_run at hr ⊢
    split at hr
    · split at hr
      · rw [Bool.cond_eq_ite] at hr ⊢
        split at hr
        · rename_i hmay
          rw [if_pos hmay]
          split at hr
          · rename_i r2 h2 hc
            rw [ih _ _ _ _ _ _ _ hc]
            exact ih _ _ _ _ _ _ _ hr
          · cases hr
        · cases hr
      · cases hr
    · exact hr
    · exact hr
    · exact hr
    · split at hr
      · rename_i hs
        first | exact ih _ _ _ _ _ _ _ hr | (rw [hs]; exact ih _ _ _ _ _ _ _ hr)
      · cases hr
    · cases hr
theorem px_moreK (sc : List Int) (k : Nat) {n d m ip : Nat} {ls : px_L} {st : List px_V} {h : px_H} {x : Option px_V × px_H} (hr : px_run sc n d m ip ls st h = some x) : px_run sc (n + k) d m ip ls st h = some x := by
  induction k with
  | zero => exact hr
  | succ k ih => exact px_more sc _ _ _ _ _ _ _ _ ih
section PXD
variable {sc : List Int} {d m ip : Nat} {ls : px_L} {st : List px_V} {h : px_H} {Q : Option px_V → px_H → Prop}
theorem px_D_mono {Q' : Option px_V → px_H → Prop} (hk : px_D sc d m ip ls st h Q) (hq : ∀ r h, Q r h → Q' r h) : px_D sc d m ip ls st h Q' := by
  obtain ⟨n, r, h1, a, b⟩ := hk
  exact ⟨n, r, h1, a, hq _ _ b⟩
theorem px_D_1 {pc k : Nat} {a : List Int} {ip1 : Nat} {ls1 : px_L} {st1 : List px_V} {h1 : px_H} (he : px_e m ip = some (pc, k + 4, a)) (hs : px_st sc m ip ls st h = some (ip1, ls1, st1, h1)) (kk : px_D sc d m ip1 ls1 st1 h1 Q) : px_D sc d m ip ls st h Q := by
  obtain ⟨n, r, h2, b1, b2⟩ := kk
  refine ⟨n + 1, r, h2, ?_, b2⟩
  unfold px_run
  rw [he]
  simp only
  rw [hs]
  exact b1
def px_sts (sc : List Int) (m : Nat) : Nat → px_St → Option px_St
  | 0, s => some s
  | n + 1, (ip, ls, st, h) => match px_st sc m ip ls st h with
    | some s => px_sts sc m n s
    | none => none
theorem px_st_e {s : px_St} (hs : px_st sc m ip ls st h = some s) : ∃ pc k a, px_e m ip = some (pc, k + 4, a) := by
  unfold px_st at hs
  split at hs
  · rename_i pc k a he
    exact ⟨pc, k, a, he⟩
  · cases hs
theorem px_D_st (k : Nat) {ip1 : Nat} {ls1 : px_L} {st1 : List px_V} {h1 : px_H} (hs : px_sts sc m k (ip, ls, st, h) = some (ip1, ls1, st1, h1)) (kk : px_D sc d m ip1 ls1 st1 h1 Q) : px_D sc d m ip ls st h Q := by
  induction k generalizing ip ls st h with
  | zero =>
    cases hs
    exact kk
  | succ k ih =>
    unfold px_sts at hs
    split at hs
    · rename_i s hq
      obtain ⟨ip2, ls2, st2, h2⟩ := s
      obtain ⟨pc, k2, a, he⟩ := px_st_e hq
      exact px_D_1 he hq (ih hs)
    · cases hs
theorem px_D_icmp {pc : Nat} {c t x y : Int} (he : px_e m ip = some (pc, 25, [c, t])) (kt : px_cmp c x y = true → px_D sc d m t.toNat ls st h Q) (kf : px_cmp c x y = false → px_D sc d m (ip + 1) ls st h Q) : px_D sc d m ip ls (.inl y :: .inl x :: st) h Q := by
  have hs : px_st sc m ip ls (.inl y :: .inl x :: st) h = some (bif px_cmp c x y then t.toNat else ip + 1, ls, st, h) := by
    unfold px_st
    rw [he]
    rfl
  refine px_D_1 he hs ?_
  cases hb : px_cmp c x y with
  | true => exact kt hb
  | false => exact kf hb
theorem px_D_ifc {pc : Nat} {c t x : Int} (he : px_e m ip = some (pc, 26, [c, t])) (kt : px_cmp c x 0 = true → px_D sc d m t.toNat ls st h Q) (kf : px_cmp c x 0 = false → px_D sc d m (ip + 1) ls st h Q) : px_D sc d m ip ls (.inl x :: st) h Q := by
  have hs : px_st sc m ip ls (.inl x :: st) h = some (bif px_cmp c x 0 then t.toNat else ip + 1, ls, st, h) := by
    unfold px_st
    rw [he]
    rfl
  refine px_D_1 he hs ?_
  cases hb : px_cmp c x 0 with
  | true => exact kt hb
  | false => exact kf hb
theorem px_D_call {pc : Nat} {c na mi ix kd ci : Int} {as rest : List px_V} (he : px_e m ip = some (pc, 0, [c, na, mi, ix, kd, ci])) (hm : px_may h kd ci (px_mL c.toNat) na.toNat as rest = true) (hst : st = as.reverse ++ rest) (hl : as.length = na.toNat)
    (kk : px_D sc d c.toNat 0 (px_ag 0 as) [] h (fun r h1 => px_D sc (d + 1) m (ip + 1) ls (px_psh r rest) h1 Q)) : px_D sc (d + 1) m ip ls st h Q := by
  obtain ⟨n, r, h1, a1, n2, r2, h2, a2, a3⟩ := kk
  refine ⟨n + n2 + 1, r2, h2, ?_, a3⟩
  have e1 : (st.take na.toNat).reverse = as := by
    rw [hst, ← hl, ← List.length_reverse, List.take_left, List.reverse_reverse]
  have e2 : st.drop na.toNat = rest := by
    rw [hst, ← hl, ← List.length_reverse, List.drop_left]
  unfold px_run
  rw [he]
  simp only
  rw [e1, e2, hm]
  simp only [cond_true]
  rw [px_moreK sc n2 a1]
  simp only
  rw [Nat.add_comm n n2]
  exact px_moreK sc n a2
theorem px_D_iret {pc : Nat} {z v : Int} (he : px_e m ip = some (pc, 1, [z])) (hz : ((z == 0) || (v == 0) || (v == 1)) = true) (hq : Q (some (.inl v)) h) : px_D sc d m ip ls [.inl v] h Q := by
  refine ⟨1, some (.inl v), h, ?_, hq⟩
  unfold px_run
  rw [he]
  simp only
  have hz2 : (([z] == [0]) || (v == 0) || (v == 1)) = true := by
    simp only [Bool.or_eq_true, beq_iff_eq] at hz ⊢
    rcases hz with (q | q) | q
    · exact Or.inl (Or.inl (by rw [q]))
    · exact Or.inl (Or.inr q)
    · exact Or.inr q
  rw [hz2]
  rfl
theorem px_D_lret {pc : Nat} {v : Int} {a : List Int} (he : px_e m ip = some (pc, 2, a)) (hq : Q (some (.inr (.inl v))) h) : px_D sc d m ip ls [.inr (.inl v)] h Q := by
  refine ⟨1, some (.inr (.inl v)), h, ?_, hq⟩
  unfold px_run
  rw [he]
theorem px_D_vret {pc : Nat} {a : List Int} (he : px_e m ip = some (pc, 3, a)) (hq : Q none h) : px_D sc d m ip ls [] h Q := by
  refine ⟨1, none, h, ?_, hq⟩
  unfold px_run
  rw [he]
end PXD
