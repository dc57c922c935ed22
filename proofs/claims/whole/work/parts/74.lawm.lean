/-! the same of the reference -/
def pz_pm (a : Nat) : Nat := if a ≤ 3 then a else if a = 4 then 7 else if a = 5 then 4 else if a = 6 then 8 else if a = 7 then 5 else 6
def pz_cr (c o a : Int) : Prop := (o = 0 ∧ c = 1000 + a ∧ 0 ≤ a ∧ a ≤ 9999) ∨ (o = 1 ∧ 0 ≤ a ∧ a ≤ 8 ∧ c = 256 + (pz_pm a.toNat : Int)) ∨ (o = 2 ∧ c = 43) ∨ (o = 3 ∧ c = 45) ∨ (o = 4 ∧ c = 42) ∨ (o = 5 ∧ c = 47) ∨ (o = 6 ∧ c = 60) ∨ (o = 7 ∧ c = 61) ∨ (o = 8 ∧ c = 62) ∨ (o = 9 ∧ c = 272) ∨ (o = 10 ∧ c = 271) ∨ (o = 11 ∧ c = 270)
theorem pz_pm_le {a : Nat} (h : a ≤ 8) : pz_pm a ≤ 8 := by
  unfold pz_pm
  repeat' split
  all_goals omega
theorem pz_two {s : px_Z} {c o a x y : Int} {ts us : List Nat} {p : List Int} (hc : pz_cr c o a) (ht : pz_t1 c ts = some us) (hv : pz_sv ts (y :: x :: p)) (h0 : o ≠ 0) (h1 : o ≠ 1) (h9 : o ≠ 9) : f_M_twoOf s o x y = some (pz_jn c x y) := by
  cases ts with
  | nil => exact absurd hv id
  | cons b ts => cases ts with
    | nil => exact absurd hv.2 id
    | cons a' ts =>
      have hy := hv.1
      have hx := hv.2.1
      unfold pz_cr at hc
      rcases hc with h | h | h | h | h | h | h | h | h | h | h | h
      · exact absurd h.1 h0
      · exact absurd h.1 h1
      · obtain ⟨rfl, rfl⟩ := h; rfl
      · obtain ⟨rfl, rfl⟩ := h; rfl
      · obtain ⟨rfl, rfl⟩ := h; rfl
      · obtain ⟨rfl, rfl⟩ := h
        have h2 : b = 2 := by
          rw [pz_t1, pz_t2_c] at ht
          simp only [show ¬ ((1000 : Int) ≤ 47) by decide, show ¬ ((256 : Int) ≤ 47 ∧ (47 : Int) ≤ 264) by decide, show ¬ ((47 : Int) = 272) by decide, show ¬ ((47 : Int) = 42 ∨ (47 : Int) = 43 ∨ (47 : Int) = 45) by decide, show ¬ ((47 : Int) = 60 ∨ (47 : Int) = 61 ∨ (47 : Int) = 62) by decide, show ¬ ((47 : Int) = 270 ∨ (47 : Int) = 271) by decide, if_false, false_and, true_and] at ht
          split at ht
          · rename_i h; exact h.2
          · cases ht
        have h3 := hy.2 h2
        show (if y = 0 then none else some (px_wr (x.tdiv y))) = some (if y = 0 then 0 else px_wr (x.tdiv y))
        rw [if_neg (by omega), if_neg (by omega)]
      · obtain ⟨rfl, rfl⟩ := h
        show (if y ≤ x then some (0 : Int) else some 1) = some (if y ≤ x then 0 else 1)
        split <;> rfl
      · obtain ⟨rfl, rfl⟩ := h
        show (if x = y then some (1 : Int) else some 0) = some (if x = y then 1 else 0)
        split <;> rfl
      · obtain ⟨rfl, rfl⟩ := h
        show (if x ≤ y then some (0 : Int) else some 1) = some (if x ≤ y then 0 else 1)
        split <;> rfl
      · exact absurd h.1 h9
      · obtain ⟨rfl, rfl⟩ := h
        have h2 : a' = 1 ∧ b = 1 := by
          rw [pz_t1, pz_t2_c] at ht
          simp only [show ¬ ((1000 : Int) ≤ 271) by decide, show ¬ ((256 : Int) ≤ 271 ∧ (271 : Int) ≤ 264) by decide, show ¬ ((271 : Int) = 272) by decide, show ¬ ((271 : Int) = 42 ∨ (271 : Int) = 43 ∨ (271 : Int) = 45) by decide, show ¬ ((271 : Int) = 47) by decide, show ¬ ((271 : Int) = 60 ∨ (271 : Int) = 61 ∨ (271 : Int) = 62) by decide, if_false, false_and] at ht
          split at ht
          · rename_i h; exact h.2
          · cases ht
        rcases hx.1 h2.1 with rfl | rfl <;> rcases hy.1 h2.2 with rfl | rfl <;> rfl
      · obtain ⟨rfl, rfl⟩ := h
        have h2 : a' = 1 ∧ b = 1 := by
          rw [pz_t1, pz_t2_c] at ht
          simp only [show ¬ ((1000 : Int) ≤ 270) by decide, show ¬ ((256 : Int) ≤ 270 ∧ (270 : Int) ≤ 264) by decide, show ¬ ((270 : Int) = 272) by decide, show ¬ ((270 : Int) = 42 ∨ (270 : Int) = 43 ∨ (270 : Int) = 45) by decide, show ¬ ((270 : Int) = 47) by decide, show ¬ ((270 : Int) = 60 ∨ (270 : Int) = 61 ∨ (270 : Int) = 62) by decide, if_false, false_and] at ht
          split at ht
          · rename_i h; exact h.2
          · cases ht
        rcases hx.1 h2.1 with rfl | rfl <;> rcases hy.1 h2.2 with rfl | rfl <;> rfl
theorem pz_runs_l {K : px_Z → Option (Int × px_Z)} {g code : Nat → Int} {j : Nat} (hj : j ≤ 1) {Q : Int × px_Z → Prop} : ∀ (m fu k : Nat) (s : px_Z) (ts us : List Nat) (st : List Int), ts.length ≤ 32 → m < fu → k + m ≤ 400 → (∀ i, k ≤ i → i < k + m → pz_cr (code i) (s 163 (400 * j + i)) (s 164 (400 * j + i))) → (∀ a, a ≤ 8 → s 174 a = g (pz_pm a)) → pz_ty code m k ts = some us → pz_sv ts st → pz_sk (s 175) st → (∀ t, pz_ag [175] s t → pz_sk (t 175) (pz_ev g code m k st) → pz_ok (K t) Q) → pz_ok (l_M_runs_8 K fu s (j : Int) ((k + m : Nat) : Int) (st.length : Int) ((400 * j + k : Nat) : Int)) Q := by
  intro m
  induction m with
  | zero =>
    intro fu k s ts us st hts hf hk hc hg ht hv hs hK
    obtain ⟨f, rfl⟩ : ∃ f, fu = f + 1 := ⟨fu - 1, by omega⟩
    rw [l_M_runs_8, pz_wr_id (x := 400 * (j : Int)) (by omega) (by omega), pz_wr_id (by omega) (by omega), if_pos (by omega)]
    exact hK s pz_ag_rf hs
  | succ m ih =>
    intro fu k s ts us st hts hf hk hc hg ht hv hs hK
    obtain ⟨f, rfl⟩ : ∃ f, fu = f + 1 := ⟨fu - 1, by omega⟩
    rw [pz_ty] at ht
    cases h1 : pz_t1 (code k) ts with
    | none => rw [h1] at ht; cases ht
    | some vs =>
      rw [h1] at ht
      obtain ⟨v, e1, e2⟩ := pz_e1_st (g := g) h1 hv hs
      have hv2 := pz_sv1 (g := g) h1 hv
      have hlen := pz_sv_len hv
      have hnext : ∀ (p : Nat) (w : Int), p = (pz_e1 g (code k) st).tail.length → w = v → pz_ok (l_M_runs_8 K f (px_up s 175 p w) (j : Int) ((k + 1 + m : Nat) : Int) ((pz_e1 g (code k) st).length : Int) ((400 * j + (k + 1) : Nat) : Int)) Q := by
        intro p w hp hw
        subst hp hw
        refine ih f (k + 1) _ vs us _ (pz_t1_len h1 hts) (by omega) (by omega) ?_ ?_ ht hv2 e2 (fun t h2 h3 => hK t ?_ h3)
        · intro i h5 h6
          rw [pz_up_get, if_neg (by omega), pz_up_get, if_neg (by omega)]
          exact hc i (by omega) (by omega)
        · intro a ha
          rw [pz_up_get, if_neg (by omega)]
          exact hg a ha
        · exact pz_ag_tr (pz_ag_up pz_ag_rf (List.mem_cons_self ..)) h2
      have hcr := hc k (Nat.le_refl _) (by omega)
      rw [show k + (m + 1) = k + 1 + m by omega]
      rw [l_M_runs_8, pz_wr_id (x := 400 * (j : Int)) (by omega) (by omega), pz_wr_id (x := 400 * (j : Int) + ((k + 1 + m : Nat) : Int)) (by omega) (by omega), if_neg (by omega), Int.toNat_natCast, pz_wr_suc (i := 400 * j + k) (by omega), show 400 * j + k + 1 = 400 * j + (k + 1) by omega]
      simp (disch := omega) only [if_pos]
      have hts' := hts
      by_cases o0 : s 163 (400 * j + k) = 0
      · have hcc : code k = 1000 + s 164 (400 * j + k) ∧ 0 ≤ s 164 (400 * j + k) ∧ s 164 (400 * j + k) ≤ 9999 := by
          unfold pz_cr at hcr
          rcases hcr with h | h | h | h | h | h | h | h | h | h | h | h
          · exact ⟨h.2.1, h.2.2⟩
          all_goals omega
        have a1 : 1000 ≤ code k := by omega
        have hl32 : ts.length < 32 := by
          unfold pz_t1 at h1
          rw [if_pos a1] at h1
          split at h1
          · rename_i h; exact h.2
          · cases h1
        unfold pz_e1 at hnext e1
        rw [if_pos a1] at hnext e1
        have e3 : px_wr (code k - 1000) = v := by injection e1
        rw [pz_wr_id (by omega) (by omega)] at e3
        rw [if_pos o0, Int.toNat_natCast, pz_wr_suc (i := st.length) (by omega)]
        exact hnext st.length _ rfl (by omega)
      · rw [if_neg o0]
        by_cases o1 : s 163 (400 * j + k) = 1
        · have hcc : 0 ≤ s 164 (400 * j + k) ∧ s 164 (400 * j + k) ≤ 8 ∧ code k = 256 + (pz_pm (s 164 (400 * j + k)).toNat : Int) := by
            unfold pz_cr at hcr
            rcases hcr with h | h | h | h | h | h | h | h | h | h | h | h
            · omega
            · exact h.2
            all_goals omega
          have hpm := pz_pm_le (a := (s 164 (400 * j + k)).toNat) (by omega)
          have a1 : ¬ 1000 ≤ code k := by omega
          have a2 : 256 ≤ code k ∧ code k ≤ 264 := by omega
          have hl32 : ts.length < 32 := by
            unfold pz_t1 at h1
            rw [if_neg a1, if_pos a2] at h1
            split at h1
            · assumption
            · cases h1
          unfold pz_e1 at hnext e1
          rw [if_neg a1, if_pos a2] at hnext e1
          have e3 : g (code k - 256).toNat = v := by injection e1
          rw [if_pos o1, if_neg o0, if_pos (by omega), Int.toNat_natCast, pz_wr_suc (i := st.length) (by omega)]
          refine hnext st.length _ rfl ?_
          rw [hg _ (by omega), ← e3]
          congr 1
          omega
        · rw [if_neg o1]
          have a1 : ¬ 1000 ≤ code k := by
            unfold pz_cr at hcr
            omega
          have a2 : ¬ (256 ≤ code k ∧ code k ≤ 264) := by
            unfold pz_cr at hcr
            omega
          by_cases o9 : s 163 (400 * j + k) = 9
          · have a3 : code k = 272 := by
              unfold pz_cr at hcr
              omega
            rw [if_pos o9]
            unfold pz_e1 at hnext e1
            rw [if_neg a1, if_neg a2, if_pos a3] at hnext e1
            unfold pz_t1 at h1
            rw [if_neg a1, if_neg a2, if_pos a3] at h1
            cases st with
            | nil => cases ts with
              | nil => cases h1
              | cons a r => exact absurd hv id
            | cons x p =>
              have e3 : px_wr (1 - x) = v := by injection e1
              have h5 : (((x :: p).length : Nat) : Int) = (p.length : Int) + 1 := rfl
              have h7 : p.length + 1 = ts.length := hlen
              rw [h5, pz_wr_id (x := (p.length : Int) + 1 - 1) (by omega) (by omega), show (p.length : Int) + 1 - 1 = (p.length : Int) by omega, if_pos (by omega), Int.toNat_natCast, hs.1]
              exact hnext p.length _ rfl e3
          · have a3 : ¬ (code k = 272) := by
              unfold pz_cr at hcr
              omega
            rw [if_neg o9]
            have h1' := h1
            unfold pz_e1 at hnext e1
            rw [if_neg a1, if_neg a2, if_neg a3] at hnext e1
            unfold pz_t1 at h1
            rw [if_neg a1, if_neg a2, if_neg a3] at h1
            cases ts with
            | nil => cases h1
            | cons b r => cases r with
              | nil => cases h1
              | cons a r => cases st with
                | nil => exact absurd hv id
                | cons y p => cases p with
                  | nil => exact absurd hv.2 id
                  | cons x p =>
                    have e3 : pz_jn (code k) x y = v := by injection e1
                    have h5 : (((y :: x :: p).length : Nat) : Int) = (p.length : Int) + 1 + 1 := rfl
                    have h7 : p.length + 1 + 1 = r.length + 1 + 1 := hlen
                    have h8 : r.length + 1 + 1 ≤ 32 := hts
                    rw [h5, pz_wr_id (x := (p.length : Int) + 1 + 1 - 1) (by omega) (by omega), pz_wr_id (by omega) (by omega), show (p.length : Int) + 1 + 1 - 1 = ((p.length + 1 : Nat) : Int) by omega, show ((p.length + 1 : Nat) : Int) - 1 = (p.length : Int) by omega, if_pos (by omega), if_pos (by omega), Int.toNat_natCast, Int.toNat_natCast]
                    rw [show s 175 p.length = x from hs.2.1, show s 175 (p.length + 1) = y from hs.1]
                    rw [pz_two hcr h1' hv o0 o1 o9, Option.bind_some]
                    exact hnext p.length _ rfl e3
theorem pz_runs_ok {s : px_Z} {g code : Nat → Int} {j : Nat} (hj : j ≤ 1) {a b : Int} {t : Nat} (h0 : 0 ≤ a) (h1 : a ≤ b) (h2 : b ≤ 400) (hc : ∀ i : Nat, (i : Int) < b → pz_cr (code i) (s 163 (400 * j + i)) (s 164 (400 * j + i))) (hg : ∀ a, a ≤ 8 → s 174 a = g (pz_pm a)) (ht : pz_ty code (b.toNat - a.toNat) a.toNat [] = some [t]) : ∃ u, f_M_runs s (j : Int) a b = some (pz_sg g code a b, u) ∧ pz_ag [175] s u := by
  obtain ⟨A, rfl⟩ : ∃ A : Nat, a = (A : Int) := ⟨a.toNat, by omega⟩
  obtain ⟨B, rfl⟩ : ∃ B : Nat, b = ((A + B : Nat) : Int) := ⟨b.toNat - A, by omega⟩
  simp only [Int.toNat_natCast] at ht
  rw [show A + B - A = B by omega] at ht
  have hv := pz_svm (g := g) _ _ _ _ [] ht trivial
  have h := pz_runs_l (K := fun s => some (s 175 0, s)) (g := g) hj (Q := fun q => q.1 = pz_sg g code (A : Int) ((A + B : Nat) : Int) ∧ pz_ag [175] s q.2) B px_big A s [] [t] [] (by decide) (pz_big_lt (by omega)) (by omega) (fun i _ h6 => hc i (by omega)) hg ht trivial trivial (fun u h3 h4 => by
    cases hq : pz_ev g code B A [] with
    | nil => rw [hq] at hv; exact absurd hv id
    | cons v r =>
      rw [hq] at hv h4
      cases r with
      | cons => exact absurd hv.2 id
      | nil =>
        refine ⟨_, rfl, ?_, h3⟩
        unfold pz_sg
        simp only [Int.toNat_natCast]
        rw [show A + B - A = B by omega, hq]
        exact h4.1)
  obtain ⟨⟨x, u⟩, e, h5, h6⟩ := h
  refine ⟨u, ?_, h6⟩
  rw [← h5]
  unfold f_M_runs
  rw [pz_wr_id (x := 400 * (j : Int)) (by omega) (by omega), pz_wr_id (by omega) (by omega), show 400 * (j : Int) + (A : Int) = ((400 * j + A : Nat) : Int) by omega]
  exact e
/-- a LAW of the reference is one of the class -/
def pz_LR (j m : Nat) (ln : Nat → Nat → Int) (code : Nat → Int) (v : px_Z) : Prop := m ≤ 16 ∧ v 158 j = (m : Int) ∧ (∀ l, l < m → pz_lo ln code l ∧ ln l 0 = 265 + v 159 (16 * j + l) ∧ ln l 1 = v 160 (16 * j + l) ∧ ln l 2 = v 161 (16 * j + l) ∧ ln l 3 = v 162 (16 * j + l) ∧ (∀ i : Nat, (i : Int) < ln l 3 → pz_cr (code i) (v 163 (400 * j + i)) (v 164 (400 * j + i))))
theorem pz_w16 {j i : Nat} (hj : j ≤ 1) (hi : i < 16) : px_wr (px_wr (16 * (j : Int)) + (i : Int)) = ((16 * j + i : Nat) : Int) := by
  rw [pz_wr_id (x := 16 * (j : Int)) (by omega) (by omega), pz_wr_id (by omega) (by omega)]; omega
theorem pz_tells {s : px_Z} {g code : Nat → Int} {ln : Nat → Nat → Int} {j m : Nat} (hj : j ≤ 1) (hL : pz_LR j m ln code s) (hg : ∀ a, a ≤ 8 → s 174 a = g (pz_pm a)) (w wo lo hi : Int) : ∃ u, f_M_lawTells s (j : Int) w wo lo hi = some (pz_cl (pz_lv g ln code (265 + w) wo m 0) lo hi, u) ∧ pz_ag [175] s u := by
  obtain ⟨hm, h0, hl⟩ := hL
  have hloop : ∀ (r fu i : Nat) (z : px_Z), pz_ag [175] s z → i + r = m → r < fu → ∃ (q : Int) (u : px_Z), l_M_lineOf_2 fu z (j : Int) w (i : Int) = some (q, u) ∧ pz_ag [175] s u ∧ ((q = -1 ∧ pz_lv g ln code (265 + w) wo r i = wo) ∨ (∃ l, l < m ∧ q = ((16 * j + l : Nat) : Int) ∧ pz_lv g ln code (265 + w) wo r i = pz_sg g code (ln l 1) (ln l 2))) := by
    intro r
    induction r with
    | zero =>
      intro fu i z hz hi hf
      obtain ⟨f, rfl⟩ : ∃ f, fu = f + 1 := ⟨fu - 1, by omega⟩
      rw [l_M_lineOf_2, if_pos (by omega), Int.toNat_natCast, hz 158 j (by decide), h0, if_pos (by omega)]
      exact ⟨-1, z, rfl, hz, Or.inl ⟨rfl, rfl⟩⟩
    | succ r ih =>
      intro fu i z hz hi hf
      obtain ⟨f, rfl⟩ : ∃ f, fu = f + 1 := ⟨fu - 1, by omega⟩
      obtain ⟨⟨l1, l2, l3, l4, ⟨t, l5, l6⟩, l7⟩, m0, m1, m2, m3, mc⟩ := hl i (by omega)
      have b1 : 0 ≤ ((16 * j + i : Nat) : Int) ∧ ((16 * j + i : Nat) : Int) < 48 := by omega
      have b2 : i < 2147483647 := by omega
      rw [l_M_lineOf_2, if_pos (by omega), Int.toNat_natCast, hz 158 j (by decide), h0, if_neg (by omega), pz_w16 hj (by omega), Int.toNat_natCast, pz_wr_suc (i := i) b2, hz 159 _ (by decide), hz 161 _ (by decide), hz 162 _ (by decide), ← m2, ← m3, pz_lv]
      simp only [if_pos b1]
      by_cases a1 : s 159 (16 * j + i) = w
      · have a1' : ln i 0 = 265 + w := by omega
        rw [if_pos a1]
        by_cases a2 : ln i 2 = ln i 3
        · rw [if_pos a2, if_pos ⟨a1', Or.inl a2⟩]
          exact ⟨_, z, rfl, hz, Or.inr ⟨i, by omega, rfl, rfl⟩⟩
        · rw [if_neg a2]
          obtain ⟨u, e, hu⟩ := pz_runs_ok (s := z) (g := g) (code := code) hj (a := ln i 2) (b := ln i 3) (by omega) l3 l4 (fun k hk => by rw [hz 163 _ (by decide), hz 164 _ (by decide)]; exact mc k hk) (fun a ha => by rw [hz 174 _ (by decide)]; exact hg a ha) (l7 a2)
          have hu2 := pz_ag_tr hz hu
          rw [e, Option.bind_some]
          by_cases a3 : pz_sg g code (ln i 2) (ln i 3) = 0
          · rw [if_pos a3, if_neg (fun h => h.2.elim a2 (fun h => h a3))]
            exact ih f (i + 1) u hu2 (by omega) (by omega)
          · rw [if_neg a3, if_pos ⟨a1', Or.inr a3⟩]
            exact ⟨_, u, rfl, hu2, Or.inr ⟨i, by omega, rfl, rfl⟩⟩
      · have a1' : ¬ (ln i 0 = 265 + w) := by omega
        rw [if_neg a1, if_neg (fun h => a1' h.1)]
        exact ih f (i + 1) z hz (by omega) (by omega)
  obtain ⟨q, z, e, hz, hq⟩ := hloop m px_big 0 s pz_ag_rf (by omega) (pz_big_lt (by omega))
  have e' : f_M_lineOf s (j : Int) w = some (q, z) := e
  unfold f_M_lawTells
  rw [e', Option.bind_some]
  dsimp only
  rcases hq with ⟨rfl, hq⟩ | ⟨l, hlm, rfl, hq⟩
  · rw [if_pos rfl, pz_heldM, hq]
    exact ⟨z, rfl, hz⟩
  · obtain ⟨⟨l1, l2, l3, l4, ⟨t, l5, l6⟩, l7⟩, m0, m1, m2, m3, mc⟩ := hl l hlm
    rw [if_neg (by omega), Int.toNat_natCast, hz 160 _ (by decide), hz 161 _ (by decide), ← m1, ← m2]
    simp (disch := omega) only [if_pos]
    obtain ⟨u, e, hu⟩ := pz_runs_ok (s := z) (g := g) (code := code) hj (a := ln l 1) (b := ln l 2) l1 l2 (by omega) (fun k hk => by rw [hz 163 _ (by decide), hz 164 _ (by decide)]; exact mc k (by omega)) (fun a ha => by rw [hz 174 _ (by decide)]; exact hg a ha) l5
    rw [e, Option.bind_some, pz_heldM, hq]
    exact ⟨u, rfl, pz_ag_tr hz hu⟩
