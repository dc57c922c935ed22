/-! what a LAW says: a stack machine over the class's code -/
def pz_jn (c x y : Int) : Int := if c = 42 then px_wr (x * y) else if c = 43 then px_wr (x + y) else if c = 45 then px_wr (x - y) else if c = 47 then (if y = 0 then 0 else px_wr (x.tdiv y)) else if c = 60 then (if y ≤ x then 0 else 1) else if c = 61 then (if x = y then 1 else 0) else if c = 62 then (if x ≤ y then 0 else 1) else if c = 270 then px_or x y else if c = 271 then px_and x y else 0
def pz_e2 (c : Int) : List Int → List Int
  | y :: x :: r => pz_jn c x y :: r
  | st => st
def pz_en : List Int → List Int
  | x :: r => px_wr (1 - x) :: r
  | [] => []
def pz_e1 (g : Nat → Int) (c : Int) (st : List Int) : List Int := if 1000 ≤ c then px_wr (c - 1000) :: st else if 256 ≤ c ∧ c ≤ 264 then g (c - 256).toNat :: st else if c = 272 then pz_en st else pz_e2 c st
def pz_ev (g code : Nat → Int) : Nat → Nat → List Int → List Int
  | 0, _, st => st
  | m + 1, k, st => pz_ev g code m (k + 1) (pz_e1 g (code k) st)
/-- kinds of what lies on the stack: 0 a number, 1 a truth, 2 a number that was told and is not 0 -/
def pz_t2 (c : Int) : List Nat → Option (List Nat)
  | b :: a :: r => if (c = 42 ∨ c = 43 ∨ c = 45) ∧ a ≠ 1 ∧ b ≠ 1 then some (0 :: r) else if c = 47 ∧ a ≠ 1 ∧ b = 2 then some (0 :: r) else if (c = 60 ∨ c = 61 ∨ c = 62) ∧ a ≠ 1 ∧ b ≠ 1 then some (1 :: r) else if (c = 270 ∨ c = 271) ∧ a = 1 ∧ b = 1 then some (1 :: r) else none
  | _ => none
def pz_tn : List Nat → Option (List Nat)
  | a :: r => if a = 1 then some (1 :: r) else none
  | [] => none
theorem pz_tn_c (a : Nat) (r : List Nat) : pz_tn (a :: r) = if a = 1 then some (1 :: r) else none := rfl
theorem pz_t2_c (c : Int) (b a : Nat) (r : List Nat) : pz_t2 c (b :: a :: r) = if (c = 42 ∨ c = 43 ∨ c = 45) ∧ a ≠ 1 ∧ b ≠ 1 then some (0 :: r) else if c = 47 ∧ a ≠ 1 ∧ b = 2 then some (0 :: r) else if (c = 60 ∨ c = 61 ∨ c = 62) ∧ a ≠ 1 ∧ b ≠ 1 then some (1 :: r) else if (c = 270 ∨ c = 271) ∧ a = 1 ∧ b = 1 then some (1 :: r) else none := rfl
def pz_t1 (c : Int) (ts : List Nat) : Option (List Nat) := if 1000 ≤ c then (if c ≤ 10999 ∧ ts.length < 32 then some ((if c = 1000 then 0 else 2) :: ts) else none) else if 256 ≤ c ∧ c ≤ 264 then (if ts.length < 32 then some (0 :: ts) else none) else if c = 272 then pz_tn ts else pz_t2 c ts
def pz_ty (code : Nat → Int) : Nat → Nat → List Nat → Option (List Nat)
  | 0, _, ts => some ts
  | m + 1, k, ts => (pz_t1 (code k) ts).bind (pz_ty code m (k + 1))
def pz_tv (t : Nat) (v : Int) : Prop := (t = 1 → v = 0 ∨ v = 1) ∧ (t = 2 → 1 ≤ v)
def pz_sv : List Nat → List Int → Prop
  | [], [] => True
  | t :: ts, v :: st => pz_tv t v ∧ pz_sv ts st
  | _, _ => False
theorem pz_sv_len : ∀ {ts : List Nat} {st : List Int}, pz_sv ts st → st.length = ts.length := by
  intro ts
  induction ts with
  | nil => intro st h; cases st with
    | nil => rfl
    | cons a r => exact absurd h id
  | cons t ts ih => intro st h; cases st with
    | nil => exact absurd h id
    | cons a r => show r.length + 1 = ts.length + 1; rw [ih h.2]
theorem pz_sv1 {g : Nat → Int} {c : Int} {ts us : List Nat} {st : List Int} (ht : pz_t1 c ts = some us) (hs : pz_sv ts st) : pz_sv us (pz_e1 g c st) := by
  unfold pz_t1 at ht
  unfold pz_e1
  split at ht
  · rename_i h1
    rw [if_pos h1]
    split at ht
    · cases ht
      refine ⟨⟨fun h => ?_, fun h => ?_⟩, hs⟩
      · split at h <;> omega
      · rw [pz_wr_id (by omega) (by omega)]
        split at h <;> omega
    · cases ht
  · rename_i h1
    rw [if_neg h1]
    split at ht
    · rename_i h2
      rw [if_pos h2]
      split at ht
      · cases ht
        exact ⟨⟨fun h => absurd h (by decide), fun h => absurd h (by decide)⟩, hs⟩
      · cases ht
    · rename_i h2
      rw [if_neg h2]
      split at ht
      · rename_i h3
        rw [if_pos h3]
        cases ts with
        | nil => cases ht
        | cons a r => cases st with
          | nil => exact absurd hs id
          | cons x q =>
            rw [pz_tn_c] at ht
            split at ht
            · rename_i h4
              cases ht
              refine ⟨⟨fun _ => ?_, fun h => absurd h (by decide)⟩, hs.2⟩
              rcases hs.1.1 h4 with rfl | rfl
              · exact Or.inr rfl
              · exact Or.inl rfl
            · cases ht
      · rename_i h3
        rw [if_neg h3]
        cases ts with
        | nil => cases ht
        | cons b r => cases r with
          | nil => cases ht
          | cons a r => cases st with
            | nil => exact absurd hs id
            | cons y q => cases q with
              | nil => exact absurd hs.2 id
              | cons x q =>
                rw [pz_t2_c] at ht
                have hq : pz_sv r q := hs.2.2
                have hy := hs.1
                have hx := hs.2.1
                show pz_sv us (pz_jn c x y :: q)
                split at ht
                · cases ht
                  exact ⟨⟨fun h => absurd h (by decide), fun h => absurd h (by decide)⟩, hq⟩
                · split at ht
                  · cases ht
                    exact ⟨⟨fun h => absurd h (by decide), fun h => absurd h (by decide)⟩, hq⟩
                  · split at ht
                    · rename_i h6
                      cases ht
                      refine ⟨⟨fun _ => ?_, fun h => absurd h (by decide)⟩, hq⟩
                      rcases h6.1 with rfl | rfl | rfl
                      · show (if y ≤ x then (0 : Int) else 1) = 0 ∨ (if y ≤ x then (0 : Int) else 1) = 1
                        split
                        · exact Or.inl rfl
                        · exact Or.inr rfl
                      · show (if x = y then (1 : Int) else 0) = 0 ∨ (if x = y then (1 : Int) else 0) = 1
                        split
                        · exact Or.inr rfl
                        · exact Or.inl rfl
                      · show (if x ≤ y then (0 : Int) else 1) = 0 ∨ (if x ≤ y then (0 : Int) else 1) = 1
                        split
                        · exact Or.inl rfl
                        · exact Or.inr rfl
                    · split at ht
                      · rename_i h6
                        cases ht
                        refine ⟨⟨fun _ => ?_, fun h => absurd h (by decide)⟩, hq⟩
                        rcases hx.1 h6.2.1 with rfl | rfl <;> rcases hy.1 h6.2.2 with rfl | rfl <;> rcases h6.1 with rfl | rfl <;> decide
                      · cases ht
theorem pz_t1_len {c : Int} {ts us : List Nat} (ht : pz_t1 c ts = some us) (h : ts.length ≤ 32) : us.length ≤ 32 := by
  unfold pz_t1 at ht
  split at ht
  · split at ht
    · cases ht; rename_i h2; exact h2.2
    · cases ht
  · split at ht
    · split at ht
      · cases ht; rename_i h2; exact h2
      · cases ht
    · split at ht
      · cases ts with
        | nil => cases ht
        | cons a r =>
          rw [pz_tn_c] at ht
          split at ht
          · cases ht; exact h
          · cases ht
      · cases ts with
        | nil => cases ht
        | cons b r => cases r with
          | nil => cases ht
          | cons a r =>
            have h' : r.length + 1 + 1 ≤ 32 := h
            rw [pz_t2_c] at ht
            repeat' split at ht
            all_goals first | (cases ht; show r.length + 1 ≤ 32; omega) | cases ht
theorem pz_svm {g code : Nat → Int} : ∀ (m k : Nat) (ts us : List Nat) (st : List Int), pz_ty code m k ts = some us → pz_sv ts st → pz_sv us (pz_ev g code m k st) := by
  intro m
  induction m with
  | zero => intro k ts us st h hs; cases h; exact hs
  | succ m ih =>
    intro k ts us st h hs
    rw [pz_ty] at h
    cases h1 : pz_t1 (code k) ts with
    | none => rw [h1] at h; cases h
    | some vs =>
      rw [h1] at h
      exact ih _ _ _ _ h (pz_sv1 h1 hs)
/-- a stack in an array, its top first -/
def pz_sk (f : Nat → Int) : List Int → Prop
  | [] => True
  | v :: r => f r.length = v ∧ pz_sk f r
theorem pz_sk_up {s : px_Z} {c j : Nat} {v : Int} : ∀ (st : List Int), st.length ≤ j → pz_sk (s c) st → pz_sk (px_up s c j v c) st := by
  intro st
  induction st with
  | nil => intro _ _; exact trivial
  | cons a r ih =>
    intro h hs
    have h' : r.length + 1 ≤ j := h
    refine ⟨?_, ih (by omega) hs.2⟩
    rw [pz_up_get, if_neg (by omega)]
    exact hs.1
def pz_hd (st : List Int) : Int := st.headD 0
def pz_sg (g code : Nat → Int) (a b : Int) : Int := pz_hd (pz_ev g code (b.toNat - a.toNat) a.toNat [])
/-- what a LAW says of a word -/
def pz_lv (g : Nat → Int) (ln : Nat → Nat → Int) (code : Nat → Int) (w wo : Int) : Nat → Nat → Int
  | 0, _ => wo
  | m + 1, l => if ln l 0 = w ∧ (ln l 2 = ln l 3 ∨ pz_sg g code (ln l 2) (ln l 3) ≠ 0) then pz_sg g code (ln l 1) (ln l 2) else pz_lv g ln code w wo m (l + 1)
/-- four rows as lines -/
def pz_lnv (a b c d : Nat → Int) (l : Nat) : Nat → Int
  | 0 => a l
  | 1 => b l
  | 2 => c l
  | _ => d l
theorem pz_lv_s (g a b c d code : Nat → Int) (w wo : Int) (m l : Nat) : pz_lv g (pz_lnv a b c d) code w wo (m + 1) l = if a l = w ∧ (c l = d l ∨ pz_sg g code (c l) (d l) ≠ 0) then pz_sg g code (b l) (c l) else pz_lv g (pz_lnv a b c d) code w wo m (l + 1) := rfl
/-- a sound line -/
def pz_lo (ln : Nat → Nat → Int) (code : Nat → Int) (l : Nat) : Prop := 0 ≤ ln l 1 ∧ ln l 1 ≤ ln l 2 ∧ ln l 2 ≤ ln l 3 ∧ ln l 3 ≤ 400 ∧ (∃ t, pz_ty code ((ln l 2).toNat - (ln l 1).toNat) (ln l 1).toNat [] = some [t] ∧ t ≠ 1) ∧ (ln l 2 ≠ ln l 3 → pz_ty code ((ln l 3).toNat - (ln l 2).toNat) (ln l 2).toNat [] = some [1])
theorem pz_e1_st {s : px_Z} {g : Nat → Int} {c : Int} {ts us : List Nat} {st : List Int} {q : Nat} (ht : pz_t1 c ts = some us) (hv : pz_sv ts st) (hk : pz_sk (s q) st) : ∃ v : Int, pz_e1 g c st = v :: (pz_e1 g c st).tail ∧ pz_sk (px_up s q (pz_e1 g c st).tail.length v q) (pz_e1 g c st) := by
  have h := pz_sv1 (g := g) ht hv
  have hlen := pz_sv_len hv
  have hdone : ∀ (v : Int) (r : List Int), pz_e1 g c st = v :: r → pz_sk (s q) r → ∃ v : Int, pz_e1 g c st = v :: (pz_e1 g c st).tail ∧ pz_sk (px_up s q (pz_e1 g c st).tail.length v q) (pz_e1 g c st) := by
    intro v r e hr
    refine ⟨v, by rw [e]; rfl, ?_⟩
    rw [e]
    refine ⟨?_, pz_sk_up r (Nat.le_refl _) hr⟩
    rw [pz_up_get, if_pos ⟨rfl, rfl⟩]
  unfold pz_t1 at ht
  split at ht
  · rename_i h1
    exact hdone (px_wr (c - 1000)) st (by unfold pz_e1; rw [if_pos h1]) hk
  · rename_i h1
    split at ht
    · rename_i h2
      exact hdone (g (c - 256).toNat) st (by unfold pz_e1; rw [if_neg h1, if_pos h2]) hk
    · rename_i h2
      split at ht
      · rename_i h3
        cases ts with
        | nil => cases ht
        | cons a r => cases st with
          | nil => exact absurd hv id
          | cons x p => exact hdone (px_wr (1 - x)) p (by unfold pz_e1; rw [if_neg h1, if_neg h2, if_pos h3]; rfl) hk.2
      · rename_i h3
        cases ts with
        | nil => cases ht
        | cons b r => cases r with
          | nil => cases ht
          | cons a r => cases st with
            | nil => exact absurd hv id
            | cons y p => cases p with
              | nil => exact absurd hv.2 id
              | cons x p => exact hdone (pz_jn c x y) p (by unfold pz_e1; rw [if_neg h1, if_neg h2, if_neg h3]; rfl) hk.2.2
theorem pz_joined (s : px_Z) (c x y : Int) : f_Law_joined s c x y = some (pz_jn c x y) := by
  unfold f_Law_joined pz_jn
  repeat' split
  all_goals first | rfl | contradiction
theorem pz_run_l {K : px_Z → Int → Option (Int × px_Z)} {g code : Nat → Int} {Q : Int × px_Z → Prop} : ∀ (m fu k : Nat) (s : px_Z) (ts us : List Nat) (st : List Int), ts.length ≤ 32 → m < fu → k + m ≤ 400 → s 19 = code → s 46 = g → pz_ty code m k ts = some us → pz_sv ts st → pz_sk (s 20) st → (∀ t, pz_ag [20] s t → pz_sk (t 20) (pz_ev g code m k st) → pz_ok (K t ((pz_ev g code m k st).length : Int)) Q) → pz_ok (l_Law_run_4 K fu s ((k + m : Nat) : Int) (st.length : Int) (k : Int)) Q := by
  intro m
  induction m with
  | zero =>
    intro fu k s ts us st hts hf hk hc hg ht hv hs hK
    obtain ⟨f, rfl⟩ : ∃ f, fu = f + 1 := ⟨fu - 1, by omega⟩
    rw [l_Law_run_4, if_pos (by omega)]
    exact hK s pz_ag_rf hs
  | succ m ih =>
    intro fu k s ts us st hts hf hk hc hg ht hv hs hK
    obtain ⟨f, rfl⟩ : ∃ f, fu = f + 1 := ⟨fu - 1, by omega⟩
    rw [pz_ty] at ht
    cases h1 : pz_t1 (code k) ts with
    | none => rw [h1] at ht; cases ht
    | some vs =>
      rw [h1] at ht
      obtain ⟨v, e1, e2⟩ := pz_e1_st (g := g) h1 hv hs
      have hv2 := pz_sv1 (g := g) h1 hv
      have hlen := pz_sv_len hv
      have hnext : ∀ (p : Nat) (w : Int), p = (pz_e1 g (code k) st).tail.length → w = v → pz_ok (l_Law_run_4 K f (px_up s 20 p w) ((k + 1 + m : Nat) : Int) ((pz_e1 g (code k) st).length : Int) ((k + 1 : Nat) : Int)) Q := by
        intro p w hp hw
        subst hp hw
        refine ih f (k + 1) _ vs us _ (pz_t1_len h1 hts) (by omega) (by omega) ?_ ?_ ht hv2 e2 (fun t h2 h3 => hK t ?_ h3)
        · funext i; rw [pz_up_get, if_neg (by omega)]; rw [hc]
        · funext i; rw [pz_up_get, if_neg (by omega)]; rw [hg]
        · exact pz_ag_tr (pz_ag_up pz_ag_rf (List.mem_cons_self ..)) h2
      rw [show k + (m + 1) = k + 1 + m by omega]
      rw [l_Law_run_4, if_neg (by omega), if_pos (by omega), Int.toNat_natCast, hc, hg, pz_wr_suc (by omega), pz_within]
      unfold pz_t1 at h1
      unfold pz_e1 at hnext e1
      split at h1
      · rename_i a1
        rw [if_pos a1] at hnext e1
        split at h1
        · cases h1
          have e3 : px_wr (code k - 1000) = v := by injection e1
          rw [if_pos a1, if_neg (by omega), if_neg (by omega), if_pos (by omega), Int.toNat_natCast, pz_wr_suc (by omega)]
          exact hnext st.length _ rfl e3
        · cases h1
      · rename_i a1
        rw [if_neg a1] at hnext e1
        rw [if_neg a1]
        split at h1
        · rename_i a2
          rw [if_pos a2] at hnext e1
          split at h1
          · cases h1
            have e3 : g (code k - 256).toNat = v := by injection e1
            rw [if_neg (by rw [pz_i10]; exact fun h => h a2), if_neg (by omega), if_pos (by omega), pz_wr_id (by omega) (by omega), if_pos (by omega), if_pos (by omega), Int.toNat_natCast, pz_wr_suc (by omega)]
            exact hnext st.length _ rfl e3
          · cases h1
        · rename_i a2
          rw [if_neg a2] at hnext e1
          rw [if_pos (pz_i10.mpr a2)]
          split at h1
          · rename_i a3
            rw [if_pos a3] at hnext e1
            rw [if_pos a3]
            cases st with
            | nil => cases ts with
              | nil => cases h1
              | cons a r => exact absurd hv id
            | cons x p =>
              have e3 : px_wr (1 - x) = v := by injection e1
              have h5 : (((x :: p).length : Nat) : Int) = (p.length : Int) + 1 := rfl
              have h7 : p.length + 1 = ts.length := hlen
              rw [h5, if_neg (by omega), pz_wr_id (x := (p.length : Int) + 1 - 1) (by omega) (by omega), show (p.length : Int) + 1 - 1 = (p.length : Int) by omega, if_pos (by omega), if_pos (by omega), Int.toNat_natCast, hs.1]
              exact hnext p.length _ rfl e3
          · rename_i a3
            rw [if_neg a3] at hnext e1
            rw [if_neg a3]
            cases ts with
            | nil => cases h1
            | cons b r => cases r with
              | nil => cases h1
              | cons a r => cases st with
                | nil => exact absurd hv id
                | cons y p => cases p with
                  | nil => exact absurd hv.2 id
                  | cons x p =>
                    have e3 : pz_jn (code k) x y = v := by injection e1
                    have h5 : (((y :: x :: p).length : Nat) : Int) = (p.length : Int) + 1 + 1 := rfl
                    have h7 : p.length + 1 + 1 = r.length + 1 + 1 := hlen
                    have h8 : r.length + 1 + 1 ≤ 32 := hts
                    rw [h5, if_neg (by omega), pz_wr_id (x := (p.length : Int) + 1 + 1 + -1) (by omega) (by omega), pz_wr_id (by omega) (by omega), show (p.length : Int) + 1 + 1 + -1 = ((p.length + 1 : Nat) : Int) by omega, show ((p.length + 1 : Nat) : Int) - 1 = (p.length : Int) by omega, if_pos (by omega), if_pos (by omega), Int.toNat_natCast, Int.toNat_natCast, pz_joined, Option.bind_some, if_pos (by omega)]
                    rw [show s 20 p.length = x from hs.2.1, show s 20 (p.length + 1) = y from hs.1]
                    exact hnext p.length _ rfl e3
theorem pz_run_ok {s : px_Z} {a b : Int} {t : Nat} (h0 : 0 ≤ a) (h1 : a ≤ b) (h2 : b ≤ 400) (ht : pz_ty (s 19) (b.toNat - a.toNat) a.toNat [] = some [t]) : ∃ u, f_Law_run s a b = some (pz_sg (s 46) (s 19) a b, u) ∧ pz_ag [20] s u := by
  obtain ⟨A, rfl⟩ : ∃ A : Nat, a = (A : Int) := ⟨a.toNat, by omega⟩
  obtain ⟨B, rfl⟩ : ∃ B : Nat, b = ((A + B : Nat) : Int) := ⟨b.toNat - A, by omega⟩
  simp only [Int.toNat_natCast] at ht
  rw [show A + B - A = B by omega] at ht
  have hv := pz_svm (g := s 46) _ _ _ _ [] ht trivial
  have h := pz_run_l (K := fun s x4 => if (x4) ≤ (0) then some (0, s) else (if 0 ≤ (px_wr (x4 - 1)) ∧ (px_wr (x4 - 1)) < 32 then some ((s 20 (px_wr (x4 - 1)).toNat, s)) else none)) (Q := fun q => q.1 = pz_sg (s 46) (s 19) (A : Int) ((A + B : Nat) : Int) ∧ pz_ag [20] s q.2) B px_big A s [] [t] [] (by decide) (pz_big_lt (by omega)) (by omega) rfl rfl ht trivial trivial (fun u h3 h4 => by
    cases hq : pz_ev (s 46) (s 19) B A [] with
    | nil => rw [hq] at hv; exact absurd hv id
    | cons v r =>
      rw [hq] at hv h4
      cases r with
      | cons => exact absurd hv.2 id
      | nil =>
        have e0 : px_wr ((1 : Int) - 1) = 0 := by decide
        show pz_ok (if (1 : Int) ≤ 0 then some (0, u) else (if 0 ≤ px_wr ((1 : Int) - 1) ∧ px_wr ((1 : Int) - 1) < 32 then some (u 20 (px_wr ((1 : Int) - 1)).toNat, u) else none)) _
        rw [if_neg (by decide), e0, if_pos (by decide)]
        refine ⟨_, rfl, ?_, h3⟩
        show u 20 0 = _
        unfold pz_sg
        simp only [Int.toNat_natCast]
        rw [show A + B - A = B by omega, hq]
        exact h4.1)
  obtain ⟨⟨x, u⟩, e, h5, h6⟩ := h
  exact ⟨u, by rw [← h5]; exact e, h6⟩
theorem pz_value_ok {s : px_Z} {m : Nat} (hm : m ≤ 16) (h0 : s 14 0 = (m : Int)) (hl : ∀ l, l < m → pz_lo (pz_lnv (s 15) (s 16) (s 17) (s 18)) (s 19) l) (w wo : Int) : ∃ u, f_Law_value s w wo = some (pz_lv (s 46) (pz_lnv (s 15) (s 16) (s 17) (s 18)) (s 19) w wo m 0, u) ∧ pz_ag [20] s u := by
  have hloop : ∀ (r fu i : Nat) (z : px_Z), pz_ag [20] s z → i + r = m → r < fu → ∃ u, l_Law_value_2 (fun s x4 => j_Law_value_j33 s x4) fu z w wo (i : Int) = some (pz_lv (s 46) (pz_lnv (s 15) (s 16) (s 17) (s 18)) (s 19) w wo r i, u) ∧ pz_ag [20] s u := by
    intro r
    induction r with
    | zero =>
      intro fu i z hz hi hf
      obtain ⟨f, rfl⟩ : ∃ f, fu = f + 1 := ⟨fu - 1, by omega⟩
      rw [l_Law_value_2, hz 14 0 (by decide), h0, if_pos (by omega)]
      exact ⟨z, rfl, hz⟩
    | succ r ih =>
      intro fu i z hz hi hf
      obtain ⟨f, rfl⟩ : ∃ f, fu = f + 1 := ⟨fu - 1, by omega⟩
      obtain ⟨l1, l2, l3, l4, ⟨t, l5, l6⟩, l7⟩ : 0 ≤ s 16 i ∧ s 16 i ≤ s 17 i ∧ s 17 i ≤ s 18 i ∧ s 18 i ≤ 400 ∧ (∃ t, pz_ty (s 19) ((s 17 i).toNat - (s 16 i).toNat) (s 16 i).toNat [] = some [t] ∧ t ≠ 1) ∧ (s 17 i ≠ s 18 i → pz_ty (s 19) ((s 18 i).toNat - (s 17 i).toNat) (s 17 i).toNat [] = some [1]) := hl i (by omega)
      have g46 : z 46 = s 46 := funext (fun i => hz 46 i (by decide))
      have gco : z 19 = s 19 := funext (fun i => hz 19 i (by decide))
      rw [l_Law_value_2, hz 14 0 (by decide), h0, if_neg (by omega), Int.toNat_natCast, pz_wr_suc (by omega)]
      simp (disch := omega) only [if_pos]
      have z0 := hz 15 i (by decide)
      have z1 := hz 16 i (by decide)
      have z2 := hz 17 i (by decide)
      have z3 := hz 18 i (by decide)
      have hfin : ∀ z2 : px_Z, pz_ag [20] s z2 → ∃ u, j_Law_value_j33 z2 (i : Int) = some (pz_sg (s 46) (s 19) (s 16 i) (s 17 i), u) ∧ pz_ag [20] s u := by
        intro y hy
        have y46 : y 46 = s 46 := funext (fun i => hy 46 i (by decide))
        have yco : y 19 = s 19 := funext (fun i => hy 19 i (by decide))
        unfold j_Law_value_j33
        rw [Int.toNat_natCast, hy 16 i (by decide), hy 17 i (by decide)]
        simp (disch := omega) only [if_pos]
        obtain ⟨u, e, hu⟩ := pz_run_ok (s := y) l1 l2 (by omega) (by rw [yco]; exact l5)
        rw [e, y46, yco]
        exact ⟨u, rfl, pz_ag_tr hy hu⟩
      rw [z0, z2, z3, pz_lv_s]
      by_cases a1 : s 15 i = w
      · rw [if_pos a1]
        by_cases a2 : s 17 i = s 18 i
        · rw [if_pos a2, if_pos ⟨a1, Or.inl a2⟩]
          exact hfin z hz
        · rw [if_neg a2]
          obtain ⟨u, e, hu⟩ := pz_run_ok (s := z) (a := s 17 i) (b := s 18 i) (by omega) l3 l4 (by rw [gco]; exact l7 a2)
          have hu2 := pz_ag_tr hz hu
          rw [e, Option.bind_some, g46, gco]
          by_cases a3 : pz_sg (s 46) (s 19) (s 17 i) (s 18 i) = 0
          · rw [if_pos a3, if_neg (fun h => h.2.elim a2 (fun h => h a3))]
            exact ih f (i + 1) u hu2 (by omega) (by omega)
          · rw [if_neg a3, if_pos ⟨a1, Or.inr a3⟩]
            exact hfin u hu2
      · rw [if_neg a1, if_neg (fun h => a1 h.1)]
        exact ih f (i + 1) z hz (by omega) (by omega)
  exact hloop m px_big 0 s pz_ag_rf (by omega) (pz_big_lt (by omega))
theorem pz_run_2_l {K : px_Z → Int → Option (Int × px_Z)} {g code : Nat → Int} {Q : Int × px_Z → Prop} : ∀ (m fu k : Nat) (s : px_Z) (ts us : List Nat) (st : List Int), ts.length ≤ 32 → m < fu → k + m ≤ 400 → s 26 = code → s 46 = g → pz_ty code m k ts = some us → pz_sv ts st → pz_sk (s 27) st → (∀ t, pz_ag [27] s t → pz_sk (t 27) (pz_ev g code m k st) → pz_ok (K t ((pz_ev g code m k st).length : Int)) Q) → pz_ok (l_Law_run_2_4 K fu s ((k + m : Nat) : Int) (st.length : Int) (k : Int)) Q := by
  intro m
  induction m with
  | zero =>
    intro fu k s ts us st hts hf hk hc hg ht hv hs hK
    obtain ⟨f, rfl⟩ : ∃ f, fu = f + 1 := ⟨fu - 1, by omega⟩
    rw [l_Law_run_2_4, if_pos (by omega)]
    exact hK s pz_ag_rf hs
  | succ m ih =>
    intro fu k s ts us st hts hf hk hc hg ht hv hs hK
    obtain ⟨f, rfl⟩ : ∃ f, fu = f + 1 := ⟨fu - 1, by omega⟩
    rw [pz_ty] at ht
    cases h1 : pz_t1 (code k) ts with
    | none => rw [h1] at ht; cases ht
    | some vs =>
      rw [h1] at ht
      obtain ⟨v, e1, e2⟩ := pz_e1_st (g := g) h1 hv hs
      have hv2 := pz_sv1 (g := g) h1 hv
      have hlen := pz_sv_len hv
      have hnext : ∀ (p : Nat) (w : Int), p = (pz_e1 g (code k) st).tail.length → w = v → pz_ok (l_Law_run_2_4 K f (px_up s 27 p w) ((k + 1 + m : Nat) : Int) ((pz_e1 g (code k) st).length : Int) ((k + 1 : Nat) : Int)) Q := by
        intro p w hp hw
        subst hp hw
        refine ih f (k + 1) _ vs us _ (pz_t1_len h1 hts) (by omega) (by omega) ?_ ?_ ht hv2 e2 (fun t h2 h3 => hK t ?_ h3)
        · funext i; rw [pz_up_get, if_neg (by omega)]; rw [hc]
        · funext i; rw [pz_up_get, if_neg (by omega)]; rw [hg]
        · exact pz_ag_tr (pz_ag_up pz_ag_rf (List.mem_cons_self ..)) h2
      rw [show k + (m + 1) = k + 1 + m by omega]
      rw [l_Law_run_2_4, if_neg (by omega), if_pos (by omega), Int.toNat_natCast, hc, hg, pz_wr_suc (by omega), pz_within]
      unfold pz_t1 at h1
      unfold pz_e1 at hnext e1
      split at h1
      · rename_i a1
        rw [if_pos a1] at hnext e1
        split at h1
        · cases h1
          have e3 : px_wr (code k - 1000) = v := by injection e1
          rw [if_pos a1, if_neg (by omega), if_neg (by omega), if_pos (by omega), Int.toNat_natCast, pz_wr_suc (by omega)]
          exact hnext st.length _ rfl e3
        · cases h1
      · rename_i a1
        rw [if_neg a1] at hnext e1
        rw [if_neg a1]
        split at h1
        · rename_i a2
          rw [if_pos a2] at hnext e1
          split at h1
          · cases h1
            have e3 : g (code k - 256).toNat = v := by injection e1
            rw [if_neg (by rw [pz_i10]; exact fun h => h a2), if_neg (by omega), if_pos (by omega), pz_wr_id (by omega) (by omega), if_pos (by omega), if_pos (by omega), Int.toNat_natCast, pz_wr_suc (by omega)]
            exact hnext st.length _ rfl e3
          · cases h1
        · rename_i a2
          rw [if_neg a2] at hnext e1
          rw [if_pos (pz_i10.mpr a2)]
          split at h1
          · rename_i a3
            rw [if_pos a3] at hnext e1
            rw [if_pos a3]
            cases st with
            | nil => cases ts with
              | nil => cases h1
              | cons a r => exact absurd hv id
            | cons x p =>
              have e3 : px_wr (1 - x) = v := by injection e1
              have h5 : (((x :: p).length : Nat) : Int) = (p.length : Int) + 1 := rfl
              have h7 : p.length + 1 = ts.length := hlen
              rw [h5, if_neg (by omega), pz_wr_id (x := (p.length : Int) + 1 - 1) (by omega) (by omega), show (p.length : Int) + 1 - 1 = (p.length : Int) by omega, if_pos (by omega), if_pos (by omega), Int.toNat_natCast, hs.1]
              exact hnext p.length _ rfl e3
          · rename_i a3
            rw [if_neg a3] at hnext e1
            rw [if_neg a3]
            cases ts with
            | nil => cases h1
            | cons b r => cases r with
              | nil => cases h1
              | cons a r => cases st with
                | nil => exact absurd hv id
                | cons y p => cases p with
                  | nil => exact absurd hv.2 id
                  | cons x p =>
                    have e3 : pz_jn (code k) x y = v := by injection e1
                    have h5 : (((y :: x :: p).length : Nat) : Int) = (p.length : Int) + 1 + 1 := rfl
                    have h7 : p.length + 1 + 1 = r.length + 1 + 1 := hlen
                    have h8 : r.length + 1 + 1 ≤ 32 := hts
                    rw [h5, if_neg (by omega), pz_wr_id (x := (p.length : Int) + 1 + 1 + -1) (by omega) (by omega), pz_wr_id (by omega) (by omega), show (p.length : Int) + 1 + 1 + -1 = ((p.length + 1 : Nat) : Int) by omega, show ((p.length + 1 : Nat) : Int) - 1 = (p.length : Int) by omega, if_pos (by omega), if_pos (by omega), Int.toNat_natCast, Int.toNat_natCast, pz_joined, Option.bind_some, if_pos (by omega)]
                    rw [show s 27 p.length = x from hs.2.1, show s 27 (p.length + 1) = y from hs.1]
                    exact hnext p.length _ rfl e3
theorem pz_run_2_ok {s : px_Z} {a b : Int} {t : Nat} (h0 : 0 ≤ a) (h1 : a ≤ b) (h2 : b ≤ 400) (ht : pz_ty (s 26) (b.toNat - a.toNat) a.toNat [] = some [t]) : ∃ u, f_Law_run_2 s a b = some (pz_sg (s 46) (s 26) a b, u) ∧ pz_ag [27] s u := by
  obtain ⟨A, rfl⟩ : ∃ A : Nat, a = (A : Int) := ⟨a.toNat, by omega⟩
  obtain ⟨B, rfl⟩ : ∃ B : Nat, b = ((A + B : Nat) : Int) := ⟨b.toNat - A, by omega⟩
  simp only [Int.toNat_natCast] at ht
  rw [show A + B - A = B by omega] at ht
  have hv := pz_svm (g := s 46) _ _ _ _ [] ht trivial
  have h := pz_run_2_l (K := fun s x4 => if (x4) ≤ (0) then some (0, s) else (if 0 ≤ (px_wr (x4 - 1)) ∧ (px_wr (x4 - 1)) < 32 then some ((s 27 (px_wr (x4 - 1)).toNat, s)) else none)) (Q := fun q => q.1 = pz_sg (s 46) (s 26) (A : Int) ((A + B : Nat) : Int) ∧ pz_ag [27] s q.2) B px_big A s [] [t] [] (by decide) (pz_big_lt (by omega)) (by omega) rfl rfl ht trivial trivial (fun u h3 h4 => by
    cases hq : pz_ev (s 46) (s 26) B A [] with
    | nil => rw [hq] at hv; exact absurd hv id
    | cons v r =>
      rw [hq] at hv h4
      cases r with
      | cons => exact absurd hv.2 id
      | nil =>
        have e0 : px_wr ((1 : Int) - 1) = 0 := by decide
        show pz_ok (if (1 : Int) ≤ 0 then some (0, u) else (if 0 ≤ px_wr ((1 : Int) - 1) ∧ px_wr ((1 : Int) - 1) < 32 then some (u 27 (px_wr ((1 : Int) - 1)).toNat, u) else none)) _
        rw [if_neg (by decide), e0, if_pos (by decide)]
        refine ⟨_, rfl, ?_, h3⟩
        show u 27 0 = _
        unfold pz_sg
        simp only [Int.toNat_natCast]
        rw [show A + B - A = B by omega, hq]
        exact h4.1)
  obtain ⟨⟨x, u⟩, e, h5, h6⟩ := h
  exact ⟨u, by rw [← h5]; exact e, h6⟩
theorem pz_value_2_ok {s : px_Z} {m : Nat} (hm : m ≤ 16) (h0 : s 21 0 = (m : Int)) (hl : ∀ l, l < m → pz_lo (pz_lnv (s 22) (s 23) (s 24) (s 25)) (s 26) l) (w wo : Int) : ∃ u, f_Law_value_2 s w wo = some (pz_lv (s 46) (pz_lnv (s 22) (s 23) (s 24) (s 25)) (s 26) w wo m 0, u) ∧ pz_ag [27] s u := by
  have hloop : ∀ (r fu i : Nat) (z : px_Z), pz_ag [27] s z → i + r = m → r < fu → ∃ u, l_Law_value_2_2 (fun s x4 => j_Law_value_2_j33 s x4) fu z w wo (i : Int) = some (pz_lv (s 46) (pz_lnv (s 22) (s 23) (s 24) (s 25)) (s 26) w wo r i, u) ∧ pz_ag [27] s u := by
    intro r
    induction r with
    | zero =>
      intro fu i z hz hi hf
      obtain ⟨f, rfl⟩ : ∃ f, fu = f + 1 := ⟨fu - 1, by omega⟩
      rw [l_Law_value_2_2, hz 21 0 (by decide), h0, if_pos (by omega)]
      exact ⟨z, rfl, hz⟩
    | succ r ih =>
      intro fu i z hz hi hf
      obtain ⟨f, rfl⟩ : ∃ f, fu = f + 1 := ⟨fu - 1, by omega⟩
      obtain ⟨l1, l2, l3, l4, ⟨t, l5, l6⟩, l7⟩ : 0 ≤ s 23 i ∧ s 23 i ≤ s 24 i ∧ s 24 i ≤ s 25 i ∧ s 25 i ≤ 400 ∧ (∃ t, pz_ty (s 26) ((s 24 i).toNat - (s 23 i).toNat) (s 23 i).toNat [] = some [t] ∧ t ≠ 1) ∧ (s 24 i ≠ s 25 i → pz_ty (s 26) ((s 25 i).toNat - (s 24 i).toNat) (s 24 i).toNat [] = some [1]) := hl i (by omega)
      have g46 : z 46 = s 46 := funext (fun i => hz 46 i (by decide))
      have gco : z 26 = s 26 := funext (fun i => hz 26 i (by decide))
      rw [l_Law_value_2_2, hz 21 0 (by decide), h0, if_neg (by omega), Int.toNat_natCast, pz_wr_suc (by omega)]
      simp (disch := omega) only [if_pos]
      have z0 := hz 22 i (by decide)
      have z1 := hz 23 i (by decide)
      have z2 := hz 24 i (by decide)
      have z3 := hz 25 i (by decide)
      have hfin : ∀ z2 : px_Z, pz_ag [27] s z2 → ∃ u, j_Law_value_2_j33 z2 (i : Int) = some (pz_sg (s 46) (s 26) (s 23 i) (s 24 i), u) ∧ pz_ag [27] s u := by
        intro y hy
        have y46 : y 46 = s 46 := funext (fun i => hy 46 i (by decide))
        have yco : y 26 = s 26 := funext (fun i => hy 26 i (by decide))
        unfold j_Law_value_2_j33
        rw [Int.toNat_natCast, hy 23 i (by decide), hy 24 i (by decide)]
        simp (disch := omega) only [if_pos]
        obtain ⟨u, e, hu⟩ := pz_run_2_ok (s := y) l1 l2 (by omega) (by rw [yco]; exact l5)
        rw [e, y46, yco]
        exact ⟨u, rfl, pz_ag_tr hy hu⟩
      rw [z0, z2, z3, pz_lv_s]
      by_cases a1 : s 22 i = w
      · rw [if_pos a1]
        by_cases a2 : s 24 i = s 25 i
        · rw [if_pos a2, if_pos ⟨a1, Or.inl a2⟩]
          exact hfin z hz
        · rw [if_neg a2]
          obtain ⟨u, e, hu⟩ := pz_run_2_ok (s := z) (a := s 24 i) (b := s 25 i) (by omega) l3 l4 (by rw [gco]; exact l7 a2)
          have hu2 := pz_ag_tr hz hu
          rw [e, Option.bind_some, g46, gco]
          by_cases a3 : pz_sg (s 46) (s 26) (s 24 i) (s 25 i) = 0
          · rw [if_pos a3, if_neg (fun h => h.2.elim a2 (fun h => h a3))]
            exact ih f (i + 1) u hu2 (by omega) (by omega)
          · rw [if_neg a3, if_pos ⟨a1, Or.inr a3⟩]
            exact hfin u hu2
      · rw [if_neg a1, if_neg (fun h => a1 h.1)]
        exact ih f (i + 1) z hz (by omega) (by omega)
  exact hloop m px_big 0 s pz_ag_rf (by omega) (pz_big_lt (by omega))
