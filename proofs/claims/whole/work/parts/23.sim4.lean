/-- a field's row in the table -/
theorem px_fx {m ci sl fi ix : Nat} (h : (match px_at px_fl fi with
      | some (own, ix', ci', sl', _) => own == px_O m && ix' == ix && ci' == ci && sl' == sl
      | none => false) = true) : ∃ (C : String) (T : u_T) (N : Nat), px_cl[ci]? = some (C, T, N) ∧ sl < N ∧ (T sl).1 = C ∧ Cond.fieldLink (px_O m) ix (T sl).1 (T sl).2.1 (T sl).2.2.1 ∈ px_G := by
  split at h
  · rename_i own ix' ci' sl' w hq
    simp only [Bool.and_eq_true, beq_iff_eq] at h
    obtain ⟨⟨⟨rfl, rfl⟩, rfl⟩, rfl⟩ := h
    have h2 := px_at_all px_fl_all hq
    unfold px_fok at h2
    split at h2
    · rename_i C T N hcl
      simp only [Bool.and_eq_true, beq_iff_eq, decide_eq_true_eq] at h2
      exact ⟨C, T, N, hcl, h2.1.1, h2.1.2, px_in h2.2⟩
    · cases h2
  · cases h
theorem px_rf_some {l : List (Option Nat)} {k r : Nat} (h : px_rf l k = some r) : l[k]? = some (some r) ∧ 5 ≤ r := by
  unfold px_rf at h
  split at h
  · rename_i q hq
    split at h
    · rename_i h5
      cases h
      exact ⟨hq, h5⟩
    · cases h
  · cases h
theorem px_ent_obj {n0 : Nat} {cA cF : ClassId} {f : Nat → Nat → Int32} {k cc n : Nat} {rs : List (Option Nat)} (h : cc < 12) : px_ent n0 cA cF f k (cc, n, rs) = .inr (cc, rs.mapIdx (fun i r => match r with
    | some r => px_dn n0 r
    | none => .int (f (k + 5) i))) := by
  unfold px_ent
  rw [if_neg (by show ¬ cc = 12; omega), if_neg (by show ¬ cc = 13; omega)]
  rfl
theorem px_ent_arr {n0 : Nat} {cA cF : ClassId} {f : Nat → Nat → Int32} {k n : Nat} {rs : List (Option Nat)} : px_ent n0 cA cF f k (12, n, rs) = .inl (cA, n, .inl (f (k + 5))) := by
  unfold px_ent
  rw [if_pos rfl]
theorem px_fs_ref {n0 : Nat} {f : Nat → Nat → Int32} {k : Nat} {rs : List (Option Nat)} {sl r : Nat} (h : rs[sl]? = some (some r)) : (rs.mapIdx (fun i r => match r with
    | some r => px_dn n0 r
    | none => Value.int (f (k + 5) i)))[sl]? = some (px_dn n0 r) := by
  rw [List.getElem?_mapIdx, h]; rfl
theorem px_fs_int {n0 : Nat} {f : Nat → Nat → Int32} {k : Nat} {rs : List (Option Nat)} {sl : Nat} (h : rs[sl]? = some none) : (rs.mapIdx (fun i r => match r with
    | some r => px_dn n0 r
    | none => Value.int (f (k + 5) i)))[sl]? = some (.int (f (k + 5) sl)) := by
  rw [List.getElem?_mapIdx, h]; rfl
theorem px_uv_dn {g : px_g} {r : Nat} (h : 5 ≤ r) : px_uv g (px_dn g.1 r) = .inr (.inr r) := by
  unfold px_dn
  rw [if_pos h]
  show Sum.inr (Sum.inr (px_ix g (g.1 + (r - 5)))) = _
  rw [px_ix_new, show r - 5 + 5 = r by omega]
theorem px_fs_put {n0 : Nat} {f : Nat → Nat → Int32} {k : Nat} {rs : List (Option Nat)} {sl : Nat} (x : Int32) (h : rs[sl]? = some none) : rs.mapIdx (fun i r => match r with
    | some r => px_dn n0 r
    | none => Value.int (px_fu f (k + 5) sl x (k + 5) i)) = (rs.mapIdx (fun i r => match r with
    | some r => px_dn n0 r
    | none => Value.int (f (k + 5) i))).set sl (.int x) := by
  apply List.ext_getElem?
  intro j
  have hl : sl < rs.length := (List.getElem?_eq_some_iff.mp h).1
  rw [List.getElem?_set]
  by_cases hj : sl = j
  · subst hj
    rw [if_pos rfl, if_pos (by simpa using hl), List.getElem?_mapIdx, h]
    show some (Value.int (px_fu f (k + 5) sl x (k + 5) sl)) = _
    unfold px_fu
    rw [if_pos ⟨rfl, rfl⟩]
  · rw [if_neg hj, List.getElem?_mapIdx, List.getElem?_mapIdx]
    cases rs[j]? with
    | none => rfl
    | some r =>
      cases r with
      | some r => rfl
      | none =>
        show some (Value.int (px_fu f (k + 5) sl x (k + 5) j)) = some (Value.int (f (k + 5) j))
        unfold px_fu
        rw [if_neg (fun q => hj q.2.symm)]
theorem px_fs_putr {n0 : Nat} {f : Nat → Nat → Int32} {k : Nat} {rs : List (Option Nat)} {sl r0 : Nat} (r : Nat) (h : rs[sl]? = some (some r0)) : (rs.set sl (some r)).mapIdx (fun i r => match r with
    | some r => px_dn n0 r
    | none => Value.int (f (k + 5) i)) = (rs.mapIdx (fun i r => match r with
    | some r => px_dn n0 r
    | none => Value.int (f (k + 5) i))).set sl (px_dn n0 r) := by
  apply List.ext_getElem?
  intro j
  have hl : sl < rs.length := (List.getElem?_eq_some_iff.mp h).1
  rw [List.getElem?_set, List.getElem?_mapIdx, List.getElem?_set]
  by_cases hj : sl = j
  · subst hj
    rw [if_pos rfl, if_pos rfl, if_pos hl, if_pos (by simpa using hl)]
    rfl
  · rw [if_neg hj, if_neg hj, List.getElem?_mapIdx]
theorem px_fz {G : List px_Sh} {f : Nat → Nat → Int32} (h : ∀ r i, G.length + 5 ≤ r → f r i = 0) {k : Nat} {sh : px_Sh} (hk : G[k]? = some sh) (i : Nat) (x : Int32) : ∀ r j, G.length + 5 ≤ r → px_fu f (k + 5) i x r j = 0 := by
  intro r j hr
  have hl : k < G.length := (List.getElem?_eq_some_iff.mp hk).1
  rw [px_fu_ne f x (by omega)]
  exact h r j hr
theorem px_sz_set {G : List px_Sh} {k : Nat} {sh sh' : px_Sh} (h : G[k]? = some sh) (h2 : sh'.2.1 = sh.2.1) : px_sz (G.set k sh') = px_sz G := by
  unfold px_sz
  congr 1
  apply List.ext_getElem?
  intro j
  rw [List.getElem?_map, List.getElem?_map, List.getElem?_set]
  by_cases hj : k = j
  · subst hj
    rw [if_pos rfl, if_pos (List.getElem?_eq_some_iff.mp h).1, h]
    exact congrArg some h2
  · rw [if_neg hj]
section PXO
variable {sc : List Int} {l : Launch} {D : va_G} {cA cF : ClassId} {g : px_g} {Ex : State → Prop}

theorem px_sim_getf : px_Sim sc l D cA cF g Ex 35 px_o_getf := by
  intro mid ip pc a ins len he hd hdc hnx hex p e R s m args below meth c H locs cells slots Q lv ls st G f ip1 ls1 st1 G1 f1 hC hE hI hF hc hs kk
  match a, hd, hF, hex with
  | [ci, sl, ty, fi, ix], hd, hF, hex =>
    cases hd
    have hnx := hnx.resolve_left (by decide)
    simp only [px_ex, Bool.and_eq_true] at hex
    obtain ⟨C, T, N, hcl, hsl, hTC, hw⟩ := px_fx hex.1.1.1
    have hci : ci.toNat < 12 := px_cl_len hcl
    simp only [px_o_getf] at hF
    split at hF
    · rename_i k st2 h1
      obtain ⟨st3, rfl, rfl⟩ := px_pR5 h1
      split at hF
      · rename_i cc n rs hG
        cases hb : (cc == ci.toNat) with
        | false => rw [hb] at hF; cases hF
        | true =>
          rw [hb] at hF
          have hcc : cc = ci.toNat := by simpa using hb
          subst hcc
          have hat := px_wd_at (n0 := g.1) (cA := cA) (cF := cF) f hG
          rw [px_ent_obj hci] at hat
          cases ht : (ty == 2) with
          | true =>
            rw [ht] at hF
            simp only [cond_true] at hF
            split at hF
            · rename_i r hr
              obtain ⟨hr1, hr2⟩ := px_rf_some hr
              cases hF
              simp only [px_z] at kk
              refine va_get hC.1 hC.2.1 hC.2.2.2.2.1 (px_cl_in hcl) hC.2.2.2.1 hC.2.2.2.2.2.1 hI.2.1 k hat hcl sl.toNat hsl (hC.2.2.2.2.1 _ hw) (fun _ h => h) (px_fs_ref hr1) hdc ?_
              rw [← hnx]
              exact kk lv ls _ f H locs rfl (by rw [px_us_cons, px_uv_dn hr2]) rfl hI
            · cases hF
          | false =>
            rw [ht] at hF
            simp only [cond_true, cond_false] at hF
            split at hF
            · rename_i hr
              cases hF
              simp only [px_z] at kk
              refine va_get hC.1 hC.2.1 hC.2.2.2.2.1 (px_cl_in hcl) hC.2.2.2.1 hC.2.2.2.2.2.1 hI.2.1 k hat hcl sl.toNat hsl (hC.2.2.2.2.1 _ hw) (fun _ h => h) (px_fs_int hr) hdc ?_
              rw [← hnx]
              exact kk lv ls _ f H locs rfl rfl rfl hI
            · cases hF
      · cases hF
    · cases hF

/-- a write of a field, final or not -/
theorem px_putx {mid : Nat} {p : Program} {e : Env} {R : Room} {s : State} {m : MethodId} {args : Array Value} {below : List Frame} {meth : Method} {c : Code} {H : Heap} {locs : List Loc} {cells slots : Nat} {Q : State → Prop} {pc : Nat} {ls : Array Slot} {rest : List Value} {ix ci sl k : Nat}
    (hC : px_C D cA cF g mid p s m args meth c R) {C : String} {T : u_T} {N : Nat} (hcl : px_cl[ci]? = some (C, T, N)) (hsl : sl < N) (hTC : (T sl).1 = C) (hw : Cond.fieldLink (px_O mid) ix (T sl).1 (T sl).2.1 (T sl).2.2.1 ∈ px_G)
    (hfi : (T sl).2.2.2 = false ∨ ((T sl).2.2.2 = true ∧ (px_Y mid).name = "<init>" ∧ C = px_O mid)) {ws : va_W} (hP : va_P D px_cl ws H) (hD : va_D (fun q => g.1 ≤ q) ws) (hS : va_S (fun q => g.1 ≤ q) s.heap H locs) {b : Nat} {fs : List Value} (hat : ws[k]? = some (b, .inr (ci, fs))) {ty : FieldType} {v : Value} (hd : parseFieldDescriptor (T sl).2.2.1 = some ty) (hn : narrow ty v = v) (hf : fits ty v = true) (hl : sl < fs.length) (hdc : decode (px_B mid) pc = .ok (.putfield ix, 3))
    (kk : ∀ (H1 : Heap) (locs1 : List Loc), va_P D px_cl (ws.set k (b, .inr (ci, fs.set sl v))) H1 → va_S (fun q => g.1 ≤ q) s.heap H1 locs1 → W p l e R s m args below meth c H1 locs1 cells slots Q (F0 m (pc + 3) ls rest)) : W p l e R s m args below meth c H locs cells slots Q (F0 m pc ls (v :: .ref b :: rest)) := by
  obtain ⟨ty0, hty0⟩ := px_cl_ty hcl
  rcases hfi with hfi | ⟨hfi, hini, hown⟩
  · exact va_put hC.1 hC.2.1 hC.2.2.2.2.1 (px_cl_in hcl) ty0 hty0 (px_cl_nm hcl) hC.2.2.2.1 hC.2.2.2.2.2.1 hP hD hS k hat hcl sl hsl (hC.2.2.2.2.1 _ hw) (fun _ h => h) hfi hd hn hf hl hdc (fun H1 locs1 a1 _ a3 => kk H1 locs1 a1 a3)
  · exact va_putF hC.1 hC.2.1 hC.2.2.2.2.1 (px_cl_in hcl) ty0 hty0 (px_cl_nm hcl) hC.2.2.2.1 hC.2.2.2.2.2.1 hP hD hS k hat hcl sl hsl (hC.2.2.2.2.1 _ hw) (fun _ h => h) hfi (hC.2.2.2.2.2.2.1 hini) (hTC.trans hown) hd hn hf hl hdc (fun H1 locs1 a1 _ a3 => kk H1 locs1 a1 a3)
theorem px_fex_spec {m ci sl ty : Nat} {C : String} {T : u_T} {N : Nat} (hcl : px_cl[ci]? = some (C, T, N)) (h : px_fex m ci sl ty true = true) : (∃ d, parseFieldDescriptor (T sl).2.2.1 = some d ∧ px_fty ty d = true) ∧ ((T sl).2.2.2 = false ∨ ((T sl).2.2.2 = true ∧ (px_Y m).name = "<init>" ∧ C = px_O m)) := by
  unfold px_fex at h
  rw [hcl] at h
  simp only [Bool.and_eq_true, Bool.not_true, Bool.false_or, beq_iff_eq, Bool.or_eq_true, decide_eq_true_eq] at h
  obtain ⟨h1, h2, h3⟩ := h
  constructor
  · split at h1
    · rename_i d hd
      exact ⟨d, hd, h1⟩
    · cases h1
  · rcases h3 with h3 | h3
    · exact Or.inl (by rw [h2]; simp; omega)
    · by_cases h4 : 4 ≤ ty
      · exact Or.inr ⟨by rw [h2]; simp [h4], h3.1, h3.2⟩
      · exact Or.inl (by rw [h2]; simp; omega)
theorem px_nar1 {x : Int32} (h : x.toInt = 0 ∨ x.toInt = 1) : narrow .boolean (.int x) = .int x ∧ fits .boolean (.int x) = true := by
  rcases h with h | h
  · have : x = 0 := px_toI0.mp h
    subst this
    exact ⟨by decide +kernel, by decide +kernel⟩
  · have : x = 1 := Int32.toInt_inj.mp (by rw [h]; rfl)
    subst this
    exact ⟨by decide +kernel, by decide +kernel⟩
theorem px_sim_putf : px_Sim sc l D cA cF g Ex 36 px_o_putf := by
  intro mid ip pc a ins len he hd hdc hnx hex p e R s m args below meth c H locs cells slots Q lv ls st G f ip1 ls1 st1 G1 f1 hC hE hI hF hc hs kk
  match a, hd, hF, hex with
  | [ci, sl, ty, fi, ix], hd, hF, hex =>
    cases hd
    have hnx := hnx.resolve_left (by decide)
    simp only [px_ex, Bool.and_eq_true, decide_eq_true_eq] at hex
    obtain ⟨C, T, N, hcl, hsl, hTC, hw⟩ := px_fx hex.1.1.1
    have hci : ci.toNat < 12 := px_cl_len hcl
    obtain ⟨⟨d, hd1, hd2⟩, hfi⟩ := px_fex_spec hcl hex.1.1.2
    have hty := hex.2
    simp only [px_o_putf] at hF
    cases ht : (ty == 2 || ty == 6) with
    | true =>
      rw [ht] at hF
      have ht2 : ty.toNat % 4 = 2 := by
        rcases (by simpa using ht : ty = 2 ∨ ty = 6) with rfl | rfl <;> rfl
      simp only [cond_true] at hF
      split at hF
      · rename_i r st1 h1
        split at hF
        · rename_i k st2 h2
          split at hF
          · rename_i cc n rs hG
            cases hb : (cc == ci.toNat) with
            | false => rw [hb] at hF; cases hF
            | true =>
              rw [hb] at hF
              have hcc : cc = ci.toNat := by simpa using hb
              subst hcc
              simp only [cond_true] at hF
              split at hF
              · rename_i r0 hr
                split at hF
                · rename_i hr5
                  cases hF
                  obtain ⟨q, rfl⟩ : ∃ q, r = q + 5 := ⟨r - 5, by omega⟩
                  obtain ⟨st3, rfl, rfl⟩ := px_pR5 h1
                  obtain ⟨st4, rfl, rfl⟩ := px_pR5 h2
                  have hat := px_wd_at (n0 := g.1) (cA := cA) (cF := cF) f hG
                  rw [px_ent_obj hci] at hat
                  have hsz : px_sz (G.set k (ci.toNat, n, rs.set sl.toNat (some (q + 5)))) = px_sz G := px_sz_set hG rfl
                  simp only [List.length_set, hsz, px_z] at kk
                  have hdn : px_dn g.1 (q + 5) = .ref (g.1 + q) := by
                    unfold px_dn
                    rw [if_pos (by omega), show q + 5 - 5 = q by omega]
                  have hfit : narrow d (.ref (g.1 + q)) = .ref (g.1 + q) ∧ fits d (.ref (g.1 + q)) = true := by
                    unfold px_fty at hd2
                    rw [ht2] at hd2
                    cases d <;> first | exact ⟨rfl, rfl⟩ | simp at hd2
                  refine px_putx hC hcl hsl hTC hw hfi hI.2.1 (px_wd_D _ _ _ _ _) hI.2.2.1 hat hd1 hfit.1 hfit.2 (by simpa using (List.getElem?_eq_some_iff.mp hr).1) hdc (fun H1 locs1 hP1 hS1 => ?_)
                  rw [← hnx]
                  refine kk lv ls st4 f H1 locs1 rfl rfl rfl ⟨by rw [List.length_set]; exact hI.1, ?_, hS1, hI.2.2.2.1, hI.2.2.2.2.1, by rw [List.length_set]; exact hI.2.2.2.2.2⟩
                  rw [px_wd_set (f := f) hG (fun j _ => rfl), px_ent_obj hci, px_fs_putr (q + 5) hr, hdn]
                  exact hP1
                · cases hF
              · cases hF
          · cases hF
        · cases hF
      · cases hF
    | false =>
      rw [ht] at hF
      simp only [cond_false] at hF
      split at hF
      · rename_i v st1 h1
        obtain ⟨x, st3, rfl, rfl, rfl⟩ := px_pI_inv h1
        split at hF
        · rename_i k st2 h2
          split at hF
          · rename_i cc n rs hG
            cases hb : (cc == ci.toNat && (ty == 0 || ty == 4 || x.toInt == 0 || x.toInt == 1)) with
            | false => rw [hb] at hF; cases hF
            | true =>
              rw [hb] at hF
              simp only [Bool.and_eq_true, beq_iff_eq, Bool.or_eq_true] at hb
              have hcc : cc = ci.toNat := hb.1
              subst hcc
              simp only [cond_true] at hF
              split at hF
              · rename_i hr
                cases hF
                obtain ⟨st4, rfl, rfl⟩ := px_pR5 h2
                have hat := px_wd_at (n0 := g.1) (cA := cA) (cF := cF) f hG
                rw [px_ent_obj hci] at hat
                simp only [px_z] at kk
                have hfit : narrow d (.int x) = .int x ∧ fits d (.int x) = true := by
                  have hne : ¬ (ty = 2 ∨ ty = 6) := by simpa using ht
                  unfold px_fty at hd2
                  rcases (show ty = 0 ∨ ty = 1 ∨ ty = 4 ∨ ty = 5 by omega) with rfl | rfl | rfl | rfl
                  · have hd3 : d = .int := by simpa using hd2
                    subst hd3
                    exact ⟨rfl, rfl⟩
                  · have hd3 : d = .boolean := by simpa using hd2
                    subst hd3
                    exact px_nar1 (by have h9 := hb.2; omega)
                  · have hd3 : d = .int := by simpa using hd2
                    subst hd3
                    exact ⟨rfl, rfl⟩
                  · have hd3 : d = .boolean := by simpa using hd2
                    subst hd3
                    exact px_nar1 (by have h9 := hb.2; omega)
                refine px_putx hC hcl hsl hTC hw hfi hI.2.1 (px_wd_D _ _ _ _ _) hI.2.2.1 hat hd1 hfit.1 hfit.2 (by simpa using (List.getElem?_eq_some_iff.mp hr).1) hdc (fun H1 locs1 hP1 hS1 => ?_)
                rw [← hnx]
                refine kk lv ls st4 (px_fu f (k + 5) sl.toNat x) H1 locs1 rfl rfl (px_uf_fu _ _ _ _) ⟨hI.1, ?_, hS1, hI.2.2.2.1, hI.2.2.2.2.1, px_fz hI.2.2.2.2.2 hG _ _⟩
                have h8 := px_wd_set (n0 := g.1) (cA := cA) (cF := cF) (f := f) (f' := px_fu f (k + 5) sl.toNat x) (sh' := (ci.toNat, n, rs)) hG (fun j hj => px_fu_ne f x (by omega))
                rw [px_set_self hG, px_ent_obj hci, px_fs_put x hr] at h8
                rw [h8]
                exact hP1
              · cases hF
          · cases hF
        · cases hF
      · cases hF
end PXO
