set_option maxRecDepth 100000 in
theorem px_w_oi1 : Cond.instanceMethod objectInit ∈ px_G := px_in (w := 1028) (by decide +kernel)
set_option maxRecDepth 100000 in
theorem px_w_oi2 : Cond.code objectInit ⟨#[0xb1]⟩ 1 none ∈ px_G := px_in (w := 1029) (by decide +kernel)
set_option maxRecDepth 100000 in
theorem px_w_cp1 : Cond.native arraycopyName ∈ px_G := px_in (w := 4053) (by decide +kernel)
set_option maxRecDepth 100000 in
theorem px_w_cp2 : Cond.static arraycopyName ∈ px_G := px_in (w := 4052) (by decide +kernel)
set_option maxRecDepth 100000 in
theorem px_w_cp3 : Cond.initialized "java/lang/System" ∈ px_G := px_in (w := 1020) (by decide +kernel)
set_option maxRecDepth 100000 in
theorem px_w_ai : Cond.arrayClass .int ∈ px_G := px_in (w := 1109) (by decide +kernel)
theorem px_catsum (st : List Value) : (st.map fun v => v.category).sum ≤ 2 * st.length := by
  induction st with
  | nil => exact Nat.le_refl 0
  | cons v t ih =>
    have h : v.category ≤ 2 := by rcases lv_cat v with q | q <;> omega
    simp only [List.map_cons, List.sum_cons, List.length_cons]
    omega
theorem px_us_len (g : px_g) (st : List Value) : (px_us g st).length = st.length := by simp [px_us]
theorem px_wd_app (n0 : Nat) (cA cF : ClassId) (G : List px_Sh) (sh : px_Sh) (f : Nat → Nat → Int32) : px_wd n0 cA cF (G ++ [sh]) f = px_wd n0 cA cF G f ++ [(n0 + G.length, px_ent n0 cA cF f G.length sh)] := by
  unfold px_wd
  rw [List.mapIdx_append]
  simp
theorem px_sz_app (G : List px_Sh) (sh : px_Sh) : px_sz (G ++ [sh]) = px_sz G + sh.2.1 := by
  unfold px_sz
  simp
/-- a new cell behind the others -/
theorem px_grow {D : va_G} {cA cF : ClassId} {g : px_g} {mid : Nat} {s : State} {cells : Nat} {G : List px_Sh} {f : Nat → Nat → Int32} {H H1 : Heap} {locs : List Loc} {lv : List (Nat × Value)} {ls : Array Slot} (hI : px_I D cA cF g mid s cells G f H locs lv ls) (hsz : H.size = g.1 + G.length) (z1 : H1.size = H.size + 1) (o1 : ∀ q, q < H.size → H1[q]? = H[q]?) {sh : px_Sh} (hn : va_at D px_cl (g.1 + G.length, px_ent g.1 cA cF f G.length sh) H1) : px_I D cA cF g mid s (cells + 1) (G ++ [sh]) f H1 locs lv ls := by
  obtain ⟨a1, a2, a3, a4, a5, a6⟩ := hI
  refine ⟨by simp; omega, ?_, ⟨Nat.le_trans a3.1 (by omega), fun x h1 h2 => (o1 x (Nat.lt_of_lt_of_le h1 a3.1)).trans (a3.2.1 x h1 h2), a3.2.2⟩, a4, a5, fun r i hr => a6 r i (by simp at hr; omega)⟩
  rw [px_wd_app]
  refine va_P.app (a2.kept (fun k x hx => o1 x.1 ((a2 k x hx).lt))) (fun k x hx => ?_)
  have hz : k < 1 := (List.getElem?_eq_some_iff.mp hx).1
  rw [show k = 0 by omega] at hx
  cases hx
  exact hn
section PXO
variable {sc : List Int} {l : Launch} {D : va_G} {cA cF : ClassId} {g : px_g}

theorem px_sim_gets : px_Sim sc l D cA cF g (px_Ex sc g) 58 px_o_gets := by
  intro mid ip pc a ins len he hd hdc hnx hex p e R s m args below meth c H locs cells slots Q lv ls st G f ip1 ls1 st1 G1 f1 hC hE hI hF hc hs kk
  obtain ⟨fm, hT, hval⟩ := hE.2.2.2.1
  simp only [px_o_gets] at hF
  split at hF
  · rename_i q ix w ip2
    cases hF
    simp only [px_ex, Bool.and_eq_true, decide_eq_true_eq, beq_iff_eq] at hex
    simp only [px_dec] at hd
    split at hd
    · rename_i hq
      cases hd
      subst hq
      simp only [px_z] at kk
      refine va_gets hC.1 hC.2.1 hE.2.2.1 hI.2.2.1 hC.2.2.2.1 (hC.2.2.2.2.1 _ (px_in hex.1.1)) (fun _ h => h) hdc ?_
      refine va_tlen (v := 8) hC.1 hC.2.1 hT hI.2.2.1 rfl hex.1.2 ?_
      rw [show q.toNat + 3 + 1 = q.toNat + 4 by omega, ← hex.2]
      exact kk lv ls _ f H locs rfl rfl rfl hI
    · cases hd
  · rename_i q ix w ip2 i
    simp only [px_ex, Bool.and_eq_true, decide_eq_true_eq, beq_iff_eq] at hex
    obtain ⟨⟨⟨⟨hx1, hx2⟩, hx3⟩, hx4⟩, hx5⟩ := hex
    simp only [px_dec] at hd
    split at hd
    · rename_i hq
      cases hd
      subst hq
      split at hF
      · rename_i j hj
        split at hF
        · rename_i h0
          split at hF
          · rename_i v hv
            cases hF
            simp only [px_z] at kk
            obtain ⟨w2, hw2, hm⟩ := px_ld_inv hj
            obtain ⟨x, rfl, rfl⟩ := px_uv_int hw2
            have hlt : x.toInt.toNat < 8 := (List.getElem?_eq_some_iff.mp hv).1
            refine va_gets hC.1 hC.2.1 hE.2.2.1 hI.2.2.1 hC.2.2.2.1 (hC.2.2.2.2.1 _ (px_in hx1)) (fun _ h => h) hdc ?_
            refine lv_iload_n (i := i.toNat) hC.1 hC.2.1 hx2 (Nat.mod_eq_of_lt hx5) (hI.2.2.2.1.2.2 _ hm) ?_
            rw [show q.toNat + 3 + 1 = q.toNat + 4 by omega]
            refine va_ti hC.1 hC.2.1 hT hI.2.2.1 (vp_in_iff.mpr ⟨h0, by omega⟩) rfl hx3 ?_
            rw [show q.toNat + 4 + 1 = q.toNat + 5 by omega, ← hx4]
            exact kk lv ls _ f H locs rfl (by rw [px_us_cons]; show Sum.inl (fm x.toInt.toNat).toInt :: _ = _; rw [hval _ _ hv]) rfl hI
          · cases hF
        · cases hF
      · cases hF
    · cases hd
  · cases hF
theorem px_sim_objinit : px_Sim sc l D cA cF g (px_Ex sc g) 60 px_o_objinit := by
  intro mid ip pc a ins len he hd hdc hnx hex p e R s m args below meth c H locs cells slots Q lv ls st G f ip1 ls1 st1 G1 f1 hC hE hI hF hc hs kk
  match a, hd, hF, hex with
  | [ix, w], hd, hF, hex =>
    cases hd
    have hnx := hnx.resolve_left (by decide)
    have hw : Cond.methodLink (px_O mid) ix.toNat objectInit ∈ px_G := px_in (by simpa [px_ex] using hex)
    simp only [px_o_objinit] at hF
    split at hF
    · rename_i k st2 h1
      obtain ⟨st3, rfl, rfl⟩ := px_pR5 h1
      split at hF
      · rename_i hlen
        cases hF
        simp only [px_z] at kk
        rw [px_us_len] at hlen
        have hcs := px_catsum st3
        refine W.objInit hC.1 hC.2.1 hC.2.2.2.1 (hC.2.2.2.2.1 _ hw) (hC.2.2.2.2.1 _ px_w_oi1) (hC.2.2.2.2.1 _ px_w_oi2) rfl (by rw [hC.2.2.1]; exact hI.2.2.2.1.1) rfl hdc (Nat.le_trans (by decide) hC.2.2.2.2.2.2.2.2.1) (by have h9 := hC.2.2.2.2.2.2.2.2.2; show 2 * 0 + _ + 12 ≤ _; omega) ?_
        show W p l e R s m args below meth c H locs cells slots Q (F0 m (pc + 3) ls st3)
        rw [← hnx]
        exact kk lv ls _ f H locs rfl rfl rfl hI
      · cases hF
    · cases hF
theorem px_sim_new : px_Sim sc l D cA cF g (px_Ex sc g) 42 px_o_new := by
  intro mid ip pc a ins len he hd hdc hnx hex p e R s m args below meth c H locs cells slots Q lv ls st G f ip1 ls1 st1 G1 f1 hC hE hI hF hc hs kk
  match a, hd, hF, hex with
  | [ci, ix, w], hd, hF, hex =>
    cases hd
    have hnx := hnx.resolve_left (by decide)
    simp only [px_ex] at hex
    split at hex
    · rename_i C T N wi wj hcl hnwi
      simp only [Bool.and_eq_true] at hex
      have hci := px_cl_len hcl
      simp only [px_o_new, px_nw] at hF
      split at hF
      · rename_i n rs hnw
        cases hF
        have hch := List.all_eq_true.mp px_nw_all ci.toNat (List.mem_range.mpr hci)
        unfold px_nwc at hch
        rw [hcl, hnw] at hch
        simp only [Bool.and_eq_true, beq_iff_eq] at hch
        obtain ⟨⟨rfl, hrl⟩, hdef⟩ := hch
        have e1 : (G ++ [(ci.toNat, n, rs)]).length - G.length = 1 := by simp
        have e2 : px_sz (G ++ [(ci.toNat, n, rs)]) - px_sz G = n := by rw [px_sz_app]; simp
        rw [e1] at hc kk
        rw [e2] at hs kk
        refine px_sized hC.2.2.2.2.2.2.2.1 hI (fun hsz => ?_)
        have hKn := hC.2.2.2.2.2.1.1 ci.toNat _ hcl
        refine W.newcK hC.1 hC.2.1 hC.2.2.2.1 (hC.2.2.2.2.1 _ (px_in hex.1.1)) (hC.2.2.2.2.1 _ (px_in hex.1.2)) (hC.2.2.2.2.1 _ (px_in hex.2)) rfl hdc hc hs hKn.2.1 rfl fun H1 kC hkC b1 z1 o1 => ?_
        show W p l e R s m args below meth c H1 locs (cells + 1) (slots + n) Q (F0 m (pc + 3) ls (.ref H.size :: st))
        rw [← hnx]
        obtain ⟨ty, hty⟩ := px_cl_ty hcl
        refine kk lv ls _ f H1 locs rfl (by rw [px_us_cons, hsz]; show Sum.inr (Sum.inr (px_ix g (g.1 + G.length))) :: _ = _; rw [px_ix_new]) rfl (px_grow hI hsz z1 o1 ?_)
        rw [px_ent_obj hci]
        refine ⟨_, hcl, ?_⟩
        have hb := u_born ty hC.2.2.2.2.1 (px_cl_in hcl) hKn hkC b1 hty
        rw [hsz] at hb
        refine hb.to (fun j hj => ?_)
        have hd2 := List.all_eq_true.mp hdef j (List.mem_range.mpr hj)
        rw [hty j hj] at hd2
        show defaultValue (ty j) = vp_V _ j
        unfold vp_V
        rw [List.getD_eq_getElem?_getD, List.getElem?_mapIdx]
        split at hd2
        · rename_i h1 h2
          rw [h2]
          have h3 : ty j = .int := Option.some.inj h1
          rw [h3]
          show defaultValue .int = Value.int (f (G.length + 5) j)
          rw [hI.2.2.2.2.2 _ _ (Nat.le_refl _)]
          rfl
        · rename_i h1 h2
          rw [h2]
          have h3 : ty j = .boolean := Option.some.inj h1
          rw [h3]
          show defaultValue .boolean = Value.int (f (G.length + 5) j)
          rw [hI.2.2.2.2.2 _ _ (Nat.le_refl _)]
          rfl
        · rename_i q h1 h2
          rw [h2]
          have h3 : ty j = .object q := Option.some.inj h1
          rw [h3]
          rfl
        · rename_i q h1 h2
          rw [h2]
          have h3 : ty j = .array q := Option.some.inj h1
          rw [h3]
          rfl
        · cases hd2
      · cases hF
    · cases hex
theorem px_sim_newa : px_Sim sc l D cA cF g (px_Ex sc g) 43 px_o_newa := by
  intro mid ip pc a ins len he hd hdc hnx hex p e R s m args below meth c H locs cells slots Q lv ls st G f ip1 ls1 st1 G1 f1 hC hE hI hF hc hs kk
  cases hd
  have hnx := hnx.resolve_left (by decide)
  simp only [px_o_newa] at hF
  split at hF
  · rename_i v st2 h1
    obtain ⟨x, st3, rfl, rfl, rfl⟩ := px_pI_inv h1
    split at hF
    · rename_i h0
      cases hF
      have e1 : (G ++ [(12, x.toInt.toNat, ([] : List (Option Nat)))]).length - G.length = 1 := by simp
      have e2 : px_sz (G ++ [(12, x.toInt.toNat, ([] : List (Option Nat)))]) - px_sz G = x.toInt.toNat := by rw [px_sz_app]; simp
      rw [e1] at hc kk
      rw [e2] at hs kk
      refine px_sized hC.2.2.2.2.2.2.2.1 hI (fun hsz => ?_)
      refine va_newaK (atype := .int) (N := x.toInt.toNat) hC.1 hC.2.1 (hC.2.2.2.2.1 _ px_w_ai) rfl hdc rfl (fun q => by have := Int32.lt_iff_toInt_lt.mp q; rw [Int32.toInt_zero] at this; omega) rfl (by show x.toInt.toNat * 4 ≤ _; omega) hc hs hsz (fun H1 cA2 b1 z1 o1 _ hNm => ?_)
      show W p l e R s m args below meth c H1 locs (cells + 1) (slots + x.toInt.toNat) Q (F0 m (pc + 2) ls (.ref (g.1 + G.length) :: st3))
      rw [← hnx]
      have hcA : cA2 = cA := by
        have h8 : s.vm.findClass ("[" ++ (FieldType.int).toString) = some cA := (hC.2.2.2.2.2.1.2 0 (cA, .int) rfl).2
        exact Option.some.inj (hNm.symm.trans h8)
      subst hcA
      refine kk lv ls _ f H1 locs rfl (by rw [px_us_cons]; show Sum.inr (Sum.inr (px_ix g (g.1 + G.length))) :: _ = _; rw [px_ix_new]) rfl (px_grow hI hsz (by rw [hsz]; exact z1) (fun q hq => o1 q (by omega)) ?_)
      rw [px_ent_arr]
      show H1[g.1 + G.length]? = some (vp_cell cA2 (x.toInt.toNat, .inl (f (G.length + 5))))
      rw [b1]
      refine congrArg some ?_
      unfold vp_cell
      refine congrArg (arrV cA2 x.toInt.toNat) ?_
      funext j
      show Value.int 0 = Value.int (f (G.length + 5) j)
      rw [hI.2.2.2.2.2 _ _ (Nat.le_refl _)]
    · cases hF
  · cases hF
theorem px_sim_newr : px_Sim sc l D cA cF g (px_Ex sc g) 44 px_o_newr := by
  intro mid ip pc a ins len he hd hdc hnx hex p e R s m args below meth c H locs cells slots Q lv ls st G f ip1 ls1 st1 G1 f1 hC hE hI hF hc hs kk
  match a, hd, hF, hex with
  | [ix, w], hd, hF, hex =>
    cases hd
    have hnx := hnx.resolve_left (by decide)
    have hw : Cond.classLink (px_O mid) ix.toNat "RansomPieces$Fate" ∈ px_G := px_in (by simpa [px_ex] using hex)
    simp only [px_o_newr] at hF
    split at hF
    · rename_i v st2 h1
      obtain ⟨x, st3, rfl, rfl, rfl⟩ := px_pI_inv h1
      split at hF
      · rename_i h0
        cases hF
        have e1 : (G ++ [(13, x.toInt.toNat, List.replicate x.toInt.toNat (some 0))]).length - G.length = 1 := by simp
        have e2 : px_sz (G ++ [(13, x.toInt.toNat, List.replicate x.toInt.toNat (some 0))]) - px_sz G = x.toInt.toNat := by rw [px_sz_app]; simp
        rw [e1] at hc kk
        rw [e2] at hs kk
        refine px_sized hC.2.2.2.2.2.2.2.1 hI (fun hsz => ?_)
        refine W.anew hC.1 hC.2.1 hC.2.2.2.1 (hC.2.2.2.2.1 _ hw) (va_AO.use hE.1) rfl hdc rfl (fun q => by have := Int32.lt_iff_toInt_lt.mp q; rw [Int32.toInt_zero] at this; omega) (by show x.toInt.toNat * 4 ≤ _; omega) hc hs (fun cA2 kA comp f1 f2 f3 f4 => ?_)
        have hcA : cA2 = cF := by
          obtain ⟨kA', comp', h5, h6, h7, h8⟩ := (hC.2.2.2.2.2.1.2 1 (cF, .object "RansomPieces$Fate") rfl).2
          exact Option.some.inj (f1.symm.trans h8)
        subst hcA
        generalize hH1 : H.push ({ cls := cA2, slots := Array.replicate x.toNatClampNeg .null, vm := .none } : Cell) = H1
        have z1 : H1.size = H.size + 1 := by rw [← hH1, Array.size_push]
        have b1 : H1[H.size]? = some (arrV cA2 x.toNatClampNeg (fun _ => .null)) := by rw [← hH1, Array.getElem?_push_size, ← arrV_new]
        have o1 : ∀ q : Nat, q < H.size → H1[q]? = H[q]? := fun q hq => by rw [← hH1, Array.getElem?_push, if_neg (Nat.ne_of_lt hq)]
        show W p l e R s m args below meth c H1 locs (cells + 1) (slots + x.toInt.toNat) Q (F0 m (pc + 3) ls (.ref H.size :: st3))
        rw [← hnx]
        refine kk lv ls _ f H1 locs rfl (by rw [px_us_cons, hsz]; show Sum.inr (Sum.inr (px_ix g (g.1 + G.length))) :: _ = _; rw [px_ix_new]) rfl (px_grow hI hsz z1 o1 ?_)
        unfold px_ent
        rw [if_neg (by show ¬ 13 = 12; omega), if_pos rfl]
        show H1[g.1 + G.length]? = some (vp_cell _ _)
        rw [← hsz, b1, vp_cell_q]
        congr 2
        funext j
        show Value.null = va_rf (match (List.replicate x.toInt.toNat (some 0))[j]? with
          | some (some r) => if 5 ≤ r then some (g.1 + (r - 5)) else none
          | _ => none)
        rw [List.getElem?_replicate]
        by_cases hj : j < x.toInt.toNat
        · rw [if_pos hj]; rfl
        · rw [if_neg hj]; rfl
      · cases hF
    · cases hF
theorem px_sim_aald : px_Sim sc l D cA cF g (px_Ex sc g) 39 px_o_aald := by
  intro mid ip pc a ins len he hd hdc hnx hex p e R s m args below meth c H locs cells slots Q lv ls st G f ip1 ls1 st1 G1 f1 hC hE hI hF hc hs kk
  cases hd
  have hnx := hnx.resolve_left (by decide)
  simp only [px_o_aald] at hF
  split at hF
  · rename_i j st2 h1
    obtain ⟨x, st3, rfl, rfl, rfl⟩ := px_pI_inv h1
    split at hF
    · rename_i k st4 h2
      obtain ⟨st5, rfl, rfl⟩ := px_pR5 h2
      split at hF
      · rename_i n rs hG
        split at hF
        · rename_i h0
          split at hF
          · rename_i r hr
            obtain ⟨hr1, hr2⟩ := px_rf_some hr
            cases hF
            simp only [px_z] at kk
            have hat := px_wd_at (n0 := g.1) (cA := cA) (cF := cF) f hG
            unfold px_ent at hat
            rw [if_neg (by show ¬ 13 = 12; omega), if_pos rfl] at hat
            refine va_aldq hC.1 hC.2.1 hC.2.2.2.2.2.1 hI.2.1 k 1 hat rfl (vp_in_iff.mpr h0) hdc ?_
            rw [← hnx]
            refine kk lv ls _ f H locs rfl ?_ rfl hI
            rw [px_us_cons]
            show px_uv g (va_rf (match rs[x.toInt.toNat]? with
              | some (some r) => if 5 ≤ r then some (g.1 + (r - 5)) else none
              | _ => none)) :: _ = _
            rw [hr1]
            show px_uv g (va_rf (if 5 ≤ r then some (g.1 + (r - 5)) else none)) :: _ = _
            rw [if_pos hr2]
            show Sum.inr (Sum.inr (px_ix g (g.1 + (r - 5)))) :: _ = _
            rw [px_ix_new, show r - 5 + 5 = r by omega]
          · cases hF
        · cases hF
      · cases hF
    · cases hF
  · cases hF
theorem px_sim_aast : px_Sim sc l D cA cF g (px_Ex sc g) 40 px_o_aast := by
  intro mid ip pc a ins len he hd hdc hnx hex p e R s m args below meth c H locs cells slots Q lv ls st G f ip1 ls1 st1 G1 f1 hC hE hI hF hc hs kk
  cases hd
  have hnx := hnx.resolve_left (by decide)
  simp only [px_o_aast] at hF
  split at hF
  · rename_i v st2 h1
    obtain ⟨st3, rfl, rfl⟩ := px_pR5 h1
    split at hF
    · rename_i j st4 h2
      obtain ⟨x, st5, rfl, rfl, rfl⟩ := px_pI_inv h2
      split at hF
      · rename_i k st6 h3
        obtain ⟨st7, rfl, rfl⟩ := px_pR5 h3
        split at hF
        · rename_i n rs n2 rs2 hG hG2
          split at hF
          · rename_i h0
            cases hF
            have hsz : px_sz (G.set k (13, n, rs.set x.toInt.toNat (some (v + 5)))) = px_sz G := px_sz_set hG rfl
            simp only [List.length_set, hsz, px_z] at kk
            have hat := px_wd_at (n0 := g.1) (cA := cA) (cF := cF) f hG
            unfold px_ent at hat
            rw [if_neg (by show ¬ 13 = 12; omega), if_pos rfl] at hat
            have hat2 := px_wd_at (n0 := g.1) (cA := cA) (cF := cF) f hG2
            rw [px_ent_obj (by omega)] at hat2
            refine va_astq hC.1 hC.2.1 hC.2.2.2.2.2.1 hI.2.1 (px_wd_D _ _ _ _ _) hI.2.2.1 k 1 v 0 hat (r := (RX0, TX0, 12)) rfl hat2 rfl (vp_in_iff.mpr ⟨h0.1, h0.2.1⟩) hdc (fun H1 locs1 hP1 _ hS1 => ?_)
            rw [← hnx]
            refine kk lv ls st7 f H1 locs1 rfl rfl rfl ⟨by rw [List.length_set]; exact hI.1, ?_, hS1, hI.2.2.2.1, hI.2.2.2.2.1, by rw [List.length_set]; exact hI.2.2.2.2.2⟩
            rw [px_wd_set (f := f) hG (fun j _ => rfl)]
            have hfe : px_ent g.1 cA cF f k (13, n, rs.set x.toInt.toNat (some (v + 5))) = .inl (cF, n, .inr (.inr (.inr (.inr (va_up (fun j => match rs[j]? with
                | some (some r) => if 5 ≤ r then some (g.1 + (r - 5)) else none
                | _ => none) x.toNatClampNeg (some (g.1 + v))))))) := by
              unfold px_ent
              rw [if_neg (by show ¬ 13 = 12; omega), if_pos rfl]
              refine congrArg (fun F => (Sum.inl (cF, n, Sum.inr (Sum.inr (Sum.inr (Sum.inr F)))) : va_E)) ?_
              funext j
              show (match (rs.set x.toInt.toNat (some (v + 5)))[j]? with
                | some (some r) => if 5 ≤ r then some (g.1 + (r - 5)) else none
                | _ => none) = _
              unfold va_up
              rw [List.getElem?_set]
              have hxx : x.toNatClampNeg = x.toInt.toNat := rfl
              rw [hxx]
              by_cases hj : x.toInt.toNat = j
              · rw [if_pos hj, if_pos (by omega), if_pos hj.symm]
                show (if 5 ≤ v + 5 then some (g.1 + (v + 5 - 5)) else none) = _
                rw [if_pos (by omega), show v + 5 - 5 = v by omega]
              · rw [if_neg hj, if_neg (fun q => hj q.symm)]
            rw [hfe]
            exact hP1
          · cases hF
        · cases hF
      · cases hF
    · cases hF
  · cases hF
theorem px_cp_wd {n0 : Nat} {cA cF : ClassId} {G : List px_Sh} {f : Nat → Nat → Int32} {k n : Nat} {rs : List (Option Nat)} (f2 : Nat → Int32) (hG : G[k]? = some (12, n, rs)) : px_wd n0 cA cF G (fun a b => if a = k + 5 then f2 b else f a b) = (px_wd n0 cA cF G f).set k (n0 + k, .inl (cA, n, .inl f2)) := by
  have h8 := px_wd_set (n0 := n0) (cA := cA) (cF := cF) (f := f) (f' := fun a b => if a = k + 5 then f2 b else f a b) (sh' := (12, n, rs)) hG (fun j hj => by funext b; rw [if_neg (by omega)])
  rw [px_set_self hG, px_ent_arr] at h8
  have h9 : (fun b => if k + 5 = k + 5 then f2 b else f (k + 5) b) = f2 := by funext b; rw [if_pos rfl]
  rw [h8, h9]
theorem px_sim_copy : px_Sim sc l D cA cF g (px_Ex sc g) 59 px_o_copy := by
  intro mid ip pc a ins len he hd hdc hnx hex p e R s m args below meth c H locs cells slots Q lv ls st G f ip1 ls1 st1 G1 f1 hC hE hI hF hc hs kk
  match a, hd, hF, hex with
  | [ix, w], hd, hF, hex =>
    cases hd
    have hnx := hnx.resolve_left (by decide)
    have hw : Cond.methodLink (px_O mid) ix.toNat arraycopyName ∈ px_G := px_in (by simpa [px_ex] using hex)
    simp only [px_o_copy] at hF
    split at hF
    · rename_i n st2 h1
      obtain ⟨nv, st3, rfl, rfl, rfl⟩ := px_pI_inv h1
      split at hF
      · rename_i dp st4 h2
        obtain ⟨dv, st5, rfl, rfl, rfl⟩ := px_pI_inv h2
        split at hF
        · rename_i d st6 h3
          obtain ⟨st7, rfl, rfl⟩ := px_pR5 h3
          split at hF
          · rename_i sp st8 h4
            obtain ⟨sv, st9, rfl, rfl, rfl⟩ := px_pI_inv h4
            split at hF
            · rename_i sr st10 h5
              obtain ⟨st11, rfl, rfl⟩ := px_pR5 h5
              split at hF
              · rename_i sn rs1 dn rs2 hG1 hG2
                split at hF
                · rename_i h0
                  cases hF
                  simp only [px_z] at kk
                  rw [px_us_len] at h0
                  have hcs := px_catsum st11
                  have hat1 := px_wd_at (n0 := g.1) (cA := cA) (cF := cF) f hG1
                  rw [px_ent_arr] at hat1
                  have hat2 := px_wd_at (n0 := g.1) (cA := cA) (cF := cF) f hG2
                  rw [px_ent_arr] at hat2
                  have neg : ∀ z : Int32, 0 ≤ z.toInt → ¬ z < 0 := fun z h q => by
                    have := Int32.lt_iff_toInt_lt.mp q
                    rw [Int32.toInt_zero] at this
                    omega
                  have hnw : nativeFrameWords "java/lang/System" "arraycopy" 5 = 7 := by decide +kernel
                  refine va_copyi hC.1 hC.2.1 (by rw [hC.2.2.1]; exact hI.2.2.2.1.1.symm) hC.2.2.2.1 (hC.2.2.2.2.1 _ hw) (hC.2.2.2.2.1 _ px_w_cp1) (hC.2.2.2.2.1 _ px_w_cp2) (hC.2.2.2.2.1 _ px_w_cp3) hC.2.2.2.2.2.1 hI.2.1 (px_wd_D _ _ _ _ _) hI.2.2.1 sr d 0 0 hat1 hat2 rfl rfl rfl (neg _ h0.2.1) (neg _ h0.2.2.1) (neg _ h0.1) (by show sv.toInt.toNat + nv.toInt.toNat ≤ sn; omega) (by show dv.toInt.toNat + nv.toInt.toNat ≤ dn; omega) (fun _ _ => rfl) (Nat.le_trans (by decide) hC.2.2.2.2.2.2.2.2.1) (by have h9 := hC.2.2.2.2.2.2.2.2.2; rw [hnw]; omega) hdc (fun H1 locs1 hP1 _ hS1 => ?_)
                  rw [← hnx]
                  refine kk lv ls st11 (fun a b => if a = d + 5 then va_cpy (f (sr + 5)) (f (d + 5)) sv.toNatClampNeg dv.toNatClampNeg nv.toNatClampNeg b else f a b) H1 locs1 rfl rfl ?_ ⟨hI.1, ?_, hS1, hI.2.2.2.1, hI.2.2.2.2.1, fun r i hr => ?_⟩
                  · funext a b
                    unfold px_uf px_cp va_cpy
                    have e1 : sv.toNatClampNeg = sv.toInt.toNat := rfl
                    have e2 : dv.toNatClampNeg = dv.toInt.toNat := rfl
                    have e3 : nv.toNatClampNeg = nv.toInt.toNat := rfl
                    rw [e1, e2, e3]
                    dsimp only
                    by_cases ha : a = d + 5
                    · subst ha
                      rw [if_pos rfl]
                      by_cases hb : dv.toInt.toNat ≤ b ∧ b < dv.toInt.toNat + nv.toInt.toNat
                      · rw [if_pos hb, if_pos ⟨rfl, hb⟩]
                      · rw [if_neg hb, if_neg (fun q => hb q.2)]
                    · rw [if_neg ha, if_neg (fun q => ha q.1)]
                  · rw [px_cp_wd _ hG2]
                    exact hP1
                  · have hl : d < G.length := (List.getElem?_eq_some_iff.mp hG2).1
                    dsimp only
                    rw [if_neg (show ¬ r = d + 5 by omega)]
                    exact hI.2.2.2.2.2 r i hr
                · cases hF
              · cases hF
            · cases hF
          · cases hF
        · cases hF
      · cases hF
    · cases hF
end PXO
