def px_ti (i : Nat) : List Int := if i = 0 then px_words else px_signs
set_option maxRecDepth 100000 in
theorem px_sv_ok : (List.range 2).all (fun i => decide (px_sn i = (px_ti i).length) && (List.range (px_sn i)).all (fun j => decide ((px_sb i j).toInt = (px_ti i).getD j 0))) = true := by decide +kernel
theorem px_sv {i j : Nat} {v : Int} (hi : i < 2) (h : (px_ti i)[j]? = some v) : j < px_sn i ∧ (px_sb i j).toInt = v := by
  have h1 := List.all_eq_true.mp px_sv_ok i (List.mem_range.mpr hi)
  simp only [Bool.and_eq_true, decide_eq_true_eq] at h1
  have hj : j < px_sn i := by rw [h1.1]; exact (List.getElem?_eq_some_iff.mp h).1
  have h2 := of_decide_eq_true (List.all_eq_true.mp h1.2 j (List.mem_range.mpr hj))
  rw [List.getD_eq_getElem?_getD, h] at h2
  exact ⟨hj, h2⟩
theorem px_sn_len {i : Nat} (hi : i < 2) : px_sn i = (px_ti i).length := by
  have h1 := List.all_eq_true.mp px_sv_ok i (List.mem_range.mpr hi)
  simp only [Bool.and_eq_true, decide_eq_true_eq] at h1
  exact h1.1
set_option maxRecDepth 100000 in
theorem px_ix_ok : (List.range 2).all (fun i => (List.range 256).all (fun c => decide ((js_ix i (nI c)).toInt = px_io (c : Int) (px_ti i) 0))) = true := by decide +kernel
set_option maxRecDepth 100000 in
theorem px_ti_lt : (List.range 2).all (fun i => (px_ti i).all (fun v => decide (v < 256))) = true := by decide +kernel
theorem px_io_out {c : Int} : ∀ (l : List Int) (k : Nat), (∀ v ∈ l, v ≠ c) → px_io c l k = -1
  | [], _, _ => rfl
  | x :: l, k, h => by
    rw [px_io, if_neg (h x List.mem_cons_self)]
    exact px_io_out l (k + 1) (fun v hv => h v (List.mem_cons_of_mem _ hv))
theorem px_ixv {i c : Nat} (hi : i < 2) (hc : c < 65536) : (js_ix i (nI c)).toInt = px_io (c : Int) (px_ti i) 0 := by
  by_cases h : c < 256
  · exact of_decide_eq_true (List.all_eq_true.mp (List.all_eq_true.mp px_ix_ok i (List.mem_range.mpr hi)) c (List.mem_range.mpr h))
  · unfold js_ix
    rw [nI_toInt (by omega), if_neg (by omega)]
    rw [px_io_out]
    · rfl
    · intro v hv
      have h1 := of_decide_eq_true (List.all_eq_true.mp (List.all_eq_true.mp px_ti_lt i (List.mem_range.mpr hi)) v hv)
      omega
section PXO
variable {sc : List Int} {l : Launch} {D : va_G} {cA cF : ClassId} {g : px_g}
/-- which text: its row, its signs -/
theorem px_which {s : State} (hT : px_Tx g s) {ix r : Int} (h : (ix = 84 ∧ r = 0) ∨ (ix = 76 ∧ r = 1)) : ∃ (i : Nat) (tx : String), i < 2 ∧ vk_R "RansomPieces$Reader" ix.toNat tx (px_sa g i) s ∧ px_tx r = px_ti i := by
  rcases h with ⟨rfl, rfl⟩ | ⟨rfl, rfl⟩
  · exact ⟨0, _, by omega, hT.1, rfl⟩
  · exact ⟨1, _, by omega, hT.2.1, rfl⟩
set_option maxHeartbeats 4000000 in
set_option maxRecDepth 100000 in
theorem px_sim_prim : px_Sim sc l D cA cF g (px_Ex sc g) 61 px_o_prim := by
  intro mid ip pc a ins len he hd hdc hnx hex p e R s m args below meth c H locs cells slots Q lv ls st G f ip1 ls1 st1 G1 f1 hC hE hI hF hc hs kk
  have hTx : px_Tx g s := hE.2.2.2.2.2
  have hK : px_K g s := ⟨hTx, hC.2.2.2.2.2.2.2.1⟩
  have hfr := hC.2.2.2.2.2.2.2.2.1
  have hlo := hC.2.2.2.2.2.2.2.2.2
  have hml2 : c.maxLocals = ls.size := by rw [hC.2.2.1]; exact hI.2.2.2.1.1.symm
  obtain ⟨adK, adV, hSt, hk0, hk1⟩ := hTx.2.2.1
  simp only [px_o_prim] at hF
  split at hF
  · rename_i q ix r ip2 iv
    simp only [px_ex, Bool.and_eq_true, Bool.or_eq_true, decide_eq_true_eq, beq_iff_eq] at hex
    obtain ⟨⟨⟨⟨hO, hw⟩, hiv⟩, hd2⟩, hpc2⟩ := hex
    simp only [px_dec] at hd
    split at hd
    · rename_i hq
      cases hd
      subst hq
      split at hF
      · rename_i hlen
        cases hF
        simp only [px_z] at kk hc hs
        rw [px_us_len] at hlen
        have hcs := px_catsum st
        obtain ⟨i, tx, hi, hR, htx⟩ := px_which hTx hw
        have hown : s.vm.findClass "RansomPieces$Reader" = some m.cls := by rw [← hO]; exact hC.2.2.2.1
        have hrec := vk_recv hSt hi hI.2.2.1
        rw [← px_sa_eq hk0 hk1 hi] at hrec
        refine va_ldcS hC.1 hC.2.1 hown hR hdc ?_
        refine px_ji (as := [.ref (px_sa g i)]) (rest := st) (px_jvv (as := []) (y := js_y_len) hC.1 hC.2.1 hml2 hown hC.2.2.2.2.1 hK hI.2.2.1 ⟨js_l_len_86, js_m_len, js_v_len, js_i_len, js_c_len, js_n_len, by decide +kernel⟩ hrec (js_len l g hi) ⟨by omega, by omega⟩ (by omega) ⟨hc, hs⟩ hd2) ?_
        rw [show q.toNat + 2 + 3 = q.toNat + 5 by omega, ← hpc2]
        exact kk lv ls _ f H locs rfl (by rw [px_us_cons]; show Sum.inl (nI (px_sn i)).toInt :: _ = _; rw [nI_toInt (px_sn_lt hi), htx, px_sn_len hi]) rfl hI
      · cases hF
    · cases hd
  · rename_i q ix r ip2 iv lc z
    simp only [px_ex, Bool.and_eq_true, Bool.or_eq_true, decide_eq_true_eq, beq_iff_eq] at hex
    obtain ⟨⟨⟨⟨⟨hO, hw⟩, hiv⟩, hd2⟩, hd3⟩, hpc2⟩ := hex
    simp only [px_dec] at hd
    split at hd
    · rename_i hq
      cases hd
      subst hq
      split at hF
      · rename_i j hj
        split at hF
        · rename_i h0
          split at hF
          · rename_i v hv
            cases hF
            simp only [px_z] at kk hc hs
            rw [px_us_len] at h0
            have hcs := px_catsum st
            obtain ⟨w2, hw2, hm⟩ := px_ld_inv hj
            obtain ⟨x, rfl, rfl⟩ := px_uv_int hw2
            obtain ⟨i, tx, hi, hR, htx⟩ := px_which hTx hw
            rw [htx] at hv
            obtain ⟨hjl, hval⟩ := px_sv hi hv
            have hin : vp_in x (px_sn i) := vp_in_iff.mpr ⟨h0.1, by omega⟩
            have hown : s.vm.findClass "RansomPieces$Reader" = some m.cls := by rw [← hO]; exact hC.2.2.2.1
            have hrec := vk_recv hSt hi hI.2.2.1
            rw [← px_sa_eq hk0 hk1 hi] at hrec
            refine va_ldcS hC.1 hC.2.1 hown hR hdc ?_
            refine lv_iload hC.1 hC.2.1 hd2 (hI.2.2.2.1.2.2 _ hm) ?_
            refine px_ji (as := [.ref (px_sa g i), .int x]) (rest := st) (px_jvv (as := [.int x]) (y := js_y_char) hC.1 hC.2.1 hml2 hown hC.2.2.2.2.1 hK hI.2.2.1 ⟨js_l_char_90, js_m_char, js_v_char, js_i_char, js_c_char, js_n_char, by show _ = some 1; decide +kernel⟩ hrec (js_char l g x hi hin) ⟨by omega, by omega⟩ (by omega) ⟨hc, hs⟩ hd3) ?_
            rw [show q.toNat + 2 + 2 + 3 = q.toNat + 7 by omega, ← hpc2]
            exact kk lv ls _ f H locs rfl (by rw [px_us_cons]; show Sum.inl (px_sb i x.toInt.toNat).toInt :: _ = _; rw [hval]) rfl hI
          · cases hF
        · cases hF
      · cases hF
    · cases hd
  · rename_i q ix r ip2 iv lc z
    simp only [px_ex, Bool.and_eq_true, Bool.or_eq_true, decide_eq_true_eq, beq_iff_eq] at hex
    obtain ⟨⟨⟨⟨⟨⟨hO, hw⟩, hiv⟩, hd2⟩, hd3⟩, hd4⟩, hpc2⟩ := hex
    simp only [px_dec] at hd
    split at hd
    · rename_i hq
      cases hd
      subst hq
      split at hF
      · rename_i j hj
        split at hF
        · rename_i hlen
          cases hF
          simp only [px_z] at kk hc hs
          rw [px_us_len] at hlen
          have hcs := px_catsum st
          obtain ⟨w2, hw2, hm⟩ := px_ld_inv hj
          obtain ⟨x, rfl, rfl⟩ := px_uv_int hw2
          obtain ⟨i, tx, hi, hR, htx⟩ := px_which hTx hw
          have hown : s.vm.findClass "RansomPieces$Reader" = some m.cls := by rw [← hO]; exact hC.2.2.2.1
          have hrec := vk_recv hSt hi hI.2.2.1
          rw [← px_sa_eq hk0 hk1 hi] at hrec
          have hch := pk_char x
          have hlt : x.toBitVec.toNat % 65536 < 65536 := Nat.mod_lt _ (by decide)
          refine va_ldcS hC.1 hC.2.1 hown hR hdc ?_
          refine lv_iload hC.1 hC.2.1 hd2 (hI.2.2.2.1.2.2 _ hm) ?_
          refine lv_i2c hC.1 hC.2.1 hd3 hch ?_
          have hval : px_i2c x.toInt = ((x.toBitVec.toNat % 65536 : Nat) : Int) := by
            unfold px_i2c
            rw [Int32.ofInt_toInt, hch, nI_toInt (by omega)]
          generalize x.toBitVec.toNat % 65536 = cN at hlt hval
          refine px_ji (as := [.ref (px_sa g i), .int (nI cN)]) (rest := st) (px_jvv (as := [.int (nI cN)]) (y := js_y_idx1) hC.1 hC.2.1 hml2 hown hC.2.2.2.2.1 hK hI.2.2.1 ⟨js_l_idx1_78, js_m_idx1, js_v_idx1, js_i_idx1, js_c_idx1, js_n_idx1, by show _ = some 1; decide +kernel⟩ hrec (js_idx1 l g (nI cN) hi) ⟨by omega, by omega⟩ (by omega) ⟨hc, hs⟩ hd4) ?_
          rw [show q.toNat + 2 + 2 + 1 + 3 = q.toNat + 8 by omega, ← hpc2]
          exact kk lv ls _ f H locs rfl (by rw [px_us_cons]; show Sum.inl (js_ix i (nI cN)).toInt :: _ = _; rw [px_ixv hi hlt, hval, htx]) rfl hI
        · cases hF
      · cases hF
    · cases hd
  · cases hF
end PXO
