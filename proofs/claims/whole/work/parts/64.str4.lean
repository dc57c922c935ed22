set_option maxRecDepth 100000 in
theorem js_mx1 : Cond.methodLink "java/lang/StringLatin1" 92 Lib.Math.max.name ∈ px_G := px_in (w := 3137) (by decide +kernel)
set_option maxRecDepth 100000 in
theorem js_mx2 : Cond.static Lib.Math.max.name ∈ px_G := px_in (w := 3138) (by decide +kernel)
set_option maxRecDepth 100000 in
theorem js_mx3 : Cond.code Lib.Math.max.name Lib.Math.max.code 2 (some .int) ∈ px_G := px_in (w := 3139) (by decide +kernel)
set_option maxRecDepth 100000 in
theorem js_mn1 : Cond.methodLink "java/lang/StringLatin1" 38 Lib.Math.min.name ∈ px_G := px_in (w := 3140) (by decide +kernel)
set_option maxRecDepth 100000 in
theorem js_mn2 : Cond.static Lib.Math.min.name ∈ px_G := px_in (w := 3141) (by decide +kernel)
set_option maxRecDepth 100000 in
theorem js_mn3 : Cond.code Lib.Math.min.name Lib.Math.min.code 2 (some .int) ∈ px_G := px_in (w := 3142) (by decide +kernel)
set_option maxRecDepth 100000 in
theorem js_mi : Cond.initialized "java/lang/Math" ∈ px_G := px_in (w := 1018) (by decide +kernel)
def js_go (i : Nat) (b : Int32) : Nat → Nat → Int32
  | 0, _ => -1
  | f + 1, k => if px_sb i k = b then nI k else js_go i b f (k + 1)
def js_ix (i : Nat) (c : Int32) : Int32 := if 0 ≤ c.toInt ∧ c.toInt ≤ 255 then js_go i c.toInt8.toInt32 (px_sn i) 0 else -1
set_option maxHeartbeats 4000000 in
set_option maxRecDepth 100000 in
theorem js_ichr (l : Launch) (g : px_g) (i vb : Nat) (x : Int32) (hi : i < 2) : Met l js_y_ichr (.code js_y_ichr js_b_ichr 6 (some .int) :: px_G) (px_rj 0 0 0) (px_Pb g i vb [.ref vb, .int x, .int 0, .int (nI (px_sn i))]) (px_Si (js_go i x.toInt8.toInt32 (px_sn i) 0)) 0 0 (fun _ => False) := by
  refine px_ofW (cc := js_b_ichr) (maxL := 6) (ret := some .int) (plainFor_of_name (by decide +kernel)) rfl ?_
  intro p e s m args below meth c s₁ B hml hv
  obtain ⟨rfl, hK, hBy⟩ := hv
  have hx := B.exec
  have hb := B.bytes
  have hr := B.returns
  have hlocks := B.notSynchronized
  have hts := atoms_spec (ws := .code js_y_ichr js_b_ichr 6 (some .int) :: px_G) B.pre
  have hG : ∀ w ∈ px_G, w.before ([.ref vb, .int x, .int 0, .int (nI (px_sn i))] : List Value).toArray s = true := fun w h => hts w (List.mem_cons_of_mem _ h)
  have hown : s.vm.findClass "java/lang/StringLatin1" = some m.cls := findClass_of_methodNamed B.named
  have hS : va_S (fun q => g.1 ≤ q) s.heap s.heap [] := va_S.rf
  have hl := lv_entry [.ref vb, .int x, .int 0, .int (nI (px_sn i))] (n := 6) (by exact Nat.le_of_ble_eq_true rfl)
  rw [lg_entry_eq]
  generalize (lg_sl [.ref vb, .int x, .int 0, .int (nI (px_sn i))] ++ List.replicate (6 - (lg_sl [.ref vb, .int x, .int 0, .int (nI (px_sn i))]).length) Slot.unset).toArray = ls at hl ⊢
  have hl : lv_has ls 6 [(0, .ref vb), (1, .int x), (2, .int 0), (3, .int (nI (px_sn i)))] := hl
  have hml2 : c.maxLocals = ls.size := by rw [hml]; exact hl.1.symm
  obtain ⟨⟨hR1, hR2, ⟨adK, adV, hSt, hk0, hk1⟩, hZ1, hZ2⟩, hn⟩ := id hK
  have hnl := px_sn_lt hi
  refine lv_iload_n hx hb js_d_ichr_0 rfl (lv_at hl 1 rfl) ?_
  refine lv_i2b hx hb js_d_ichr_1 rfl ?_
  generalize x.toInt8.toInt32 = bb
  refine lv_istore (lv' := [(4, .int bb), (0, .ref vb), (1, .int x), (2, .int 0), (3, .int (nI (px_sn i)))]) hx hb js_d_ichr_2 hl (by decide) rfl (fun ls hl => ?_)
  refine lv_iload_n hx hb js_d_ichr_4 rfl (lv_at hl 3 rfl) ?_
  refine lv_istore (lv' := [(5, .int 0), (4, .int bb), (0, .ref vb), (1, .int x), (2, .int 0), (3, .int (nI (px_sn i)))]) hx hb js_d_ichr_5 hl (by decide) rfl (fun ls hl => ?_)
  generalize hr0 : js_go i bb (px_sn i) 0 = r
  have loop : ∀ (f k : Nat) (ls : Array Slot), k + f = px_sn i → js_go i bb f k = r → lv_has ls 6 [(5, .int (nI k)), (4, .int bb), (0, .ref vb), (3, .int (nI (px_sn i)))] → W p l e (headSpec (.code js_y_ichr js_b_ichr 6 (some .int) :: px_G) (px_rj 0 0 0)).room s m ([.ref vb, .int x, .int 0, .int (nI (px_sn i))] : List Value).toArray below meth c s.heap [] 0 0 (MQ below (px_Si r) ([.ref vb, .int x, .int 0, .int (nI (px_sn i))] : List Value).toArray s 0 0 (fun _ => False)) (F0 m 7 ls []) := by
    intro f
    induction f with
    | zero =>
      intro k ls hk hg hl
      refine lv_iload hx hb js_d_ichr_7 (lv_at hl 0 rfl) ?_
      refine lv_iload_n hx hb js_d_ichr_9 rfl (lv_at hl 3 rfl) ?_
      refine lv_icmp_ge (tgt := 31) hx hb js_d_ichr_10 (by decide) (fun _ => ?_) (fun q => absurd (nI_le (by omega) (by omega)) q)
      refine lv_iconst (v := -1) hx hb js_d_ichr_31 (by decide) ?_
      rw [← hg]
      exact W.iret hx hb hr (fun t ht _ => ⟨rfl, ht⟩) (fun q h => by cases h) js_d_ichr_32 hlocks
    | succ f ih =>
      intro k ls hk hg hl
      refine lv_iload hx hb js_d_ichr_7 (lv_at hl 0 rfl) ?_
      refine lv_iload_n hx hb js_d_ichr_9 rfl (lv_at hl 3 rfl) ?_
      refine lv_icmp_ge (tgt := 31) hx hb js_d_ichr_10 (by decide) (fun q => absurd q (nI_ge (by omega) (by omega))) (fun _ => ?_)
      refine lv_aload_n hx hb js_d_ichr_13 rfl (lv_at hl 2 rfl) ?_
      refine lv_iload hx hb js_d_ichr_14 (lv_at hl 0 rfl) ?_
      refine va_tb (v := .int (px_sb i k)) hx hb hBy hS (vp_in_nI (by omega) (by omega)) (by rw [nI_clamp (by omega)]) js_d_ichr_16 ?_
      refine lv_iload hx hb js_d_ichr_17 (lv_at hl 1 rfl) ?_
      rw [js_go] at hg
      refine lv_icmp_ne (tgt := 25) hx hb js_d_ichr_19 (by decide) (fun q => ?_) (fun q => ?_)
      · rw [if_neg q] at hg
        refine lv_iinc (v := nI (k + 1)) (lv' := [(5, .int (nI (k + 1))), (4, .int bb), (0, .ref vb), (3, .int (nI (px_sn i)))]) hx hb js_d_ichr_25 hl (k := 0) rfl (by rw [nI_succ]; rfl) (by decide) rfl (fun ls hl => ?_)
        refine lv_goto (tgt := 7) hx hb js_d_ichr_28 (by decide) ?_
        exact ih (k + 1) ls (by omega) hg hl
      · rw [if_pos q] at hg
        refine lv_iload hx hb js_d_ichr_22 (lv_at hl 0 rfl) ?_
        rw [← hg]
        exact W.iret hx hb hr (fun t ht _ => ⟨rfl, ht⟩) (fun q h => by cases h) js_d_ichr_24 hlocks
  exact loop (px_sn i) 0 ls (by omega) hr0 (lv_sub hl [0, 1, 2, 5] rfl)
set_option maxHeartbeats 4000000 in
set_option maxRecDepth 100000 in
theorem js_lidx (l : Launch) (g : px_g) (i vb : Nat) (x : Int32) (hi : i < 2) : Met l js_y_lidx (.code js_y_lidx js_b_lidx 4 (some .int) :: px_G) (px_rj 1 0 0) (px_Pb g i vb [.ref vb, .int x, .int 0, .int (nI (px_sn i))]) (px_Si (js_ix i x)) 0 0 (fun _ => False) := by
  refine px_ofW (cc := js_b_lidx) (maxL := 4) (ret := some .int) (plainFor_of_name (by decide +kernel)) rfl ?_
  intro p e s m args below meth c s₁ B hml hv
  obtain ⟨rfl, hK, hBy⟩ := hv
  have hx := B.exec
  have hb := B.bytes
  have hr := B.returns
  have hlocks := B.notSynchronized
  have hts := atoms_spec (ws := .code js_y_lidx js_b_lidx 4 (some .int) :: px_G) B.pre
  have hG : ∀ w ∈ px_G, w.before ([.ref vb, .int x, .int 0, .int (nI (px_sn i))] : List Value).toArray s = true := fun w h => hts w (List.mem_cons_of_mem _ h)
  have hown : s.vm.findClass "java/lang/StringLatin1" = some m.cls := findClass_of_methodNamed B.named
  have hS : va_S (fun q => g.1 ≤ q) s.heap s.heap [] := va_S.rf
  have hl := lv_entry [.ref vb, .int x, .int 0, .int (nI (px_sn i))] (n := 4) (by exact Nat.le_of_ble_eq_true rfl)
  rw [lg_entry_eq]
  generalize (lg_sl [.ref vb, .int x, .int 0, .int (nI (px_sn i))] ++ List.replicate (4 - (lg_sl [.ref vb, .int x, .int 0, .int (nI (px_sn i))]).length) Slot.unset).toArray = ls at hl ⊢
  have hl : lv_has ls 4 [(0, .ref vb), (1, .int x), (2, .int 0), (3, .int (nI (px_sn i)))] := hl
  have hml2 : c.maxLocals = ls.size := by rw [hml]; exact hl.1.symm
  obtain ⟨⟨hR1, hR2, ⟨adK, adV, hSt, hk0, hk1⟩, hZ1, hZ2⟩, hn⟩ := id hK
  have hnl := px_sn_lt hi
  have hpos : 0 < px_sn i := by
    rcases (show i = 0 ∨ i = 1 by omega) with rfl | rfl <;> decide +kernel
  refine lv_iload_n hx hb js_d_lidx_0 rfl (lv_at hl 1 rfl) ?_
  refine px_ji (as := [.int x]) (rest := []) (px_js (y := js_y_enc) hx hb hml2 hown hG hK hS ⟨js_l_enc_88, js_s_enc, js_i_enc, js_c_enc, js_n_enc, by show _ = some 1; decide +kernel⟩ (js_enc1 l g x) ⟨by decide, by decide⟩ (Nat.le_of_ble_eq_true rfl) ⟨Nat.le_refl _, Nat.le_refl _⟩ js_d_lidx_1) ?_
  unfold js_ix
  by_cases hcx : 0 ≤ x.toInt ∧ x.toInt ≤ 255
  · rw [if_pos hcx, if_pos hcx]
    refine lv_if_ne (tgt := 9) hx hb js_d_lidx_4 (by decide) (fun _ => ?_) (fun q => absurd q (by decide))
    refine lv_iload_n hx hb js_d_lidx_9 rfl (lv_at hl 2 rfl) ?_
    refine lv_iconst (v := 0) hx hb js_d_lidx_10 (by decide) ?_
    refine va_mmax hx hb hml2 hown (hG _ js_mx1) (hG _ js_mx2) (hG _ js_mi) (hG _ js_mx3) (by decide) (Nat.le_of_ble_eq_true rfl) (Nat.le_refl _) (Nat.le_refl _) js_d_lidx_11 ?_
    rw [if_neg (show ¬ ((0 : Int32) < 0) by decide)]
    refine lv_istore_n (lv' := [(2, .int 0), (0, .ref vb), (1, .int x), (3, .int (nI (px_sn i)))]) hx hb js_d_lidx_14 rfl hl (by decide) rfl (fun ls hl => ?_)
    have hml2 : c.maxLocals = ls.size := by rw [hml]; exact hl.1.symm
    refine lv_iload_n hx hb js_d_lidx_15 rfl (lv_at hl 3 rfl) ?_
    refine lv_aload_n hx hb js_d_lidx_16 rfl (lv_at hl 1 rfl) ?_
    refine va_tlen (v := nI (px_sn i)) hx hb hBy hS rfl js_d_lidx_17 ?_
    refine va_mmin hx hb hml2 hown (hG _ js_mn1) (hG _ js_mn2) (hG _ js_mi) (hG _ js_mn3) (by decide) (Nat.le_of_ble_eq_true rfl) (Nat.le_refl _) (Nat.le_refl _) js_d_lidx_18 ?_
    rw [if_neg (nI_nlt (Nat.le_refl _) hnl)]
    refine lv_istore_n (lv' := [(3, .int (nI (px_sn i))), (2, .int 0), (0, .ref vb), (1, .int x)]) hx hb js_d_lidx_21 rfl hl (by decide) rfl (fun ls hl => ?_)
    have hml2 : c.maxLocals = ls.size := by rw [hml]; exact hl.1.symm
    refine lv_iload_n hx hb js_d_lidx_22 rfl (lv_at hl 1 rfl) ?_
    refine lv_iload_n hx hb js_d_lidx_23 rfl (lv_at hl 0 rfl) ?_
    refine lv_icmp_lt (tgt := 29) hx hb js_d_lidx_24 (by decide) (fun _ => ?_) (fun q => absurd (nI_lt hpos hnl) q)
    refine lv_aload_n hx hb js_d_lidx_29 rfl (lv_at hl 2 rfl) ?_
    refine lv_iload_n hx hb js_d_lidx_30 rfl (lv_at hl 3 rfl) ?_
    refine lv_iload_n hx hb js_d_lidx_31 rfl (lv_at hl 1 rfl) ?_
    refine lv_iload_n hx hb js_d_lidx_32 rfl (lv_at hl 0 rfl) ?_
    refine px_ji (as := [.ref vb, .int x, .int 0, .int (nI (px_sn i))]) (rest := []) (px_jsb (i := i) (vb := vb) (y := js_y_ichr) hx hb hml2 hown hG hK hBy hS ⟨js_l_ichr_95, js_s_ichr, js_i_ichr, js_c_ichr, js_n_ichr, by show _ = some 4; decide +kernel⟩ (js_ichr l g i vb x hi) ⟨by decide, by decide⟩ (Nat.le_of_ble_eq_true rfl) ⟨Nat.le_refl _, Nat.le_refl _⟩ js_d_lidx_33) ?_
    exact W.iret hx hb hr (fun t ht _ => ⟨rfl, ht⟩) (fun q h => by cases h) js_d_lidx_36 hlocks
  · rw [if_neg hcx, if_neg hcx]
    refine lv_if_ne (tgt := 9) hx hb js_d_lidx_4 (by decide) (fun q => absurd rfl q) (fun _ => ?_)
    refine lv_iconst (v := -1) hx hb js_d_lidx_7 (by decide) ?_
    exact W.iret hx hb hr (fun t ht _ => ⟨rfl, ht⟩) (fun q h => by cases h) js_d_lidx_8 hlocks
set_option maxHeartbeats 4000000 in
set_option maxRecDepth 100000 in
theorem js_idx2 (l : Launch) (g : px_g) (x : Int32) {i : Nat} (hi : i < 2) : Met l js_y_idx2 (.code js_y_idx2 js_b_idx2 3 (some .int) :: px_G) (px_rj 2 0 0) (px_Pk g [.ref (px_sa g i), .int x, .int 0]) (px_Si (js_ix i x)) 0 0 (fun _ => False) := by
  refine px_ofW (cc := js_b_idx2) (maxL := 3) (ret := some .int) (plainFor_of_name (by decide +kernel)) rfl ?_
  intro p e s m args below meth c s₁ B hml hv
  obtain ⟨rfl, hK⟩ := hv
  have hx := B.exec
  have hb := B.bytes
  have hr := B.returns
  have hlocks := B.notSynchronized
  have hts := atoms_spec (ws := .code js_y_idx2 js_b_idx2 3 (some .int) :: px_G) B.pre
  have hG : ∀ w ∈ px_G, w.before ([.ref (px_sa g i), .int x, .int 0] : List Value).toArray s = true := fun w h => hts w (List.mem_cons_of_mem _ h)
  have hown : s.vm.findClass "java/lang/String" = some m.cls := findClass_of_methodNamed B.named
  have hS : va_S (fun q => g.1 ≤ q) s.heap s.heap [] := va_S.rf
  have hl := lv_entry [.ref (px_sa g i), .int x, .int 0] (n := 3) (by exact Nat.le_of_ble_eq_true rfl)
  rw [lg_entry_eq]
  generalize (lg_sl [.ref (px_sa g i), .int x, .int 0] ++ List.replicate (3 - (lg_sl [.ref (px_sa g i), .int x, .int 0]).length) Slot.unset).toArray = ls at hl ⊢
  have hl : lv_has ls 3 [(0, .ref (px_sa g i)), (1, .int x), (2, .int 0)] := hl
  have hml2 : c.maxLocals = ls.size := by rw [hml]; exact hl.1.symm
  obtain ⟨⟨hR1, hR2, ⟨adK, adV, hSt, hk0, hk1⟩, hZ1, hZ2⟩, hn⟩ := id hK
  have hsa := px_sa_eq hk0 hk1 hi
  obtain ⟨hO, hCo, hVa, hBy⟩ := js_of hi hSt
  rw [← hsa] at hO hCo hVa
  refine lv_aload_n hx hb js_d_idx2_0 rfl (lv_at hl 0 rfl) ?_
  refine px_ji (as := [.ref (px_sa g i)]) (px_jvv (as := []) (y := js_y_lat) hx hb hml2 hown hG hK hS ⟨js_l_lat_492, js_m_lat, js_v_lat, js_i_lat, js_c_lat, js_n_lat, by decide +kernel⟩ (by obtain ⟨cell, q1, q2, q3, -⟩ := hO; exact ⟨cell, q1, q2, q3⟩) (js_lat l g hi) ⟨by decide, by decide⟩ (Nat.le_of_ble_eq_true rfl) ⟨Nat.le_refl _, Nat.le_refl _⟩ js_d_idx2_1) ?_
  refine lv_if_eq (tgt := 23) hx hb js_d_idx2_4 (by decide) (fun q => absurd q (by decide)) (fun _ => ?_)
  refine lv_aload_n hx hb js_d_idx2_7 rfl (lv_at hl 0 rfl) ?_
  refine vk_getf hx hb hVa hS hown (hG _ js_f_va) (fun _ h => h) js_d_idx2_8 ?_
  refine lv_iload_n hx hb js_d_idx2_11 rfl (lv_at hl 1 rfl) ?_
  refine lv_iload_n hx hb js_d_idx2_12 rfl (lv_at hl 2 rfl) ?_
  refine lv_aload_n hx hb js_d_idx2_13 rfl (lv_at hl 0 rfl) ?_
  refine px_ji (as := [.ref (px_sa g i)]) (px_jvv (as := []) (y := js_y_len) hx hb hml2 hown hG hK hS ⟨js_l_len_505, js_m_len, js_v_len, js_i_len, js_c_len, js_n_len, by decide +kernel⟩ (by obtain ⟨cell, q1, q2, q3, -⟩ := hO; exact ⟨cell, q1, q2, q3⟩) (js_len l g hi) ⟨by decide, by decide⟩ (Nat.le_of_ble_eq_true rfl) ⟨Nat.le_refl _, Nat.le_refl _⟩ js_d_idx2_14) ?_
  refine px_ji (as := [.ref (adV i), .int x, .int 0, .int (nI (px_sn i))]) (rest := []) (px_jsb (i := i) (vb := adV i) (y := js_y_lidx) hx hb hml2 hown hG hK hBy hS ⟨js_l_lidx_637, js_s_lidx, js_i_lidx, js_c_lidx, js_n_lidx, by show _ = some 4; decide +kernel⟩ (js_lidx l g i (adV i) x hi) ⟨by decide, by decide⟩ (Nat.le_of_ble_eq_true rfl) ⟨Nat.le_refl _, Nat.le_refl _⟩ js_d_idx2_17) ?_
  refine lv_goto (tgt := 36) hx hb js_d_idx2_20 (by decide) ?_
  exact W.iret hx hb hr (fun t ht _ => ⟨rfl, ht⟩) (fun q h => by cases h) js_d_idx2_36 hlocks
set_option maxHeartbeats 4000000 in
set_option maxRecDepth 100000 in
theorem js_idx1 (l : Launch) (g : px_g) (x : Int32) {i : Nat} (hi : i < 2) : Met l js_y_idx1 (.code js_y_idx1 js_b_idx1 2 (some .int) :: px_G) (px_rj 3 0 0) (px_Pk g [.ref (px_sa g i), .int x]) (px_Si (js_ix i x)) 0 0 (fun _ => False) := by
  refine px_ofW (cc := js_b_idx1) (maxL := 2) (ret := some .int) (plainFor_of_name (by decide +kernel)) rfl ?_
  intro p e s m args below meth c s₁ B hml hv
  obtain ⟨rfl, hK⟩ := hv
  have hx := B.exec
  have hb := B.bytes
  have hr := B.returns
  have hlocks := B.notSynchronized
  have hts := atoms_spec (ws := .code js_y_idx1 js_b_idx1 2 (some .int) :: px_G) B.pre
  have hG : ∀ w ∈ px_G, w.before ([.ref (px_sa g i), .int x] : List Value).toArray s = true := fun w h => hts w (List.mem_cons_of_mem _ h)
  have hown : s.vm.findClass "java/lang/String" = some m.cls := findClass_of_methodNamed B.named
  have hS : va_S (fun q => g.1 ≤ q) s.heap s.heap [] := va_S.rf
  have hl := lv_entry [.ref (px_sa g i), .int x] (n := 2) (by exact Nat.le_of_ble_eq_true rfl)
  rw [lg_entry_eq]
  generalize (lg_sl [.ref (px_sa g i), .int x] ++ List.replicate (2 - (lg_sl [.ref (px_sa g i), .int x]).length) Slot.unset).toArray = ls at hl ⊢
  have hl : lv_has ls 2 [(0, .ref (px_sa g i)), (1, .int x)] := hl
  have hml2 : c.maxLocals = ls.size := by rw [hml]; exact hl.1.symm
  obtain ⟨⟨hR1, hR2, ⟨adK, adV, hSt, hk0, hk1⟩, hZ1, hZ2⟩, hn⟩ := id hK
  have hsa := px_sa_eq hk0 hk1 hi
  obtain ⟨hO, hCo, hVa, hBy⟩ := js_of hi hSt
  rw [← hsa] at hO hCo hVa
  refine lv_aload_n hx hb js_d_idx1_0 rfl (lv_at hl 0 rfl) ?_
  refine lv_iload_n hx hb js_d_idx1_1 rfl (lv_at hl 1 rfl) ?_
  refine lv_iconst (v := 0) hx hb js_d_idx1_2 (by decide) ?_
  refine px_ji (as := [.ref (px_sa g i), .int x, .int 0]) (rest := []) (px_jvv (as := [.int x, .int 0]) (y := js_y_idx2) hx hb hml2 hown hG hK hS ⟨js_l_idx2_633, js_m_idx2, js_v_idx2, js_i_idx2, js_c_idx2, js_n_idx2, by show _ = some 2; decide +kernel⟩ (by obtain ⟨cell, q1, q2, q3, -⟩ := hO; exact ⟨cell, q1, q2, q3⟩) (js_idx2 l g x hi) ⟨by decide, by decide⟩ (Nat.le_of_ble_eq_true rfl) ⟨Nat.le_refl _, Nat.le_refl _⟩ js_d_idx1_3) ?_
  exact W.iret hx hb hr (fun t ht _ => ⟨rfl, ht⟩) (fun q h => by cases h) js_d_idx1_6 hlocks
