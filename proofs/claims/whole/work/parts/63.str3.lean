def px_Pb (g : px_g) (i vb : Nat) (as : List Value) : Array Value → State → Prop := fun v U => v = as.toArray ∧ px_K g U ∧ px_by g i vb U
theorem px_Pb_blind {g : px_g} {i vb : Nat} {as : List Value} : FrameBlind (px_Pb g i vb as) := fun a U fr mk h => ⟨h.1, px_K_call h.2.1, va_T.moved (u := U) (U := U.calling fr mk a) (Vm.Alike.refl U.vm) h.2.2⟩
section PXJ
variable {p : Program} {l : Launch} {e : Env} {R : Room} {s : State} {m : MethodId} {args : Array Value} {below : List Frame} {meth : Method} {c : Code} {H : Heap} {locs : List Loc} {cells slots : Nat} {Q : State → Prop}
variable {cc : ByteArray} {pc ix : Nat} {ls : Array Slot} {rest as : List Value} {g : px_g} {own : String} {y : MethodName} {B : ByteArray} {L d i vb : Nat} {rt : Option FieldType} {Qc : Array Value → State → Outcome → State → Prop}
theorem px_jsb (hx : p.tables.exec = Jvm.exec) (hb : c.code = cc) (hml : c.maxLocals = ls.size) (hown : s.vm.findClass own = some m.cls) (hG : ∀ w ∈ px_G, w.before args s = true) (hK : px_K g s) (hBy : px_by g i vb s) (hS : va_S (fun q => g.1 ≤ q) s.heap H locs)
    (w : Cond.methodLink own ix y ∈ px_G ∧ Cond.static y ∈ px_G ∧ Cond.initialized y.cls ∈ px_G ∧ Cond.code y B L rt ∈ px_G ∧ (y.cls ≠ "java/lang/invoke/MethodHandle" ∧ y.cls ≠ "java/lang/invoke/VarHandle") ∧ (parseMethodDescriptor y.desc).map (fun d => d.parameters.length) = some as.length)
    (hM : Met l y (.code y B L rt :: px_G) (px_rj d 0 0) (px_Pb g i vb as) Qc 0 0 (fun _ => False)) (hR : d + 2 ≤ R.frames ∧ 8 + (L + 11) + 40 * (d + 1) ≤ R.locals) (hcat : (rest.map fun v => v.category).sum ≤ 8) (hroom : cells ≤ R.cells ∧ slots ≤ R.slots) (hdc : decode cc pc = .ok (.invokestatic ix, 3)) :
    va_Run p l e R s m args below meth c H locs cells slots 0 0 (F0 m pc ls (as.reverse ++ rest)) rest (Qc as.toArray) (fun _ => False) := by
  obtain ⟨w1, w2, w3, w4, hne, hpar⟩ := w
  have hw : ∀ w ∈ (Cond.code y B L rt :: px_G), w ∈ px_G := fun w h => by
    rcases List.mem_cons.mp h with rfl | h
    · exact w4
    · exact h
  refine va_runS (nL := ls.size) (Ts := px_G) ⟨hx, hb, hml, hown, hG⟩ hM ⟨⟨rfl, rfl, by show d + 1 + 1 ≤ _; omega, by show 8 + (L + 11) + 40 * (d + 1) ≤ _; omega, px_wok hG hw, List.mem_cons_self, hG _ w4, hG _ w3, hne, fun sig h => ?_, hG _ w1⟩, hG _ w2⟩ ⟨px_Pb_blind, fun U hU hW => ⟨rfl, px_K_move hK hW (fun q hq => ?_) ?_, ?_⟩⟩ rfl rfl rfl rfl (by show 2 * 0 + _ ≤ 8; omega) hdc ⟨by omega, by omega⟩
  · rw [h] at hpar
    exact (Option.some.inj hpar).symm
  · rw [hU]
    exact hS.2.1 q (Nat.lt_of_lt_of_le hq hK.2) (Nat.not_le.mpr hq)
  · rw [hU]
    exact Nat.le_trans hK.2 hS.1
  · show va_T .byte vb _ _ _ U U.heap
    rw [hU]
    exact (va_T.moved hW.alike hBy).kept hS.2.1
end PXJ
set_option maxRecDepth 100000 in
theorem px_sb_ok : (List.range 2).all (fun i => (List.range (px_sn i)).all (fun j => decide (((px_sb i j &&& 255).toUInt32 % 65536).toInt32 = px_sb i j) && decide (narrow .char (.int (px_sb i j)) = .int (px_sb i j)))) = true := by decide +kernel
theorem px_sb_1 {i j : Nat} (hi : i < 2) (hj : j < px_sn i) : ((px_sb i j &&& 255).toUInt32 % 65536).toInt32 = px_sb i j ∧ narrow .char (.int (px_sb i j)) = .int (px_sb i j) := by
  have h1 := List.all_eq_true.mp (List.all_eq_true.mp px_sb_ok i (List.mem_range.mpr hi)) j (List.mem_range.mpr hj)
  simp only [Bool.and_eq_true, decide_eq_true_eq] at h1
  exact h1
theorem px_sn_lt {i : Nat} (hi : i < 2) : px_sn i < 2 ^ 31 := by
  rcases (show i = 0 ∨ i = 1 by omega) with rfl | rfl <;> decide +kernel

set_option maxHeartbeats 4000000 in
set_option maxRecDepth 100000 in
theorem js_lchar (l : Launch) (g : px_g) (i vb : Nat) (x : Int32) (hi : i < 2) (hin : vp_in x (px_sn i)) : Met l js_y_lchar (.code js_y_lchar js_b_lchar 2 (some .char) :: px_G) (px_rj 2 0 0) (px_Pb g i vb [.ref vb, .int x]) (px_Si (px_sb i x.toNatClampNeg)) 0 0 (fun _ => False) := by
  refine px_ofW (cc := js_b_lchar) (maxL := 2) (ret := some .char) (plainFor_of_name (by decide +kernel)) rfl ?_
  intro p e s m args below meth c s₁ B hml hv
  obtain ⟨rfl, hK, hBy⟩ := hv
  have hx := B.exec
  have hb := B.bytes
  have hr := B.returns
  have hlocks := B.notSynchronized
  have hts := atoms_spec (ws := .code js_y_lchar js_b_lchar 2 (some .char) :: px_G) B.pre
  have hG : ∀ w ∈ px_G, w.before ([.ref vb, .int x] : List Value).toArray s = true := fun w h => hts w (List.mem_cons_of_mem _ h)
  have hown : s.vm.findClass "java/lang/StringLatin1" = some m.cls := findClass_of_methodNamed B.named
  have hS : va_S (fun q => g.1 ≤ q) s.heap s.heap [] := va_S.rf
  have hl := lv_entry [.ref vb, .int x] (n := 2) (by exact Nat.le_of_ble_eq_true rfl)
  rw [lg_entry_eq]
  generalize (lg_sl [.ref vb, .int x] ++ List.replicate (2 - (lg_sl [.ref vb, .int x]).length) Slot.unset).toArray = ls at hl ⊢
  have hl : lv_has ls 2 [(0, .ref vb), (1, .int x)] := hl
  have hml2 : c.maxLocals = ls.size := by rw [hml]; exact hl.1.symm
  obtain ⟨⟨hR1, hR2, ⟨adK, adV, hSt, hk0, hk1⟩, hZ1, hZ2⟩, hn⟩ := id hK
  refine lv_iload_n hx hb js_d_lchar_0 rfl (lv_at hl 1 rfl) ?_
  refine lv_aload_n hx hb js_d_lchar_1 rfl (lv_at hl 0 rfl) ?_
  refine va_tlen (v := nI (px_sn i)) hx hb hBy hS rfl js_d_lchar_2 ?_
  have h01 := vp_in_iff.mp hin
  have h0 : ¬ x < 0 := fun q => hin (Or.inl q)
  have h1 : x < nI (px_sn i) := Int32.lt_iff_toInt_lt.mpr (by rw [nI_toInt (px_sn_lt hi)]; exact h01.2)
  refine px_jv (as := [.int x, .int (nI (px_sn i))]) (rest := []) (px_js (y := js_y_chk) hx hb hml2 hown hG hK hS ⟨js_l_chk_9, js_s_chk, js_i_chk, js_c_chk, js_n_chk, by show _ = some 2; decide +kernel⟩ (js_chk l g x (nI (px_sn i)) h0 h1) ⟨by decide, by decide⟩ (Nat.le_of_ble_eq_true rfl) ⟨Nat.le_refl _, Nat.le_refl _⟩ js_d_lchar_3) ?_
  refine lv_aload_n hx hb js_d_lchar_6 rfl (lv_at hl 0 rfl) ?_
  refine lv_iload_n hx hb js_d_lchar_7 rfl (lv_at hl 1 rfl) ?_
  refine va_tb hx hb hBy hS hin rfl js_d_lchar_8 ?_
  refine lv_sipush (v := 255) hx hb js_d_lchar_9 (by decide +kernel) ?_
  refine lv_iand hx hb js_d_lchar_12 ?_
  have hj : x.toNatClampNeg < px_sn i := Nat.not_le.mp fun q => hin (Or.inr q)
  obtain ⟨e1, e2⟩ := px_sb_1 hi hj
  refine lv_i2c (v := px_sb i x.toNatClampNeg) hx hb js_d_lchar_13 e1 ?_
  exact W.zret hx hb hr e2 (fun t ht _ => ⟨rfl, ht⟩) (fun q h => by cases h) js_d_lchar_14 hlocks
set_option maxHeartbeats 4000000 in
set_option maxRecDepth 100000 in
theorem js_char (l : Launch) (g : px_g) (x : Int32) {i : Nat} (hi : i < 2) (hin : vp_in x (px_sn i)) : Met l js_y_char (.code js_y_char js_b_char 2 (some .char) :: px_G) (px_rj 3 0 0) (px_Pk g [.ref (px_sa g i), .int x]) (px_Si (px_sb i x.toNatClampNeg)) 0 0 (fun _ => False) := by
  refine px_ofW (cc := js_b_char) (maxL := 2) (ret := some .char) (plainFor_of_name (by decide +kernel)) rfl ?_
  intro p e s m args below meth c s₁ B hml hv
  obtain ⟨rfl, hK⟩ := hv
  have hx := B.exec
  have hb := B.bytes
  have hr := B.returns
  have hlocks := B.notSynchronized
  have hts := atoms_spec (ws := .code js_y_char js_b_char 2 (some .char) :: px_G) B.pre
  have hG : ∀ w ∈ px_G, w.before ([.ref (px_sa g i), .int x] : List Value).toArray s = true := fun w h => hts w (List.mem_cons_of_mem _ h)
  have hown : s.vm.findClass "java/lang/String" = some m.cls := findClass_of_methodNamed B.named
  have hS : va_S (fun q => g.1 ≤ q) s.heap s.heap [] := va_S.rf
  have hl := lv_entry [.ref (px_sa g i), .int x] (n := 2) (by exact Nat.le_of_ble_eq_true rfl)
  rw [lg_entry_eq]
  generalize (lg_sl [.ref (px_sa g i), .int x] ++ List.replicate (2 - (lg_sl [.ref (px_sa g i), .int x]).length) Slot.unset).toArray = ls at hl ⊢
  have hl : lv_has ls 2 [(0, .ref (px_sa g i)), (1, .int x)] := hl
  have hml2 : c.maxLocals = ls.size := by rw [hml]; exact hl.1.symm
  obtain ⟨⟨hR1, hR2, ⟨adK, adV, hSt, hk0, hk1⟩, hZ1, hZ2⟩, hn⟩ := id hK
  have hsa := px_sa_eq hk0 hk1 hi
  obtain ⟨hO, hCo, hVa, hBy⟩ := js_of hi hSt
  rw [← hsa] at hO hCo hVa
  refine lv_aload_n hx hb js_d_char_0 rfl (lv_at hl 0 rfl) ?_
  refine px_ji (as := [.ref (px_sa g i)]) (px_jvv (as := []) (y := js_y_lat) hx hb hml2 hown hG hK hS ⟨js_l_lat_492, js_m_lat, js_v_lat, js_i_lat, js_c_lat, js_n_lat, by decide +kernel⟩ (by obtain ⟨cell, q1, q2, q3, -⟩ := hO; exact ⟨cell, q1, q2, q3⟩) (js_lat l g hi) ⟨by decide, by decide⟩ (Nat.le_of_ble_eq_true rfl) ⟨Nat.le_refl _, Nat.le_refl _⟩ js_d_char_1) ?_
  refine lv_if_eq (tgt := 16) hx hb js_d_char_4 (by decide) (fun q => absurd q (by decide)) (fun _ => ?_)
  refine lv_aload_n hx hb js_d_char_7 rfl (lv_at hl 0 rfl) ?_
  refine vk_getf hx hb hVa hS hown (hG _ js_f_va) (fun _ h => h) js_d_char_8 ?_
  refine lv_iload_n hx hb js_d_char_11 rfl (lv_at hl 1 rfl) ?_
  refine px_ji (as := [.ref (adV i), .int x]) (rest := []) (px_jsb (i := i) (vb := adV i) (y := js_y_lchar) hx hb hml2 hown hG hK hBy hS ⟨js_l_lchar_495, js_s_lchar, js_i_lchar, js_c_lchar, js_n_lchar, by show _ = some 2; decide +kernel⟩ (js_lchar l g i (adV i) x hi hin) ⟨by decide, by decide⟩ (Nat.le_of_ble_eq_true rfl) ⟨Nat.le_refl _, Nat.le_refl _⟩ js_d_char_12) ?_
  have hj : x.toNatClampNeg < px_sn i := Nat.not_le.mp fun q => hin (Or.inr q)
  exact W.zret hx hb hr (px_sb_1 hi hj).2 (fun t ht _ => ⟨rfl, ht⟩) (fun q h => by cases h) js_d_char_15 hlocks
set_option maxHeartbeats 4000000 in
set_option maxRecDepth 100000 in
theorem js_enc1 (l : Launch) (g : px_g) (x : Int32)  : Met l js_y_enc (.code js_y_enc js_b_enc 1 (some .boolean) :: px_G) (px_rj 0 0 0) (px_Pk g [.int x]) (px_Si (if 0 ≤ x.toInt ∧ x.toInt ≤ 255 then 1 else 0)) 0 0 (fun _ => False) := by
  refine px_ofW (cc := js_b_enc) (maxL := 1) (ret := some .boolean) (plainFor_of_name (by decide +kernel)) rfl ?_
  intro p e s m args below meth c s₁ B hml hv
  obtain ⟨rfl, hK⟩ := hv
  have hx := B.exec
  have hb := B.bytes
  have hr := B.returns
  have hlocks := B.notSynchronized
  have hts := atoms_spec (ws := .code js_y_enc js_b_enc 1 (some .boolean) :: px_G) B.pre
  have hG : ∀ w ∈ px_G, w.before ([.int x] : List Value).toArray s = true := fun w h => hts w (List.mem_cons_of_mem _ h)
  have hown : s.vm.findClass "java/lang/StringLatin1" = some m.cls := findClass_of_methodNamed B.named
  have hS : va_S (fun q => g.1 ≤ q) s.heap s.heap [] := va_S.rf
  have hl := lv_entry [.int x] (n := 1) (by exact Nat.le_of_ble_eq_true rfl)
  rw [lg_entry_eq]
  generalize (lg_sl [.int x] ++ List.replicate (1 - (lg_sl [.int x]).length) Slot.unset).toArray = ls at hl ⊢
  have hl : lv_has ls 1 [(0, .int x)] := hl
  have hml2 : c.maxLocals = ls.size := by rw [hml]; exact hl.1.symm
  obtain ⟨⟨hR1, hR2, ⟨adK, adV, hSt, hk0, hk1⟩, hZ1, hZ2⟩, hn⟩ := id hK
  refine lv_iload_n hx hb js_d_enc_0 rfl (lv_at hl 0 rfl) ?_
  refine lv_if_lt (tgt := 15) hx hb js_d_enc_1 (by decide) (fun q => ?_) (fun q => ?_)
  · have hq : x.toInt < 0 := by have := Int32.lt_iff_toInt_lt.mp q; rw [Int32.toInt_zero] at this; exact this
    rw [if_neg (by omega)]
    refine lv_iconst (v := 0) hx hb js_d_enc_15 (by decide) ?_
    exact W.zret hx hb hr (by decide +kernel) (fun t ht _ => ⟨rfl, ht⟩) (fun q h => by cases h) js_d_enc_16 hlocks
  · have hq : ¬ x.toInt < 0 := fun z => q (Int32.lt_iff_toInt_lt.mpr (by rw [Int32.toInt_zero]; exact z))
    refine lv_iload_n hx hb js_d_enc_4 rfl (lv_at hl 0 rfl) ?_
    refine lv_sipush (v := 255) hx hb js_d_enc_5 (by decide +kernel) ?_
    refine lv_icmp_gt (tgt := 15) hx hb js_d_enc_8 (by decide) (fun q2 => ?_) (fun q2 => ?_)
    · have hq2 : (255 : Int) < x.toInt := Int32.lt_iff_toInt_lt.mp q2
      rw [if_neg (by omega)]
      refine lv_iconst (v := 0) hx hb js_d_enc_15 (by decide) ?_
      exact W.zret hx hb hr (by decide +kernel) (fun t ht _ => ⟨rfl, ht⟩) (fun q h => by cases h) js_d_enc_16 hlocks
    · have hq2 : ¬ (255 : Int) < x.toInt := fun z => q2 (Int32.lt_iff_toInt_lt.mpr z)
      rw [if_pos (by omega)]
      refine lv_iconst (v := 1) hx hb js_d_enc_11 (by decide) ?_
      refine lv_goto (tgt := 16) hx hb js_d_enc_12 (by decide) ?_
      exact W.zret hx hb hr (by decide +kernel) (fun t ht _ => ⟨rfl, ht⟩) (fun q h => by cases h) js_d_enc_16 hlocks
