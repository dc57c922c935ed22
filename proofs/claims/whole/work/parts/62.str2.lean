theorem js_of {g : px_g} {s : State} {adK adV : Nat → Nat} {i : Nat} (hi : i < 2) (hSt : vk_S 2 [px_words.length, px_signs.length] px_byt adK adV (fun q => g.1 ≤ q) s s.heap) : va_O "java/lang/String" (adK i) (fun q => g.1 ≤ q) s s.heap ∧ va_OF "java/lang/String" "coder" "B" (.int 0) (adK i) (fun q => g.1 ≤ q) s s.heap ∧ va_OF "java/lang/String" "value" "[B" (.ref (adV i)) (adK i) (fun q => g.1 ≤ q) s s.heap ∧ va_T .byte (adV i) ([px_words.length, px_signs.length].getD i 0) (fun j => .int ((px_byt.getD i []).getD j 0)) (fun q => g.1 ≤ q) s s.heap := hSt.1 i hi
def px_sa (g : px_g) (i : Nat) : Nat := if i = 0 then g.2.2.2.1 else g.2.2.2.2
theorem px_sa_eq {g : px_g} {adK : Nat → Nat} (h0 : adK 0 = g.2.2.2.1) (h1 : adK 1 = g.2.2.2.2) {i : Nat} (hi : i < 2) : px_sa g i = adK i := by
  rcases (show i = 0 ∨ i = 1 by omega) with rfl | rfl
  · exact h0.symm
  · exact h1.symm
def px_sn (i : Nat) : Nat := [px_words.length, px_signs.length].getD i 0
def px_sb (i j : Nat) : Int32 := (px_byt.getD i []).getD j 0
/-- a row of bytes is a text's -/
def px_by (g : px_g) (i v : Nat) (U : State) : Prop := va_T .byte v (px_sn i) (fun j => .int (px_sb i j)) (fun q => g.1 ≤ q) U U.heap
set_option maxHeartbeats 4000000 in
set_option maxRecDepth 100000 in
theorem js_coder (l : Launch) (g : px_g) {i : Nat} (hi : i < 2) : Met l js_y_coder (.code js_y_coder js_b_coder 1 (some .byte) :: px_G) (px_rj 0 0 0) (px_Pk g [.ref (px_sa g i)]) (px_Si 0) 0 0 (fun _ => False) := by
  refine px_ofW (cc := js_b_coder) (maxL := 1) (ret := some .byte) (plainFor_of_name (by decide +kernel)) rfl ?_
  intro p e s m args below meth c s₁ B hml hv
  obtain ⟨rfl, hK⟩ := hv
  have hx := B.exec
  have hb := B.bytes
  have hr := B.returns
  have hlocks := B.notSynchronized
  have hts := atoms_spec (ws := .code js_y_coder js_b_coder 1 (some .byte) :: px_G) B.pre
  have hG : ∀ w ∈ px_G, w.before ([.ref (px_sa g i)] : List Value).toArray s = true := fun w h => hts w (List.mem_cons_of_mem _ h)
  have hown : s.vm.findClass "java/lang/String" = some m.cls := findClass_of_methodNamed B.named
  have hS : va_S (fun q => g.1 ≤ q) s.heap s.heap [] := va_S.rf
  have hl := lv_entry [.ref (px_sa g i)] (n := 1) (by exact Nat.le_of_ble_eq_true rfl)
  rw [lg_entry_eq]
  generalize (lg_sl [.ref (px_sa g i)] ++ List.replicate (1 - (lg_sl [.ref (px_sa g i)]).length) Slot.unset).toArray = ls at hl ⊢
  have hl : lv_has ls 1 [(0, .ref (px_sa g i))] := hl
  have hml2 : c.maxLocals = ls.size := by rw [hml]; exact hl.1.symm
  obtain ⟨⟨hR1, hR2, ⟨adK, adV, hSt, hk0, hk1⟩, hZ1, hZ2⟩, hn⟩ := id hK
  have hsa := px_sa_eq hk0 hk1 hi
  obtain ⟨hO, hCo, hVa, hBy⟩ := js_of hi hSt
  rw [← hsa] at hO hCo hVa
  refine va_gets hx hb hZ1 hS hown (hG _ js_f_cs) (fun _ h => h) js_d_coder_0 ?_
  refine lv_if_eq (tgt := 13) hx hb js_d_coder_3 (by decide) (fun q => absurd q (by decide)) (fun _ => ?_)
  refine lv_aload_n hx hb js_d_coder_6 rfl (lv_at hl 0 rfl) ?_
  refine vk_getf hx hb hCo hS hown (hG _ js_f_co) (fun _ h => h) js_d_coder_7 ?_
  refine lv_goto (tgt := 14) hx hb js_d_coder_10 (by decide) ?_
  exact W.zret hx hb hr (by decide +kernel) (fun t ht _ => ⟨rfl, ht⟩) (fun q h => by cases h) js_d_coder_14 hlocks
set_option maxHeartbeats 4000000 in
set_option maxRecDepth 100000 in
theorem js_lat (l : Launch) (g : px_g) {i : Nat} (hi : i < 2) : Met l js_y_lat (.code js_y_lat js_b_lat 1 (some .boolean) :: px_G) (px_rj 0 0 0) (px_Pk g [.ref (px_sa g i)]) (px_Si 1) 0 0 (fun _ => False) := by
  refine px_ofW (cc := js_b_lat) (maxL := 1) (ret := some .boolean) (plainFor_of_name (by decide +kernel)) rfl ?_
  intro p e s m args below meth c s₁ B hml hv
  obtain ⟨rfl, hK⟩ := hv
  have hx := B.exec
  have hb := B.bytes
  have hr := B.returns
  have hlocks := B.notSynchronized
  have hts := atoms_spec (ws := .code js_y_lat js_b_lat 1 (some .boolean) :: px_G) B.pre
  have hG : ∀ w ∈ px_G, w.before ([.ref (px_sa g i)] : List Value).toArray s = true := fun w h => hts w (List.mem_cons_of_mem _ h)
  have hown : s.vm.findClass "java/lang/String" = some m.cls := findClass_of_methodNamed B.named
  have hS : va_S (fun q => g.1 ≤ q) s.heap s.heap [] := va_S.rf
  have hl := lv_entry [.ref (px_sa g i)] (n := 1) (by exact Nat.le_of_ble_eq_true rfl)
  rw [lg_entry_eq]
  generalize (lg_sl [.ref (px_sa g i)] ++ List.replicate (1 - (lg_sl [.ref (px_sa g i)]).length) Slot.unset).toArray = ls at hl ⊢
  have hl : lv_has ls 1 [(0, .ref (px_sa g i))] := hl
  have hml2 : c.maxLocals = ls.size := by rw [hml]; exact hl.1.symm
  obtain ⟨⟨hR1, hR2, ⟨adK, adV, hSt, hk0, hk1⟩, hZ1, hZ2⟩, hn⟩ := id hK
  have hsa := px_sa_eq hk0 hk1 hi
  obtain ⟨hO, hCo, hVa, hBy⟩ := js_of hi hSt
  rw [← hsa] at hO hCo hVa
  refine va_gets hx hb hZ1 hS hown (hG _ js_f_cs) (fun _ h => h) js_d_lat_0 ?_
  refine lv_if_eq (tgt := 17) hx hb js_d_lat_3 (by decide) (fun q => absurd q (by decide)) (fun _ => ?_)
  refine lv_aload_n hx hb js_d_lat_6 rfl (lv_at hl 0 rfl) ?_
  refine vk_getf hx hb hCo hS hown (hG _ js_f_co) (fun _ h => h) js_d_lat_7 ?_
  refine lv_if_ne (tgt := 17) hx hb js_d_lat_10 (by decide) (fun q => absurd rfl q) (fun _ => ?_)
  refine lv_iconst (v := 1) hx hb js_d_lat_13 (by decide) ?_
  refine lv_goto (tgt := 18) hx hb js_d_lat_14 (by decide) ?_
  exact W.zret hx hb hr (by decide +kernel) (fun t ht _ => ⟨rfl, ht⟩) (fun q h => by cases h) js_d_lat_18 hlocks
set_option maxHeartbeats 4000000 in
set_option maxRecDepth 100000 in
theorem js_len (l : Launch) (g : px_g) {i : Nat} (hi : i < 2) : Met l js_y_len (.code js_y_len js_b_len 1 (some .int) :: px_G) (px_rj 1 0 0) (px_Pk g [.ref (px_sa g i)]) (px_Si (nI (px_sn i))) 0 0 (fun _ => False) := by
  refine px_ofW (cc := js_b_len) (maxL := 1) (ret := some .int) (plainFor_of_name (by decide +kernel)) rfl ?_
  intro p e s m args below meth c s₁ B hml hv
  obtain ⟨rfl, hK⟩ := hv
  have hx := B.exec
  have hb := B.bytes
  have hr := B.returns
  have hlocks := B.notSynchronized
  have hts := atoms_spec (ws := .code js_y_len js_b_len 1 (some .int) :: px_G) B.pre
  have hG : ∀ w ∈ px_G, w.before ([.ref (px_sa g i)] : List Value).toArray s = true := fun w h => hts w (List.mem_cons_of_mem _ h)
  have hown : s.vm.findClass "java/lang/String" = some m.cls := findClass_of_methodNamed B.named
  have hS : va_S (fun q => g.1 ≤ q) s.heap s.heap [] := va_S.rf
  have hl := lv_entry [.ref (px_sa g i)] (n := 1) (by exact Nat.le_of_ble_eq_true rfl)
  rw [lg_entry_eq]
  generalize (lg_sl [.ref (px_sa g i)] ++ List.replicate (1 - (lg_sl [.ref (px_sa g i)]).length) Slot.unset).toArray = ls at hl ⊢
  have hl : lv_has ls 1 [(0, .ref (px_sa g i))] := hl
  have hml2 : c.maxLocals = ls.size := by rw [hml]; exact hl.1.symm
  obtain ⟨⟨hR1, hR2, ⟨adK, adV, hSt, hk0, hk1⟩, hZ1, hZ2⟩, hn⟩ := id hK
  have hsa := px_sa_eq hk0 hk1 hi
  obtain ⟨hO, hCo, hVa, hBy⟩ := js_of hi hSt
  rw [← hsa] at hO hCo hVa
  refine lv_aload_n hx hb js_d_len_0 rfl (lv_at hl 0 rfl) ?_
  refine vk_getf hx hb hVa hS hown (hG _ js_f_va) (fun _ h => h) js_d_len_1 ?_
  refine va_tlen (v := nI (px_sn i)) hx hb hBy hS rfl js_d_len_4 ?_
  refine lv_aload_n hx hb js_d_len_5 rfl (lv_at hl 0 rfl) ?_
  refine px_ji (as := [.ref (px_sa g i)]) (px_jvv (as := []) (y := js_y_coder) hx hb hml2 hown hG hK hS ⟨js_l_coder_335, js_m_coder, js_v_coder, js_i_coder, js_c_coder, js_n_coder, by decide +kernel⟩ (by obtain ⟨cell, q1, q2, q3, -⟩ := hO; exact ⟨cell, q1, q2, q3⟩) (js_coder l g hi) ⟨by decide, by decide⟩ (Nat.le_of_ble_eq_true rfl) ⟨Nat.le_refl _, Nat.le_refl _⟩ js_d_len_6) ?_
  refine lv_ishr hx hb js_d_len_9 ?_
  have he : nI (px_sn i) >>> ((0 : Int32) &&& 31) = nI (px_sn i) := by
    rcases (show i = 0 ∨ i = 1 by omega) with rfl | rfl <;> decide +kernel
  rw [he]
  exact W.iret hx hb hr (fun t ht _ => ⟨rfl, ht⟩) (fun q h => by cases h) js_d_len_10 hlocks
set_option maxHeartbeats 4000000 in
set_option maxRecDepth 100000 in
theorem js_pchk (l : Launch) (g : px_g) (x n : Int32) (vv : Value) (hvv : vv = .null ∨ ∃ t, vv = .ref t) (h0 : ¬ x < 0) (h1 : x < n) : Met l js_y_pchk (.code js_y_pchk js_b_pchk 3 (some .int) :: px_G) (px_rj 0 0 0) (px_Pk g [.int x, .int n, vv]) (px_Si x) 0 0 (fun _ => False) := by
  refine px_ofW (cc := js_b_pchk) (maxL := 3) (ret := some .int) (plainFor_of_name (by decide +kernel)) rfl ?_
  intro p e s m args below meth c s₁ B hml hv
  obtain ⟨rfl, hK⟩ := hv
  have hx := B.exec
  have hb := B.bytes
  have hr := B.returns
  have hlocks := B.notSynchronized
  have hts := atoms_spec (ws := .code js_y_pchk js_b_pchk 3 (some .int) :: px_G) B.pre
  have hG : ∀ w ∈ px_G, w.before ([.int x, .int n, vv] : List Value).toArray s = true := fun w h => hts w (List.mem_cons_of_mem _ h)
  have hown : s.vm.findClass "jdk/internal/util/Preconditions" = some m.cls := findClass_of_methodNamed B.named
  have hS : va_S (fun q => g.1 ≤ q) s.heap s.heap [] := va_S.rf
  have hl := lv_entry [.int x, .int n, vv] (n := 3) (by rcases hvv with rfl | ⟨t, rfl⟩ <;> exact Nat.le_of_ble_eq_true rfl)
  rw [lg_entry_eq]
  generalize (lg_sl [.int x, .int n, vv] ++ List.replicate (3 - (lg_sl [.int x, .int n, vv]).length) Slot.unset).toArray = ls at hl ⊢
  have hl : lv_has ls 3 [(0, .int x), (1, .int n), (2, vv)] := hl
  have hml2 : c.maxLocals = ls.size := by rw [hml]; exact hl.1.symm
  obtain ⟨⟨hR1, hR2, ⟨adK, adV, hSt, hk0, hk1⟩, hZ1, hZ2⟩, hn⟩ := id hK
  refine lv_iload_n hx hb js_d_pchk_0 rfl (lv_at hl 0 rfl) ?_
  refine lv_if_lt (tgt := 9) hx hb js_d_pchk_1 (by decide) (fun q => absurd q h0) (fun _ => ?_)
  refine lv_iload_n hx hb js_d_pchk_4 rfl (lv_at hl 0 rfl) ?_
  refine lv_iload_n hx hb js_d_pchk_5 rfl (lv_at hl 1 rfl) ?_
  refine lv_icmp_lt (tgt := 16) hx hb js_d_pchk_6 (by decide) (fun _ => ?_) (fun q => absurd h1 q)
  refine lv_iload_n hx hb js_d_pchk_16 rfl (lv_at hl 0 rfl) ?_
  exact W.iret hx hb hr (fun t ht _ => ⟨rfl, ht⟩) (fun q h => by cases h) js_d_pchk_17 hlocks
set_option maxHeartbeats 4000000 in
set_option maxRecDepth 100000 in
theorem js_chk (l : Launch) (g : px_g) (x n : Int32) (h0 : ¬ x < 0) (h1 : x < n) : Met l js_y_chk (.code js_y_chk js_b_chk 2 (none) :: px_G) (px_rj 1 0 0) (px_Pk g [.int x, .int n]) (px_Sv) 0 0 (fun _ => False) := by
  refine px_ofW (cc := js_b_chk) (maxL := 2) (ret := none) (plainFor_of_name (by decide +kernel)) rfl ?_
  intro p e s m args below meth c s₁ B hml hv
  obtain ⟨rfl, hK⟩ := hv
  have hx := B.exec
  have hb := B.bytes
  have hr := B.returns
  have hlocks := B.notSynchronized
  have hts := atoms_spec (ws := .code js_y_chk js_b_chk 2 (none) :: px_G) B.pre
  have hG : ∀ w ∈ px_G, w.before ([.int x, .int n] : List Value).toArray s = true := fun w h => hts w (List.mem_cons_of_mem _ h)
  have hown : s.vm.findClass "java/lang/String" = some m.cls := findClass_of_methodNamed B.named
  have hS : va_S (fun q => g.1 ≤ q) s.heap s.heap [] := va_S.rf
  have hl := lv_entry [.int x, .int n] (n := 2) (by exact Nat.le_of_ble_eq_true rfl)
  rw [lg_entry_eq]
  generalize (lg_sl [.int x, .int n] ++ List.replicate (2 - (lg_sl [.int x, .int n]).length) Slot.unset).toArray = ls at hl ⊢
  have hl : lv_has ls 2 [(0, .int x), (1, .int n)] := hl
  have hml2 : c.maxLocals = ls.size := by rw [hml]; exact hl.1.symm
  obtain ⟨⟨hR1, hR2, ⟨adK, adV, hSt, hk0, hk1⟩, hZ1, hZ2⟩, hn⟩ := id hK
  refine lv_iload_n hx hb js_d_chk_0 rfl (lv_at hl 0 rfl) ?_
  refine lv_iload_n hx hb js_d_chk_1 rfl (lv_at hl 1 rfl) ?_
  have key : ∀ vv : Value, (vv = .null ∨ ∃ t, vv = .ref t) → va_Z "jdk/internal/util/Preconditions" "SIOOBE_FORMATTER" "Ljava/util/function/BiFunction;" vv (fun q => g.1 ≤ q) s s.heap → W p l e (headSpec (.code js_y_chk js_b_chk 2 none :: px_G) (px_rj 1 0 0)).room s m ([.int x, .int n] : List Value).toArray below meth c s.heap [] 0 0 (MQ below px_Sv ([.int x, .int n] : List Value).toArray s 0 0 (fun _ => False)) (F0 m 2 ls [.int n, .int x]) := by
    intro vv hvv hZ
    refine va_gets hx hb hZ hS hown (hG _ js_f_si) (fun _ h => h) js_d_chk_2 ?_
    refine px_ji (as := [.int x, .int n, vv]) (rest := []) (px_js (y := js_y_pchk) hx hb hml2 hown hG hK hS ⟨js_l_pchk_1059, js_s_pchk, js_i_pchk, js_c_pchk, js_n_pchk, by show _ = some 3; decide +kernel⟩ (js_pchk l g x n vv hvv h0 h1) ⟨by decide, by decide⟩ (Nat.le_of_ble_eq_true rfl) ⟨Nat.le_refl _, Nat.le_refl _⟩ js_d_chk_5) ?_
    refine lv_pop hx hb js_d_chk_8 rfl ?_
    exact W.vret hx hb hr (fun t ht _ => ⟨rfl, ht⟩) (fun q h => by cases h) js_d_chk_9 hlocks
  rcases hZ2 with hZ | ⟨t, hZ⟩
  · exact key .null (Or.inl rfl) hZ
  · exact key (.ref t) (Or.inr ⟨t, rfl⟩) hZ
