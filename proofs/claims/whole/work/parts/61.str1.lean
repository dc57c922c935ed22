/-! TEXTS: the JDK's own methods on the two texts -/
def px_rj (d mc ms : Nat) : Room := { frames := d + 1, cells := mc, slots := ms, locals := 40 * (d + 1) }
def px_K (g : px_g) (U : State) : Prop := px_Tx g U ∧ g.1 ≤ U.heap.size
def px_Pk (g : px_g) (as : List Value) : Array Value → State → Prop := fun v U => v = as.toArray ∧ px_K g U
def px_Si (r : Int32) : Array Value → State → Outcome → State → Prop := fun _ st oc t => oc = .returned (some (.int r)) ∧ t.heap = st.heap
def px_Sv : Array Value → State → Outcome → State → Prop := fun _ st oc t => oc = .returned none ∧ t.heap = st.heap
theorem px_K_move {g : px_g} {s U : State} (h : px_K g s) (hW : s.WarmedH U.vm) (hh : ∀ q, q < g.1 → U.heap[q]? = s.heap[q]?) (hz : g.1 ≤ U.heap.size) : px_K g U := by
  obtain ⟨⟨t1, t2, ⟨adK, adV, t3, t4⟩, t5, t6⟩, hn⟩ := h
  have hk : ∀ a : Nat, a < s.heap.size → ¬ g.1 ≤ a → U.heap[a]? = s.heap[a]? := fun a _ ha => hh a (by omega)
  exact ⟨⟨t1.warm hW, t2.warm hW, ⟨adK, adV, (t3.moved hW.alike).kept hk, t4⟩, (t5.moved hW.alike).kept hk, (t6.moved hW.alike).kept hk⟩, hz⟩
theorem px_K_call {g : px_g} {U : State} {fr : JFrame} {mk : MethodId} {a : Array Value} (h : px_K g U) : px_K g (U.calling fr mk a) := by
  obtain ⟨⟨t1, t2, ⟨adK, adV, t3, t4⟩, t5, t6⟩, hn⟩ := h
  exact ⟨⟨vk_R.same (u := U) rfl t1, vk_R.same (u := U) rfl t2, ⟨adK, adV, vk_S.moved (u := U) (U := U.calling fr mk a) (Vm.Alike.refl U.vm) t3, t4⟩, va_Z.moved (u := U) (U := U.calling fr mk a) (Vm.Alike.refl U.vm) t5, va_Zq.moved (u := U) (U := U.calling fr mk a) (Vm.Alike.refl U.vm) t6⟩, hn⟩
theorem px_Pk_blind {g : px_g} {as : List Value} : FrameBlind (px_Pk g as) := fun _ _ _ _ h => ⟨h.1, px_K_call h.2⟩
section PXJ
variable {p : Program} {l : Launch} {e : Env} {R : Room} {s : State} {m : MethodId} {args : Array Value} {below : List Frame} {meth : Method} {c : Code} {H : Heap} {locs : List Loc} {cells slots : Nat} {Q : State → Prop}
variable {cc : ByteArray} {pc ix : Nat} {ls : Array Slot} {rest as : List Value} {g : px_g} {own : String} {y : MethodName} {B : ByteArray} {L d : Nat} {rt : Option FieldType} {Qc : Array Value → State → Outcome → State → Prop}
theorem px_ji {r : Int32} (hr : va_Run p l e R s m args below meth c H locs cells slots 0 0 (F0 m pc ls (as.reverse ++ rest)) rest (px_Si r as.toArray) (fun _ => False)) (kk : W p l e R s m args below meth c H locs cells slots Q (F0 m (pc + 3) ls (.int r :: rest))) : W p l e R s m args below meth c H locs cells slots Q (F0 m pc ls (as.reverse ++ rest)) := by
  intro T hT X
  obtain ⟨v, st0, t, T', L, h0, X', hL, e1, e2, ⟨hv, hh⟩, st⟩ := hr T hT X
  cases hv
  have hl : L = [] := by
    cases L with
    | nil => rfl
    | cons q t => exact (hL q List.mem_cons_self).elim
  subst hl
  rw [List.append_nil] at X'
  obtain ⟨t2, a1, b1⟩ := kk T' (by rw [e1, hh, h0]) X'
  exact ⟨t2, st t2 a1, b1⟩
theorem px_jv (hr : va_Run p l e R s m args below meth c H locs cells slots 0 0 (F0 m pc ls (as.reverse ++ rest)) rest (px_Sv as.toArray) (fun _ => False)) (kk : W p l e R s m args below meth c H locs cells slots Q (F0 m (pc + 3) ls rest)) : W p l e R s m args below meth c H locs cells slots Q (F0 m pc ls (as.reverse ++ rest)) := by
  intro T hT X
  obtain ⟨v, st0, t, T', L, h0, X', hL, e1, e2, ⟨hv, hh⟩, st⟩ := hr T hT X
  cases hv
  have hl : L = [] := by
    cases L with
    | nil => rfl
    | cons q t => exact (hL q List.mem_cons_self).elim
  subst hl
  rw [List.append_nil] at X'
  obtain ⟨t2, a1, b1⟩ := kk T' (by rw [e1, hh, h0]) X'
  exact ⟨t2, st t2 a1, b1⟩
theorem px_js (hx : p.tables.exec = Jvm.exec) (hb : c.code = cc) (hml : c.maxLocals = ls.size) (hown : s.vm.findClass own = some m.cls) (hG : ∀ w ∈ px_G, w.before args s = true) (hK : px_K g s) (hS : va_S (fun q => g.1 ≤ q) s.heap H locs)
    (w : Cond.methodLink own ix y ∈ px_G ∧ Cond.static y ∈ px_G ∧ Cond.initialized y.cls ∈ px_G ∧ Cond.code y B L rt ∈ px_G ∧ (y.cls ≠ "java/lang/invoke/MethodHandle" ∧ y.cls ≠ "java/lang/invoke/VarHandle") ∧ (parseMethodDescriptor y.desc).map (fun d => d.parameters.length) = some as.length)
    (hM : Met l y (.code y B L rt :: px_G) (px_rj d 0 0) (px_Pk g as) Qc 0 0 (fun _ => False)) (hR : d + 2 ≤ R.frames ∧ 8 + (L + 11) + 40 * (d + 1) ≤ R.locals) (hcat : (rest.map fun v => v.category).sum ≤ 8) (hroom : cells ≤ R.cells ∧ slots ≤ R.slots) (hdc : decode cc pc = .ok (.invokestatic ix, 3)) :
    va_Run p l e R s m args below meth c H locs cells slots 0 0 (F0 m pc ls (as.reverse ++ rest)) rest (Qc as.toArray) (fun _ => False) := by
  obtain ⟨w1, w2, w3, w4, hne, hpar⟩ := w
  have hw : ∀ w ∈ (Cond.code y B L rt :: px_G), w ∈ px_G := fun w h => by
    rcases List.mem_cons.mp h with rfl | h
    · exact w4
    · exact h
  refine va_runS (nL := ls.size) (Ts := px_G) ⟨hx, hb, hml, hown, hG⟩ hM ⟨⟨rfl, rfl, by show d + 1 + 1 ≤ _; omega, by show 8 + (L + 11) + 40 * (d + 1) ≤ _; omega, px_wok hG hw, List.mem_cons_self, hG _ w4, hG _ w3, hne, fun sig h => ?_, hG _ w1⟩, hG _ w2⟩ ⟨px_Pk_blind, fun U hU hW => ⟨rfl, px_K_move hK hW (fun q hq => ?_) ?_⟩⟩ rfl rfl rfl rfl (by show 2 * 0 + _ ≤ 8; omega) hdc ⟨by omega, by omega⟩
  · rw [h] at hpar
    exact (Option.some.inj hpar).symm
  · rw [hU]
    exact hS.2.1 q (Nat.lt_of_lt_of_le hq hK.2) (Nat.not_le.mpr hq)
  · rw [hU]
    exact Nat.le_trans hK.2 hS.1
theorem px_jvv {b : Nat} {as : List Value} (hx : p.tables.exec = Jvm.exec) (hb : c.code = cc) (hml : c.maxLocals = ls.size) (hown : s.vm.findClass own = some m.cls) (hG : ∀ w ∈ px_G, w.before args s = true) (hK : px_K g s) (hS : va_S (fun q => g.1 ≤ q) s.heap H locs)
    (w : Cond.methodLink own ix y ∈ px_G ∧ Cond.instanceMethod y ∈ px_G ∧ Cond.selects y.cls y y ∈ px_G ∧ Cond.initialized y.cls ∈ px_G ∧ Cond.code y B L rt ∈ px_G ∧ (y.cls ≠ "java/lang/invoke/MethodHandle" ∧ y.cls ≠ "java/lang/invoke/VarHandle") ∧ (parseMethodDescriptor y.desc).map (fun d => d.parameters.length) = some as.length)
    (hrec : ∃ cell : Cell, H[b]? = some cell ∧ cell.vm.isStatics = false ∧ s.vm.findClass y.cls = some cell.cls)
    (hM : Met l y (.code y B L rt :: px_G) (px_rj d 0 0) (px_Pk g (.ref b :: as)) Qc 0 0 (fun _ => False)) (hR : d + 2 ≤ R.frames ∧ 8 + (L + 11) + 40 * (d + 1) ≤ R.locals) (hcat : (rest.map fun v => v.category).sum ≤ 8) (hroom : cells ≤ R.cells ∧ slots ≤ R.slots) (hdc : decode cc pc = .ok (.invokevirtual ix, 3)) :
    va_Run p l e R s m args below meth c H locs cells slots 0 0 (F0 m pc ls ((.ref b :: as).reverse ++ rest)) rest (Qc (.ref b :: as).toArray) (fun _ => False) := by
  obtain ⟨w1, w2, w5, w3, w4, hne, hpar⟩ := w
  have hw : ∀ w ∈ (Cond.code y B L rt :: px_G), w ∈ px_G := fun w h => by
    rcases List.mem_cons.mp h with rfl | h
    · exact w4
    · exact h
  refine va_runV (nL := ls.size) (Ts := px_G) ⟨hx, hb, hml, hown, hG⟩ hM ⟨⟨rfl, rfl, by show d + 1 + 1 ≤ _; omega, by show 8 + (L + 11) + 40 * (d + 1) ≤ _; omega, px_wok hG hw, List.mem_cons_self, hG _ w4, hG _ w3, hne, fun sig h => ?_, hG _ w1⟩, hG _ w2, hG _ w5⟩ ⟨px_Pk_blind, hrec, fun U hU hW => ⟨rfl, px_K_move hK hW (fun q hq => ?_) ?_⟩⟩ rfl rfl rfl (by simp) (by show 2 * 0 + _ ≤ 8; omega) hdc ⟨by omega, by omega⟩
  · rw [h] at hpar
    exact (Option.some.inj hpar).symm
  · rw [hU]
    exact hS.2.1 q (Nat.lt_of_lt_of_le hq hK.2) (Nat.not_le.mpr hq)
  · rw [hU]
    exact Nat.le_trans hK.2 hS.1
end PXJ

def js_y_coder : MethodName := ⟨"java/lang/String", "coder", "()B"⟩
abbrev js_b_coder : ByteArray := prog_17_method_152_code
set_option maxRecDepth 100000 in
theorem js_c_coder : Cond.code js_y_coder js_b_coder 1 (some .byte) ∈ px_G := List.mem_filter.mpr ⟨px_lk2_in (w := 3076) rfl, rfl⟩
set_option maxRecDepth 100000 in
theorem js_i_coder : Cond.initialized js_y_coder.cls ∈ px_G := px_in (w := 1014) (by decide +kernel)
set_option maxRecDepth 100000 in
theorem js_m_coder : Cond.instanceMethod js_y_coder ∈ px_G := px_in (w := 3074) (by decide +kernel)
set_option maxRecDepth 100000 in
theorem js_v_coder : Cond.selects js_y_coder.cls js_y_coder js_y_coder ∈ px_G := px_in (w := 3075) (by decide +kernel)
set_option maxRecDepth 100000 in
theorem js_l_coder_335 : Cond.methodLink "java/lang/String" 335 js_y_coder ∈ px_G := px_in (w := 3073) (by decide +kernel)
theorem js_d_coder_0 : decode js_b_coder 0 = .ok (.getstatic 38, 3) := by decide +kernel
theorem js_d_coder_3 : decode js_b_coder 3 = .ok (.ifCond .eq 10, 3) := by decide +kernel
theorem js_d_coder_6 : decode js_b_coder 6 = .ok (.aload_n 0, 1) := by decide +kernel
theorem js_d_coder_7 : decode js_b_coder 7 = .ok (.getfield 15, 3) := by decide +kernel
theorem js_d_coder_10 : decode js_b_coder 10 = .ok (.goto 4, 3) := by decide +kernel
theorem js_d_coder_13 : decode js_b_coder 13 = .ok (.iconst 1, 1) := by decide +kernel
theorem js_d_coder_14 : decode js_b_coder 14 = .ok (.ireturn, 1) := by decide +kernel
theorem js_n_coder : (js_y_coder.cls ≠ "java/lang/invoke/MethodHandle" ∧ js_y_coder.cls ≠ "java/lang/invoke/VarHandle") := by decide +kernel
def js_y_lat : MethodName := ⟨"java/lang/String", "isLatin1", "()Z"⟩
abbrev js_b_lat : ByteArray := prog_17_method_154_code
set_option maxRecDepth 100000 in
theorem js_c_lat : Cond.code js_y_lat js_b_lat 1 (some .boolean) ∈ px_G := List.mem_filter.mpr ⟨px_lk2_in (w := 3086) rfl, rfl⟩
set_option maxRecDepth 100000 in
theorem js_i_lat : Cond.initialized js_y_lat.cls ∈ px_G := px_in (w := 1014) (by decide +kernel)
set_option maxRecDepth 100000 in
theorem js_m_lat : Cond.instanceMethod js_y_lat ∈ px_G := px_in (w := 3084) (by decide +kernel)
set_option maxRecDepth 100000 in
theorem js_v_lat : Cond.selects js_y_lat.cls js_y_lat js_y_lat ∈ px_G := px_in (w := 3085) (by decide +kernel)
set_option maxRecDepth 100000 in
theorem js_l_lat_492 : Cond.methodLink "java/lang/String" 492 js_y_lat ∈ px_G := px_in (w := 3083) (by decide +kernel)
theorem js_d_lat_0 : decode js_b_lat 0 = .ok (.getstatic 38, 3) := by decide +kernel
theorem js_d_lat_3 : decode js_b_lat 3 = .ok (.ifCond .eq 14, 3) := by decide +kernel
theorem js_d_lat_6 : decode js_b_lat 6 = .ok (.aload_n 0, 1) := by decide +kernel
theorem js_d_lat_7 : decode js_b_lat 7 = .ok (.getfield 15, 3) := by decide +kernel
theorem js_d_lat_10 : decode js_b_lat 10 = .ok (.ifCond .ne 7, 3) := by decide +kernel
theorem js_d_lat_13 : decode js_b_lat 13 = .ok (.iconst 1, 1) := by decide +kernel
theorem js_d_lat_14 : decode js_b_lat 14 = .ok (.goto 4, 3) := by decide +kernel
theorem js_d_lat_17 : decode js_b_lat 17 = .ok (.iconst 0, 1) := by decide +kernel
theorem js_d_lat_18 : decode js_b_lat 18 = .ok (.ireturn, 1) := by decide +kernel
theorem js_n_lat : (js_y_lat.cls ≠ "java/lang/invoke/MethodHandle" ∧ js_y_lat.cls ≠ "java/lang/invoke/VarHandle") := by decide +kernel
def js_y_len : MethodName := ⟨"java/lang/String", "length", "()I"⟩
abbrev js_b_len : ByteArray := prog_17_method_54_code
set_option maxRecDepth 100000 in
theorem js_c_len : Cond.code js_y_len js_b_len 1 (some .int) ∈ px_G := List.mem_filter.mpr ⟨px_lk2_in (w := 3072) rfl, rfl⟩
set_option maxRecDepth 100000 in
theorem js_i_len : Cond.initialized js_y_len.cls ∈ px_G := px_in (w := 1014) (by decide +kernel)
set_option maxRecDepth 100000 in
theorem js_m_len : Cond.instanceMethod js_y_len ∈ px_G := px_in (w := 3070) (by decide +kernel)
set_option maxRecDepth 100000 in
theorem js_v_len : Cond.selects js_y_len.cls js_y_len js_y_len ∈ px_G := px_in (w := 3071) (by decide +kernel)
set_option maxRecDepth 100000 in
theorem js_l_len_86 : Cond.methodLink "RansomPieces$Reader" 86 js_y_len ∈ px_G := px_in (w := 3069) (by decide +kernel)
set_option maxRecDepth 100000 in
theorem js_l_len_505 : Cond.methodLink "java/lang/String" 505 js_y_len ∈ px_G := px_in (w := 3130) (by decide +kernel)
theorem js_d_len_0 : decode js_b_len 0 = .ok (.aload_n 0, 1) := by decide +kernel
theorem js_d_len_1 : decode js_b_len 1 = .ok (.getfield 9, 3) := by decide +kernel
theorem js_d_len_4 : decode js_b_len 4 = .ok (.arraylength, 1) := by decide +kernel
theorem js_d_len_5 : decode js_b_len 5 = .ok (.aload_n 0, 1) := by decide +kernel
theorem js_d_len_6 : decode js_b_len 6 = .ok (.invokevirtual 335, 3) := by decide +kernel
theorem js_d_len_9 : decode js_b_len 9 = .ok (.ishr, 1) := by decide +kernel
theorem js_d_len_10 : decode js_b_len 10 = .ok (.ireturn, 1) := by decide +kernel
theorem js_n_len : (js_y_len.cls ≠ "java/lang/invoke/MethodHandle" ∧ js_y_len.cls ≠ "java/lang/invoke/VarHandle") := by decide +kernel
def js_y_pchk : MethodName := ⟨"jdk/internal/util/Preconditions", "checkIndex", "(IILjava/util/function/BiFunction;)I"⟩
abbrev js_b_pchk : ByteArray := prog_22_method_11_code
set_option maxRecDepth 100000 in
theorem js_c_pchk : Cond.code js_y_pchk js_b_pchk 3 (some .int) ∈ px_G := List.mem_filter.mpr ⟨px_lk2_in (w := 3097) rfl, rfl⟩
set_option maxRecDepth 100000 in
theorem js_i_pchk : Cond.initialized js_y_pchk.cls ∈ px_G := px_in (w := 1016) (by decide +kernel)
set_option maxRecDepth 100000 in
theorem js_s_pchk : Cond.static js_y_pchk ∈ px_G := px_in (w := 3096) (by decide +kernel)
set_option maxRecDepth 100000 in
theorem js_l_pchk_1059 : Cond.methodLink "java/lang/String" 1059 js_y_pchk ∈ px_G := px_in (w := 3095) (by decide +kernel)
theorem js_d_pchk_0 : decode js_b_pchk 0 = .ok (.iload_n 0, 1) := by decide +kernel
theorem js_d_pchk_1 : decode js_b_pchk 1 = .ok (.ifCond .lt 8, 3) := by decide +kernel
theorem js_d_pchk_4 : decode js_b_pchk 4 = .ok (.iload_n 0, 1) := by decide +kernel
theorem js_d_pchk_5 : decode js_b_pchk 5 = .ok (.iload_n 1, 1) := by decide +kernel
theorem js_d_pchk_6 : decode js_b_pchk 6 = .ok (.if_icmp .lt 10, 3) := by decide +kernel
theorem js_d_pchk_9 : decode js_b_pchk 9 = .ok (.aload_n 2, 1) := by decide +kernel
theorem js_d_pchk_10 : decode js_b_pchk 10 = .ok (.iload_n 0, 1) := by decide +kernel
theorem js_d_pchk_11 : decode js_b_pchk 11 = .ok (.iload_n 1, 1) := by decide +kernel
theorem js_d_pchk_12 : decode js_b_pchk 12 = .ok (.invokestatic 95, 3) := by decide +kernel
theorem js_d_pchk_15 : decode js_b_pchk 15 = .ok (.athrow, 1) := by decide +kernel
theorem js_d_pchk_16 : decode js_b_pchk 16 = .ok (.iload_n 0, 1) := by decide +kernel
theorem js_d_pchk_17 : decode js_b_pchk 17 = .ok (.ireturn, 1) := by decide +kernel
theorem js_n_pchk : (js_y_pchk.cls ≠ "java/lang/invoke/MethodHandle" ∧ js_y_pchk.cls ≠ "java/lang/invoke/VarHandle") := by decide +kernel
def js_y_chk : MethodName := ⟨"java/lang/String", "checkIndex", "(II)V"⟩
abbrev js_b_chk : ByteArray := prog_17_method_155_code
set_option maxRecDepth 100000 in
theorem js_c_chk : Cond.code js_y_chk js_b_chk 2 (none) ∈ px_G := List.mem_filter.mpr ⟨px_lk2_in (w := 3092) rfl, rfl⟩
set_option maxRecDepth 100000 in
theorem js_i_chk : Cond.initialized js_y_chk.cls ∈ px_G := px_in (w := 1014) (by decide +kernel)
set_option maxRecDepth 100000 in
theorem js_s_chk : Cond.static js_y_chk ∈ px_G := px_in (w := 3091) (by decide +kernel)
set_option maxRecDepth 100000 in
theorem js_l_chk_9 : Cond.methodLink "java/lang/StringLatin1" 9 js_y_chk ∈ px_G := px_in (w := 3090) (by decide +kernel)
theorem js_d_chk_0 : decode js_b_chk 0 = .ok (.iload_n 0, 1) := by decide +kernel
theorem js_d_chk_1 : decode js_b_chk 1 = .ok (.iload_n 1, 1) := by decide +kernel
theorem js_d_chk_2 : decode js_b_chk 2 = .ok (.getstatic 1053, 3) := by decide +kernel
theorem js_d_chk_5 : decode js_b_chk 5 = .ok (.invokestatic 1059, 3) := by decide +kernel
theorem js_d_chk_8 : decode js_b_chk 8 = .ok (.pop, 1) := by decide +kernel
theorem js_d_chk_9 : decode js_b_chk 9 = .ok (.return_, 1) := by decide +kernel
theorem js_n_chk : (js_y_chk.cls ≠ "java/lang/invoke/MethodHandle" ∧ js_y_chk.cls ≠ "java/lang/invoke/VarHandle") := by decide +kernel
def js_y_lchar : MethodName := ⟨"java/lang/StringLatin1", "charAt", "([BI)C"⟩
abbrev js_b_lchar : ByteArray := prog_18_method_2_code
set_option maxRecDepth 100000 in
theorem js_c_lchar : Cond.code js_y_lchar js_b_lchar 2 (some .char) ∈ px_G := List.mem_filter.mpr ⟨px_lk2_in (w := 3089) rfl, rfl⟩
set_option maxRecDepth 100000 in
theorem js_i_lchar : Cond.initialized js_y_lchar.cls ∈ px_G := px_in (w := 1015) (by decide +kernel)
set_option maxRecDepth 100000 in
theorem js_s_lchar : Cond.static js_y_lchar ∈ px_G := px_in (w := 3088) (by decide +kernel)
set_option maxRecDepth 100000 in
theorem js_l_lchar_495 : Cond.methodLink "java/lang/String" 495 js_y_lchar ∈ px_G := px_in (w := 3087) (by decide +kernel)
theorem js_d_lchar_0 : decode js_b_lchar 0 = .ok (.iload_n 1, 1) := by decide +kernel
theorem js_d_lchar_1 : decode js_b_lchar 1 = .ok (.aload_n 0, 1) := by decide +kernel
theorem js_d_lchar_2 : decode js_b_lchar 2 = .ok (.arraylength, 1) := by decide +kernel
theorem js_d_lchar_3 : decode js_b_lchar 3 = .ok (.invokestatic 9, 3) := by decide +kernel
theorem js_d_lchar_6 : decode js_b_lchar 6 = .ok (.aload_n 0, 1) := by decide +kernel
theorem js_d_lchar_7 : decode js_b_lchar 7 = .ok (.iload_n 1, 1) := by decide +kernel
theorem js_d_lchar_8 : decode js_b_lchar 8 = .ok (.baload, 1) := by decide +kernel
theorem js_d_lchar_9 : decode js_b_lchar 9 = .ok (.sipush 255, 3) := by decide +kernel
theorem js_d_lchar_12 : decode js_b_lchar 12 = .ok (.iand, 1) := by decide +kernel
theorem js_d_lchar_13 : decode js_b_lchar 13 = .ok (.i2c, 1) := by decide +kernel
theorem js_d_lchar_14 : decode js_b_lchar 14 = .ok (.ireturn, 1) := by decide +kernel
theorem js_n_lchar : (js_y_lchar.cls ≠ "java/lang/invoke/MethodHandle" ∧ js_y_lchar.cls ≠ "java/lang/invoke/VarHandle") := by decide +kernel
def js_y_char : MethodName := ⟨"java/lang/String", "charAt", "(I)C"⟩
abbrev js_b_char : ByteArray := prog_17_method_56_code
set_option maxRecDepth 100000 in
theorem js_c_char : Cond.code js_y_char js_b_char 2 (some .char) ∈ px_G := List.mem_filter.mpr ⟨px_lk2_in (w := 3082) rfl, rfl⟩
set_option maxRecDepth 100000 in
theorem js_i_char : Cond.initialized js_y_char.cls ∈ px_G := px_in (w := 1014) (by decide +kernel)
set_option maxRecDepth 100000 in
theorem js_m_char : Cond.instanceMethod js_y_char ∈ px_G := px_in (w := 3080) (by decide +kernel)
set_option maxRecDepth 100000 in
theorem js_v_char : Cond.selects js_y_char.cls js_y_char js_y_char ∈ px_G := px_in (w := 3081) (by decide +kernel)
set_option maxRecDepth 100000 in
theorem js_l_char_90 : Cond.methodLink "RansomPieces$Reader" 90 js_y_char ∈ px_G := px_in (w := 3079) (by decide +kernel)
theorem js_d_char_0 : decode js_b_char 0 = .ok (.aload_n 0, 1) := by decide +kernel
theorem js_d_char_1 : decode js_b_char 1 = .ok (.invokevirtual 492, 3) := by decide +kernel
theorem js_d_char_4 : decode js_b_char 4 = .ok (.ifCond .eq 12, 3) := by decide +kernel
theorem js_d_char_7 : decode js_b_char 7 = .ok (.aload_n 0, 1) := by decide +kernel
theorem js_d_char_8 : decode js_b_char 8 = .ok (.getfield 9, 3) := by decide +kernel
theorem js_d_char_11 : decode js_b_char 11 = .ok (.iload_n 1, 1) := by decide +kernel
theorem js_d_char_12 : decode js_b_char 12 = .ok (.invokestatic 495, 3) := by decide +kernel
theorem js_d_char_15 : decode js_b_char 15 = .ok (.ireturn, 1) := by decide +kernel
theorem js_d_char_16 : decode js_b_char 16 = .ok (.aload_n 0, 1) := by decide +kernel
theorem js_d_char_17 : decode js_b_char 17 = .ok (.getfield 9, 3) := by decide +kernel
theorem js_d_char_20 : decode js_b_char 20 = .ok (.iload_n 1, 1) := by decide +kernel
theorem js_d_char_21 : decode js_b_char 21 = .ok (.invokestatic 498, 3) := by decide +kernel
theorem js_d_char_24 : decode js_b_char 24 = .ok (.ireturn, 1) := by decide +kernel
theorem js_n_char : (js_y_char.cls ≠ "java/lang/invoke/MethodHandle" ∧ js_y_char.cls ≠ "java/lang/invoke/VarHandle") := by decide +kernel
def js_y_enc : MethodName := ⟨"java/lang/StringLatin1", "canEncode", "(I)Z"⟩
abbrev js_b_enc : ByteArray := prog_18_method_4_code
set_option maxRecDepth 100000 in
theorem js_c_enc : Cond.code js_y_enc js_b_enc 1 (some .boolean) ∈ px_G := List.mem_filter.mpr ⟨px_lk2_in (w := 3136) rfl, rfl⟩
set_option maxRecDepth 100000 in
theorem js_i_enc : Cond.initialized js_y_enc.cls ∈ px_G := px_in (w := 1015) (by decide +kernel)
set_option maxRecDepth 100000 in
theorem js_s_enc : Cond.static js_y_enc ∈ px_G := px_in (w := 3135) (by decide +kernel)
set_option maxRecDepth 100000 in
theorem js_l_enc_88 : Cond.methodLink "java/lang/StringLatin1" 88 js_y_enc ∈ px_G := px_in (w := 3134) (by decide +kernel)
theorem js_d_enc_0 : decode js_b_enc 0 = .ok (.iload_n 0, 1) := by decide +kernel
theorem js_d_enc_1 : decode js_b_enc 1 = .ok (.ifCond .lt 14, 3) := by decide +kernel
theorem js_d_enc_4 : decode js_b_enc 4 = .ok (.iload_n 0, 1) := by decide +kernel
theorem js_d_enc_5 : decode js_b_enc 5 = .ok (.sipush 255, 3) := by decide +kernel
theorem js_d_enc_8 : decode js_b_enc 8 = .ok (.if_icmp .gt 7, 3) := by decide +kernel
theorem js_d_enc_11 : decode js_b_enc 11 = .ok (.iconst 1, 1) := by decide +kernel
theorem js_d_enc_12 : decode js_b_enc 12 = .ok (.goto 4, 3) := by decide +kernel
theorem js_d_enc_15 : decode js_b_enc 15 = .ok (.iconst 0, 1) := by decide +kernel
theorem js_d_enc_16 : decode js_b_enc 16 = .ok (.ireturn, 1) := by decide +kernel
theorem js_n_enc : (js_y_enc.cls ≠ "java/lang/invoke/MethodHandle" ∧ js_y_enc.cls ≠ "java/lang/invoke/VarHandle") := by decide +kernel
def js_y_ichr : MethodName := ⟨"java/lang/StringLatin1", "indexOfChar", "([BIII)I"⟩
abbrev js_b_ichr : ByteArray := prog_18_method_23_code
set_option maxRecDepth 100000 in
theorem js_c_ichr : Cond.code js_y_ichr js_b_ichr 6 (some .int) ∈ px_G := List.mem_filter.mpr ⟨px_lk2_in (w := 3145) rfl, rfl⟩
set_option maxRecDepth 100000 in
theorem js_i_ichr : Cond.initialized js_y_ichr.cls ∈ px_G := px_in (w := 1015) (by decide +kernel)
set_option maxRecDepth 100000 in
theorem js_s_ichr : Cond.static js_y_ichr ∈ px_G := px_in (w := 3144) (by decide +kernel)
set_option maxRecDepth 100000 in
theorem js_l_ichr_95 : Cond.methodLink "java/lang/StringLatin1" 95 js_y_ichr ∈ px_G := px_in (w := 3143) (by decide +kernel)
theorem js_d_ichr_0 : decode js_b_ichr 0 = .ok (.iload_n 1, 1) := by decide +kernel
theorem js_d_ichr_1 : decode js_b_ichr 1 = .ok (.i2b, 1) := by decide +kernel
theorem js_d_ichr_2 : decode js_b_ichr 2 = .ok (.istore 4, 2) := by decide +kernel
theorem js_d_ichr_4 : decode js_b_ichr 4 = .ok (.iload_n 2, 1) := by decide +kernel
theorem js_d_ichr_5 : decode js_b_ichr 5 = .ok (.istore 5, 2) := by decide +kernel
theorem js_d_ichr_7 : decode js_b_ichr 7 = .ok (.iload 5, 2) := by decide +kernel
theorem js_d_ichr_9 : decode js_b_ichr 9 = .ok (.iload_n 3, 1) := by decide +kernel
theorem js_d_ichr_10 : decode js_b_ichr 10 = .ok (.if_icmp .ge 21, 3) := by decide +kernel
theorem js_d_ichr_13 : decode js_b_ichr 13 = .ok (.aload_n 0, 1) := by decide +kernel
theorem js_d_ichr_14 : decode js_b_ichr 14 = .ok (.iload 5, 2) := by decide +kernel
theorem js_d_ichr_16 : decode js_b_ichr 16 = .ok (.baload, 1) := by decide +kernel
theorem js_d_ichr_17 : decode js_b_ichr 17 = .ok (.iload 4, 2) := by decide +kernel
theorem js_d_ichr_19 : decode js_b_ichr 19 = .ok (.if_icmp .ne 6, 3) := by decide +kernel
theorem js_d_ichr_22 : decode js_b_ichr 22 = .ok (.iload 5, 2) := by decide +kernel
theorem js_d_ichr_24 : decode js_b_ichr 24 = .ok (.ireturn, 1) := by decide +kernel
theorem js_d_ichr_25 : decode js_b_ichr 25 = .ok (.iinc 5 1, 3) := by decide +kernel
theorem js_d_ichr_28 : decode js_b_ichr 28 = .ok (.goto (-21), 3) := by decide +kernel
theorem js_d_ichr_31 : decode js_b_ichr 31 = .ok (.iconst (-1), 1) := by decide +kernel
theorem js_d_ichr_32 : decode js_b_ichr 32 = .ok (.ireturn, 1) := by decide +kernel
theorem js_n_ichr : (js_y_ichr.cls ≠ "java/lang/invoke/MethodHandle" ∧ js_y_ichr.cls ≠ "java/lang/invoke/VarHandle") := by decide +kernel
def js_y_lidx : MethodName := ⟨"java/lang/StringLatin1", "indexOf", "([BIII)I"⟩
abbrev js_b_lidx : ByteArray := prog_18_method_22_code
set_option maxRecDepth 100000 in
theorem js_c_lidx : Cond.code js_y_lidx js_b_lidx 4 (some .int) ∈ px_G := List.mem_filter.mpr ⟨px_lk2_in (w := 3133) rfl, rfl⟩
set_option maxRecDepth 100000 in
theorem js_i_lidx : Cond.initialized js_y_lidx.cls ∈ px_G := px_in (w := 1015) (by decide +kernel)
set_option maxRecDepth 100000 in
theorem js_s_lidx : Cond.static js_y_lidx ∈ px_G := px_in (w := 3132) (by decide +kernel)
set_option maxRecDepth 100000 in
theorem js_l_lidx_637 : Cond.methodLink "java/lang/String" 637 js_y_lidx ∈ px_G := px_in (w := 3131) (by decide +kernel)
theorem js_d_lidx_0 : decode js_b_lidx 0 = .ok (.iload_n 1, 1) := by decide +kernel
theorem js_d_lidx_1 : decode js_b_lidx 1 = .ok (.invokestatic 88, 3) := by decide +kernel
theorem js_d_lidx_4 : decode js_b_lidx 4 = .ok (.ifCond .ne 5, 3) := by decide +kernel
theorem js_d_lidx_7 : decode js_b_lidx 7 = .ok (.iconst (-1), 1) := by decide +kernel
theorem js_d_lidx_8 : decode js_b_lidx 8 = .ok (.ireturn, 1) := by decide +kernel
theorem js_d_lidx_9 : decode js_b_lidx 9 = .ok (.iload_n 2, 1) := by decide +kernel
theorem js_d_lidx_10 : decode js_b_lidx 10 = .ok (.iconst 0, 1) := by decide +kernel
theorem js_d_lidx_11 : decode js_b_lidx 11 = .ok (.invokestatic 92, 3) := by decide +kernel
theorem js_d_lidx_14 : decode js_b_lidx 14 = .ok (.istore_n 2, 1) := by decide +kernel
theorem js_d_lidx_15 : decode js_b_lidx 15 = .ok (.iload_n 3, 1) := by decide +kernel
theorem js_d_lidx_16 : decode js_b_lidx 16 = .ok (.aload_n 0, 1) := by decide +kernel
theorem js_d_lidx_17 : decode js_b_lidx 17 = .ok (.arraylength, 1) := by decide +kernel
theorem js_d_lidx_18 : decode js_b_lidx 18 = .ok (.invokestatic 38, 3) := by decide +kernel
theorem js_d_lidx_21 : decode js_b_lidx 21 = .ok (.istore_n 3, 1) := by decide +kernel
theorem js_d_lidx_22 : decode js_b_lidx 22 = .ok (.iload_n 2, 1) := by decide +kernel
theorem js_d_lidx_23 : decode js_b_lidx 23 = .ok (.iload_n 3, 1) := by decide +kernel
theorem js_d_lidx_24 : decode js_b_lidx 24 = .ok (.if_icmp .lt 5, 3) := by decide +kernel
theorem js_d_lidx_27 : decode js_b_lidx 27 = .ok (.iconst (-1), 1) := by decide +kernel
theorem js_d_lidx_28 : decode js_b_lidx 28 = .ok (.ireturn, 1) := by decide +kernel
theorem js_d_lidx_29 : decode js_b_lidx 29 = .ok (.aload_n 0, 1) := by decide +kernel
theorem js_d_lidx_30 : decode js_b_lidx 30 = .ok (.iload_n 1, 1) := by decide +kernel
theorem js_d_lidx_31 : decode js_b_lidx 31 = .ok (.iload_n 2, 1) := by decide +kernel
theorem js_d_lidx_32 : decode js_b_lidx 32 = .ok (.iload_n 3, 1) := by decide +kernel
theorem js_d_lidx_33 : decode js_b_lidx 33 = .ok (.invokestatic 95, 3) := by decide +kernel
theorem js_d_lidx_36 : decode js_b_lidx 36 = .ok (.ireturn, 1) := by decide +kernel
theorem js_n_lidx : (js_y_lidx.cls ≠ "java/lang/invoke/MethodHandle" ∧ js_y_lidx.cls ≠ "java/lang/invoke/VarHandle") := by decide +kernel
def js_y_idx2 : MethodName := ⟨"java/lang/String", "indexOf", "(II)I"⟩
abbrev js_b_idx2 : ByteArray := prog_17_method_80_code
set_option maxRecDepth 100000 in
theorem js_c_idx2 : Cond.code js_y_idx2 js_b_idx2 3 (some .int) ∈ px_G := List.mem_filter.mpr ⟨px_lk2_in (w := 3129) rfl, rfl⟩
set_option maxRecDepth 100000 in
theorem js_i_idx2 : Cond.initialized js_y_idx2.cls ∈ px_G := px_in (w := 1014) (by decide +kernel)
set_option maxRecDepth 100000 in
theorem js_m_idx2 : Cond.instanceMethod js_y_idx2 ∈ px_G := px_in (w := 3127) (by decide +kernel)
set_option maxRecDepth 100000 in
theorem js_v_idx2 : Cond.selects js_y_idx2.cls js_y_idx2 js_y_idx2 ∈ px_G := px_in (w := 3128) (by decide +kernel)
set_option maxRecDepth 100000 in
theorem js_l_idx2_633 : Cond.methodLink "java/lang/String" 633 js_y_idx2 ∈ px_G := px_in (w := 3126) (by decide +kernel)
theorem js_d_idx2_0 : decode js_b_idx2 0 = .ok (.aload_n 0, 1) := by decide +kernel
theorem js_d_idx2_1 : decode js_b_idx2 1 = .ok (.invokevirtual 492, 3) := by decide +kernel
theorem js_d_idx2_4 : decode js_b_idx2 4 = .ok (.ifCond .eq 19, 3) := by decide +kernel
theorem js_d_idx2_7 : decode js_b_idx2 7 = .ok (.aload_n 0, 1) := by decide +kernel
theorem js_d_idx2_8 : decode js_b_idx2 8 = .ok (.getfield 9, 3) := by decide +kernel
theorem js_d_idx2_11 : decode js_b_idx2 11 = .ok (.iload_n 1, 1) := by decide +kernel
theorem js_d_idx2_12 : decode js_b_idx2 12 = .ok (.iload_n 2, 1) := by decide +kernel
theorem js_d_idx2_13 : decode js_b_idx2 13 = .ok (.aload_n 0, 1) := by decide +kernel
theorem js_d_idx2_14 : decode js_b_idx2 14 = .ok (.invokevirtual 505, 3) := by decide +kernel
theorem js_d_idx2_17 : decode js_b_idx2 17 = .ok (.invokestatic 637, 3) := by decide +kernel
theorem js_d_idx2_20 : decode js_b_idx2 20 = .ok (.goto 16, 3) := by decide +kernel
theorem js_d_idx2_23 : decode js_b_idx2 23 = .ok (.aload_n 0, 1) := by decide +kernel
theorem js_d_idx2_24 : decode js_b_idx2 24 = .ok (.getfield 9, 3) := by decide +kernel
theorem js_d_idx2_27 : decode js_b_idx2 27 = .ok (.iload_n 1, 1) := by decide +kernel
theorem js_d_idx2_28 : decode js_b_idx2 28 = .ok (.iload_n 2, 1) := by decide +kernel
theorem js_d_idx2_29 : decode js_b_idx2 29 = .ok (.aload_n 0, 1) := by decide +kernel
theorem js_d_idx2_30 : decode js_b_idx2 30 = .ok (.invokevirtual 505, 3) := by decide +kernel
theorem js_d_idx2_33 : decode js_b_idx2 33 = .ok (.invokestatic 640, 3) := by decide +kernel
theorem js_d_idx2_36 : decode js_b_idx2 36 = .ok (.ireturn, 1) := by decide +kernel
theorem js_n_idx2 : (js_y_idx2.cls ≠ "java/lang/invoke/MethodHandle" ∧ js_y_idx2.cls ≠ "java/lang/invoke/VarHandle") := by decide +kernel
def js_y_idx1 : MethodName := ⟨"java/lang/String", "indexOf", "(I)I"⟩
abbrev js_b_idx1 : ByteArray := prog_17_method_79_code
set_option maxRecDepth 100000 in
theorem js_c_idx1 : Cond.code js_y_idx1 js_b_idx1 2 (some .int) ∈ px_G := List.mem_filter.mpr ⟨px_lk2_in (w := 3125) rfl, rfl⟩
set_option maxRecDepth 100000 in
theorem js_i_idx1 : Cond.initialized js_y_idx1.cls ∈ px_G := px_in (w := 1014) (by decide +kernel)
set_option maxRecDepth 100000 in
theorem js_m_idx1 : Cond.instanceMethod js_y_idx1 ∈ px_G := px_in (w := 3123) (by decide +kernel)
set_option maxRecDepth 100000 in
theorem js_v_idx1 : Cond.selects js_y_idx1.cls js_y_idx1 js_y_idx1 ∈ px_G := px_in (w := 3124) (by decide +kernel)
set_option maxRecDepth 100000 in
theorem js_l_idx1_78 : Cond.methodLink "RansomPieces$Reader" 78 js_y_idx1 ∈ px_G := px_in (w := 3122) (by decide +kernel)
theorem js_d_idx1_0 : decode js_b_idx1 0 = .ok (.aload_n 0, 1) := by decide +kernel
theorem js_d_idx1_1 : decode js_b_idx1 1 = .ok (.iload_n 1, 1) := by decide +kernel
theorem js_d_idx1_2 : decode js_b_idx1 2 = .ok (.iconst 0, 1) := by decide +kernel
theorem js_d_idx1_3 : decode js_b_idx1 3 = .ok (.invokevirtual 633, 3) := by decide +kernel
theorem js_d_idx1_6 : decode js_b_idx1 6 = .ok (.ireturn, 1) := by decide +kernel
theorem js_n_idx1 : (js_y_idx1.cls ≠ "java/lang/invoke/MethodHandle" ∧ js_y_idx1.cls ≠ "java/lang/invoke/VarHandle") := by decide +kernel
set_option maxRecDepth 100000 in
theorem js_f_cs : Cond.fieldLink "java/lang/String" 38 "java/lang/String" "COMPACT_STRINGS" "Z" ∈ px_G := px_in (w := 3077) (by decide +kernel)
set_option maxRecDepth 100000 in
theorem js_f_si : Cond.fieldLink "java/lang/String" 1053 "jdk/internal/util/Preconditions" "SIOOBE_FORMATTER" "Ljava/util/function/BiFunction;" ∈ px_G := px_in (w := 3093) (by decide +kernel)
set_option maxRecDepth 100000 in
theorem js_f_va : Cond.fieldLink "java/lang/String" 9 "java/lang/String" "value" "[B" ∈ px_G := px_in (w := 9021) (by decide +kernel)
set_option maxRecDepth 100000 in
theorem js_f_co : Cond.fieldLink "java/lang/String" 15 "java/lang/String" "coder" "B" ∈ px_G := px_in (w := 9022) (by decide +kernel)
