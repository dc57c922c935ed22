theorem px_ok_spec {mid ip pc k : Nat} {a : List Int} (hok : px_okb mid ip = true) (he : px_e mid ip = some (pc, k, a)) (hk : k ≠ 62) : ∃ (ins : Instr) (len : Nat), px_dec (px_pc mid) pc k a = some (ins, len) ∧ decode (px_B mid) pc = .ok (ins, len) ∧ (px_stop k = true ∨ px_pc mid (ip + 1) = pc + len) ∧ px_ex mid k a = true := by
  unfold px_okb at hok
  rw [he] at hok
  split at hok
  · rename_i h; cases h
  · rename_i h
    cases h
    exact absurd rfl hk
  · rename_i h
    cases h
    split at hok
    · rename_i ins len hd
      simp only [Bool.and_eq_true, decide_eq_true_eq, Bool.or_eq_true, beq_iff_eq] at hok
      exact ⟨ins, len, hd, hok.1.1, hok.1.2, hok.2⟩
    · cases hok
theorem px_wok {args : Array Value} {s : State} (hts : ∀ w ∈ px_G, w.before args s = true) {ws : List Cond} (h : ∀ w ∈ ws, w ∈ px_G) : ∀ w ∈ ws, ∀ (a' : Array Value) (U : State), s.WarmedH U.vm → w.before a' U = true :=
  fun w hw _ _ hW => word_at hW (good_of_word (List.mem_filter.mp (h w hw)).2) (hts w (h w hw))
/-- a call's row in the table -/
def px_Mr (m ix c : Nat) (kd : Int) : Prop := plainFor (px_Y c) = true ∧ px_mL c ≤ 20 ∧ px_pc c 0 = 0 ∧ ((px_Y c).cls ≠ "java/lang/invoke/MethodHandle" ∧ (px_Y c).cls ≠ "java/lang/invoke/VarHandle") ∧ Cond.code (px_Y c) (px_B c) (px_mL c) (px_R c) ∈ px_G ∧ Cond.initialized (px_Y c).cls ∈ px_G ∧
  ((kd = 0 ∧ Cond.methodLink (px_O m) ix (px_Y c) ∈ px_G ∧ Cond.instanceMethod (px_Y c) ∈ px_G ∧ Cond.selects (px_Y c).cls (px_Y c) (px_Y c) ∈ px_G) ∨
   (kd = 1 ∧ Cond.methodLink (px_O m) ix (px_Y c) ∈ px_G ∧ Cond.static (px_Y c) ∈ px_G) ∨
   (kd = 2 ∧ Cond.methodLink (px_O m) ix (px_Y c) ∈ px_G ∧ Cond.instanceMethod (px_Y c) ∈ px_G ∧ (px_Y c).name = "<init>" ∧ px_R c = none) ∨
   (kd = 3 ∧ Cond.methodLinkNest (px_O m) ix (px_Y c) "RansomPieces" ∈ lw_tbl ∧ Cond.static (px_Y c) ∈ px_G))
theorem px_mx {m c ix mi : Nat} {kd : Int} (h : (match px_at px_ml mi with
      | some (own, ix', c', kd', _) => own == px_O m && ix' == ix && c' == c && (kd' : Int) == kd
      | none => false) = true) : px_Mr m ix c kd := by
  split at h
  · rename_i own ix' c' kd' ws hq
    simp only [Bool.and_eq_true, beq_iff_eq] at h
    obtain ⟨⟨⟨rfl, rfl⟩, rfl⟩, rfl⟩ := h
    have h2 := px_ml_all hq
    unfold px_mok at h2
    simp only [Bool.and_eq_true, decide_eq_true_eq] at h2
    obtain ⟨⟨⟨⟨⟨⟨⟨a1, a2⟩, a3⟩, a4⟩, a5⟩, a6⟩, a7⟩, a8⟩ := h2
    have hpl : plainFor (px_Y c') = true := by
      simp only [Bool.or_eq_true, Bool.and_eq_true, beq_iff_eq] at a3
      rcases a3 with a3 | a3
      · exact plainFor_of_name a3
      · exact px_mplain a3.1 a3.2
    have hcw : Cond.code (px_Y c') (px_B c') (px_mL c') (px_R c') ∈ px_G := by
      unfold px_at at a7
      split at a7
      · rename_i ch hch
        have h3 := px_kall ch (List.mem_of_getElem? hch) _ (List.mem_of_getElem? a7) a5
        exact List.mem_filter.mpr ⟨px_lk2_in h3, rfl⟩
      · cases a7
    split at a8
    · simp only [Bool.and_eq_true] at a8
      exact ⟨hpl, a4, a6, ⟨a1, a2⟩, hcw, px_in a8.2, Or.inl ⟨rfl, px_in a8.1.1.1, px_in a8.1.1.2, px_in a8.1.2⟩⟩
    · simp only [Bool.and_eq_true] at a8
      exact ⟨hpl, a4, a6, ⟨a1, a2⟩, hcw, px_in a8.2, Or.inr (Or.inl ⟨rfl, px_in a8.1.1, px_in a8.1.2⟩)⟩
    · simp only [Bool.and_eq_true, decide_eq_true_eq] at a8
      exact ⟨hpl, a4, a6, ⟨a1, a2⟩, hcw, px_in a8.2, Or.inr (Or.inr (Or.inr ⟨rfl, px_lk2_in a8.1.1, px_in a8.1.2⟩))⟩
    · simp only [Bool.and_eq_true, beq_iff_eq, decide_eq_true_eq] at a8
      exact ⟨hpl, a4, a6, ⟨a1, a2⟩, hcw, px_in a8.2, Or.inr (Or.inr (Or.inl ⟨rfl, px_in a8.1.1.2, px_in a8.1.2, a8.1.1.1.1, a8.1.1.1.2⟩))⟩
    · cases a8
  · cases h
section PXM
variable {sc : List Int} {l : Launch} {D : va_G} {cA cF : ClassId} {g : px_g}
def px_ivk (kd : Int) (ix : Nat) : Instr := match kd with
  | 0 => .invokevirtual ix
  | 2 => .invokespecial ix
  | _ => .invokestatic ix
theorem px_ar {L d n : Nat} (h1 : L ≤ 20) (h2 : 40 * (d + 7) ≤ n) : 8 + (L + 11) + 40 * (d + 6) ≤ n := by omega
theorem px_us_take (st : List Value) (n : Nat) : (px_us g st).take n = px_us g (st.take n) := by simp [px_us]
theorem px_us_drop (st : List Value) (n : Nat) : (px_us g st).drop n = px_us g (st.drop n) := by simp [px_us]
theorem px_us_rev (st : List Value) : (px_us g st).reverse = px_us g st.reverse := by simp [px_us]
theorem px_us_all {st : List Value} (h : (px_us g st).all px_kv = true) : ∀ v ∈ st, px_kv (px_uv g v) = true := by
  intro v hv
  exact List.all_eq_true.mp h _ (List.mem_map.mpr ⟨v, hv, rfl⟩)
theorem px_us_cat {st : List Value} (h : ∀ v ∈ st, px_kv (px_uv g v) = true) : ((px_us g st).map px_cat).sum = (st.map fun v => v.category).sum := by
  induction st with
  | nil => rfl
  | cons v t ih =>
    rw [px_us_cons, List.map_cons, List.sum_cons, List.map_cons, List.sum_cons, px_kv_cat (h v List.mem_cons_self), ih (fun w hw => h w (List.mem_cons_of_mem _ hw))]
theorem px_call {p : Program} {e : Env} {R : Room} {s : State} {m : MethodId} {args : Array Value} {below : List Frame} {meth : Method} {c0 : Code} {H : Heap} {locs : List Loc} {cells slots : Nat} {mid pc ix c d : Nat} {kd ci : Int} {lv : List (Nat × Value)} {ls : Array Slot} {G : List px_Sh} {f : Nat → Nat → Int32} {mc ms : Nat} {Qc : Array Value → State → Outcome → State → Prop} {as rest : List Value} {ins : Instr}
    (hC : px_C D cA cF g mid p s m args meth c0 R) (hfr : d + 7 ≤ R.frames) (hlo : 40 * (d + 7) ≤ R.locals) (hE : px_Ex sc g s) (hI : px_I D cA cF g mid s cells G f H locs lv ls) (hsz : H.size = g.1 + G.length)
    (hMr : px_Mr mid ix c kd) (hins : ins = px_ivk kd ix) (hdc : decode (px_B mid) pc = .ok (ins, 3))
    (hM : Met l (px_Y c) (px_ws c) (px_rm d mc ms) (px_Pc sc D cA cF g as G f) Qc mc ms (fun q => g.1 ≤ q))
    (hkv : ∀ v ∈ rest, px_kv (px_uv g v) = true) (hcat : (rest.map fun v => v.category).sum ≤ 8)
    (hpar : (parseMethodDescriptor (px_Y c).desc).map (fun d => d.parameters.length) = some (as.length - (if kd = 1 ∨ kd = 3 then 0 else 1)))
    (hrec : kd = 1 ∨ kd = 3 ∨ ∃ (k n : Nat) (rs : List (Option Nat)) (As : List Value), as = .ref (g.1 + k) :: As ∧ G[k]? = some (ci.toNat, n, rs))
    (hcls : kd ≠ 0 ∨ ∃ (T : u_T) (N : Nat), px_cl[ci.toNat]? = some ((px_Y c).cls, T, N)) (hroom : cells + mc ≤ R.cells ∧ slots + ms ≤ R.slots) :
    va_Run p l e R s m args below meth c0 H locs cells slots mc ms (F0 m pc ls (as.reverse ++ rest)) rest (Qc as.toArray) (fun q => g.1 ≤ q) := by
  obtain ⟨hpl, hmL, hp0, hne, hcw, hini, hkind⟩ := hMr
  have hS : CallFix p m c0 (px_B mid) (px_mL mid) s args px_G (px_O mid) := ⟨hC.1, hC.2.1, hC.2.2.1, hC.2.2.2.1, hC.2.2.2.2.1⟩
  have hw : ∀ w ∈ px_ws c, w ∈ px_G := fun w h => by
    rcases List.mem_cons.mp h with rfl | h
    · exact hcw
    · exact h
  have hb := hC.2.2.2.2.1
  have hpre : ∀ U : State, U.heap = H → s.WarmedH U.vm → px_Pc sc D cA cF g as G f as.toArray U := by
    intro U hU hW
    refine ⟨rfl, by rw [hU]; exact hsz, by rw [hU]; exact hI.2.1, va_K.moved hW.alike hC.2.2.2.2.2.1, px_Ex_move hC.2.2.2.2.2.2.2.1 hE hW (fun q hq => ?_), hI.2.2.2.2.2⟩
    rw [hU]
    exact hI.2.2.1.2.1 q (Nat.lt_of_lt_of_le hq hC.2.2.2.2.2.2.2.1) (Nat.not_le.mpr hq)
  have hlen : ∀ n, (parseMethodDescriptor (px_Y c).desc).map (fun d => d.parameters.length) = some n → ∀ sig, parseMethodDescriptor (px_Y c).desc = some sig → n = sig.parameters.length := fun n h sig h2 => by
    rw [h2] at h
    exact (Option.some.inj h).symm
  have hsize : ls.size = px_mL mid := hI.2.2.2.1.1
  have hR1 : (px_rm d mc ms).frames + 1 ≤ R.frames := by
    have e1 : (px_rm d mc ms).frames = d + 6 := rfl
    rw [e1]
    omega
  have hR2 : 8 + (px_mL c + 11) + (px_rm d mc ms).locals ≤ R.locals := by
    exact px_ar hmL hlo
  have hcat0 : 2 * (F0 m pc ls (as.reverse ++ rest)).monitorRoom + (rest.map fun v => v.category).sum ≤ 8 := by show 2 * 0 + _ ≤ 8; omega
  rcases hkind with ⟨rfl, h1, h2, h3⟩ | ⟨rfl, h1, h2⟩ | ⟨rfl, h1, h2, h3, h4⟩ | ⟨rfl, h1, h2⟩
  · rcases hrec with q | q | ⟨k, n, rs, As, rfl, hG⟩
    · exact absurd q (by omega)
    · exact absurd q (by omega)
    rcases hcls with q | ⟨T, N, hcl⟩
    · exact absurd rfl q
    have hci := px_cl_len hcl
    have hat := px_wd_at (n0 := g.1) (cA := cA) (cF := cF) f hG
    rw [px_ent_obj hci] at hat
    have hpar2 : (parseMethodDescriptor (px_Y c).desc).map (fun d => d.parameters.length) = some As.length := by
      rw [hpar, if_neg (by omega)]; simp
    subst hins
    exact va_runV hS hM ⟨⟨rfl, rfl, hR1, hR2, px_wok hb hw, List.mem_cons_self, hb _ hcw, hb _ hini, hne, hlen _ hpar2, hb _ h1⟩, hb _ h2, hb _ h3⟩ ⟨px_Pc_blind, va_recv hC.2.2.2.2.2.1 hI.2.1 hcl hat, hpre⟩ rfl rfl hsize (by simp) hcat0 hdc hroom
  · have hpar2 : (parseMethodDescriptor (px_Y c).desc).map (fun d => d.parameters.length) = some as.length := by
      rw [hpar, if_pos (Or.inl rfl)]; simp
    subst hins
    exact va_runS hS hM ⟨⟨rfl, rfl, hR1, hR2, px_wok hb hw, List.mem_cons_self, hb _ hcw, hb _ hini, hne, hlen _ hpar2, hb _ h1⟩, hb _ h2⟩ ⟨px_Pc_blind, hpre⟩ rfl rfl hsize rfl hcat0 hdc hroom
  · rcases hrec with q | q | ⟨k, n, rs, As, rfl, hG⟩
    · exact absurd q (by omega)
    · exact absurd q (by omega)
    have hpar2 : (parseMethodDescriptor (px_Y c).desc).map (fun d => d.parameters.length) = some As.length := by
      rw [hpar, if_neg (by omega)]; simp
    subst hins
    have hws : Cond.code (px_Y c) (px_B c) (px_mL c) none ∈ px_ws c := by rw [← h4]; exact List.mem_cons_self
    exact va_runI hS hM ⟨⟨rfl, rfl, hR1, hR2, px_wok hb hw, hws, hb _ (hw _ hws), hb _ hini, hne, hlen _ hpar2, hb _ h1⟩, h3, hb _ h2⟩ ⟨px_Pc_blind, hpre⟩ rfl rfl hsize (by simp) hcat0 hdc hroom
  · have hpar2 : (parseMethodDescriptor (px_Y c).desc).map (fun d => d.parameters.length) = some as.length := by
      rw [hpar, if_pos (Or.inr rfl)]; simp
    have hnw : (Cond.methodLinkNest (px_O mid) ix (px_Y c) "RansomPieces").before args s = true := va_Nw.use rfl (hE.2.1 _ h1 ⟨_, _, _, _, rfl⟩)
    subst hins
    exact va_runSN hS hM ⟨⟨⟨rfl, rfl, hR1, hR2, px_wok hb hw, List.mem_cons_self⟩, hb _ hcw, hb _ hini, hne, hlen _ hpar2, hnw⟩, hb _ h2, trivial⟩ ⟨px_Pc_blind, hpre⟩ rfl rfl hsize rfl hcat0 hdc hroom
end PXM
section PXN
variable {sc : List Int} {l : Launch} {D : va_G} {cA cF : ClassId} {g : px_g}
theorem px_psh_eq (v : Option Value) (rest : List Value) : px_us g (v.toList ++ rest) = px_psh (v.map (px_uv g)) (px_us g rest) := by
  cases v <;> rfl
theorem px_simA (hv : ∀ m ip, px_okb m ip = true) (hprim : px_Sim sc l D cA cF g (px_Ex sc g) 61 px_o_prim) : ∀ n, px_A sc l D cA cF g n := by
  intro n
  induction n with
  | zero => intro d mid ip lv ls st G f r G1 f1 hr; cases hr
  | succ n ih =>
    intro d mid ip lv ls st G f r G1 f1 hr p e R s m args below meth c H locs cells slots Q hC hfr hlo hE hI hc hs hret
    have hmo := px_mono sc (n + 1) d mid ip _ _ _ _ _ hr
    unfold px_run at hr
    split at hr
    · rename_i pc c1 na mi ix kd ci tl he
      obtain ⟨ins, len, hdec, hdc, hnx, hex⟩ := px_ok_spec (hv mid ip) he (by omega)
      have hpc : px_pc mid ip = pc := by unfold px_pc; rw [he]
      rw [hpc]
      match tl, hdec, hex with
      | [], hdec, hex =>
        have hnx := hnx.resolve_left (by decide)
        cases hdec
        simp only [px_ex, Bool.and_eq_true] at hex
        obtain ⟨⟨⟨hx1, hx2⟩, hx3⟩, hx4⟩ := hex
        have hMr := px_mx hx1
        have hx2 := of_decide_eq_true hx2
        split at hr
        · rename_i d
          rw [Bool.cond_eq_ite] at hr
          split at hr
          · rename_i hmay
            split at hr
            · rename_i r2 h2 hcall
              obtain ⟨G2, f2⟩ := h2
              have hm1 := px_mono sc n d c1.toNat 0 _ _ _ _ _ hcall
              have hm2 := px_mono sc n (d + 1) mid (ip + 1) _ _ _ _ _ hr
              have hl1 : G.length ≤ G2.length := hm1.1
              have hl2 : G2.length ≤ G1.length := hm2.1
              have hz1 : px_sz G ≤ px_sz G2 := hm1.2
              have hz2 : px_sz G2 ≤ px_sz G1 := hm2.2
              rw [px_us_take, px_us_rev] at hmay hcall
              rw [px_us_drop] at hmay hr
              generalize has : (st.take na.toNat).reverse = as at hmay hcall
              generalize hrs : st.drop na.toNat = rest at hmay hr
              have hst : st = as.reverse ++ rest := by rw [← has, ← hrs, List.reverse_reverse, List.take_append_drop]
              unfold px_may at hmay
              simp only [Bool.and_eq_true, decide_eq_true_eq] at hmay
              obtain ⟨⟨⟨⟨⟨hy1, hy2⟩, hy3⟩, hy4⟩, hy5⟩, hy6⟩ := hmay
              have hkA := px_us_all hy2
              have hkR := px_us_all hy3
              rw [px_us_cat hkR] at hy4
              rw [px_us_len] at hy1
              refine px_sized hC.2.2.2.2.2.2.2.1 hI (fun hsz => ?_)
              have hM := px_met ih hMr.1 hkA hy5 hMr.2.2.1 hcall
              have hrec : kd = 1 ∨ kd = 3 ∨ ∃ (k n : Nat) (rs : List (Option Nat)) (As : List Value), as = .ref (g.1 + k) :: As ∧ G[k]? = some (ci.toNat, n, rs) := by
                split at hy6
                · exact Or.inl rfl
                · exact Or.inr (Or.inl rfl)
                · split at hy6
                  · rename_i k tl2 hq
                    split at hy6
                    · rename_i c2 n2 rs2 hG2
                      refine Or.inr (Or.inr ?_)
                      have hcc : c2 = ci.toNat := by simpa using hy6
                      subst hcc
                      have hq2 : px_pR (px_us g as) = some (k + 5, tl2) := by rw [hq]; rfl
                      obtain ⟨As, rfl, -⟩ := px_pR5 hq2
                      exact ⟨k, n2, rs2, As, rfl, hG2⟩
                    · cases hy6
                  · cases hy6
              have hcls : kd ≠ 0 ∨ ∃ (T : u_T) (N : Nat), px_cl[ci.toNat]? = some ((px_Y c1.toNat).cls, T, N) := by
                rcases (Bool.or_eq_true _ _).mp hx3 with q | q
                · exact Or.inl (of_decide_eq_true q)
                · split at q
                  · rename_i C T N hcl
                    refine Or.inr ⟨T, N, ?_⟩
                    have : (px_Y c1.toNat).cls = C := by simpa using q
                    rw [this]
                    exact hcl
                  · cases q
              have hrun := px_call (mc := G2.length - G.length) (ms := px_sz G2 - px_sz G) (locs := locs) (slots := slots) (below := below) (e := e) hC hfr hlo hE hI hsz hMr (ins := _) (by rfl) hdc hM hkR hy4 (by rw [hy1]; exact hx2) hrec hcls ⟨by omega, by omega⟩
              rw [hst]
              intro T hT X
              obtain ⟨v, st0, t, T', L, h0, X', hL, e1, e2, ⟨⟨vv, fN, hv1, hvr, hf1, hP1, hzz⟩, hF⟩, stp⟩ := hrun T hT X
              cases hv1
              have hF1 : H.size ≤ T'.heap.size := by rw [e1, ← h0]; exact hF.1
              have hF2 : ∀ q, q < H.size → ¬ g.1 ≤ q → T'.heap[q]? = H[q]? := fun q a1 a2 => by rw [e1, ← h0]; exact hF.2 q (by rw [h0]; exact a1) a2
              have hS' : va_S (fun q => g.1 ≤ q) s.heap T'.heap (locs ++ L) := by
                refine ⟨Nat.le_trans hI.2.2.1.1 hF1, fun q a1 a2 => ?_, fun q hq => ?_⟩
                · rw [hF2 q (Nat.lt_of_lt_of_le a1 hI.2.2.1.1) a2]
                  exact hI.2.2.1.2.1 q a1 a2
                · rcases List.mem_append.mp hq with a | a
                  · exact hI.2.2.1.2.2 q a
                  · exact hL q a
              have hI' : px_I D cA cF g mid s (cells + (G2.length - G.length)) G2 fN T'.heap (locs ++ L) lv ls :=
                ⟨by have := hI.1; omega, by rw [e1]; exact hP1, hS', hI.2.2.2.1, hI.2.2.2.2.1, hzz⟩
              rw [← hvr, ← px_psh_eq, ← hf1] at hr
              have hw := ih (d + 1) mid (ip + 1) lv ls (v.toList ++ rest) G2 fN r G1 f1 hr p e R s m args below meth c T'.heap (locs ++ L) (cells + (G2.length - G.length)) (slots + (px_sz G2 - px_sz G)) Q hC hfr hlo hE hI' (by omega) (by omega) (fun pcR lsR stR fM HM locsM b1 b2 b3 b4 b5 => by
                have hk := hret pcR lsR stR fM HM locsM b1 b2 b3 b4 b5
                rw [show cells + (G2.length - G.length) + (G1.length - G2.length) = cells + (G1.length - G.length) by omega, show slots + (px_sz G2 - px_sz G) + (px_sz G1 - px_sz G2) = slots + (px_sz G1 - px_sz G) by omega]
                exact hk)
              rw [hnx] at hw
              obtain ⟨t2, a1, b1⟩ := hw T' rfl X'
              exact ⟨t2, stp t2 a1, b1⟩
            · cases hr
          · cases hr
        · cases hr
      | _ :: _, hdec, hex => cases hdec
    · rename_i pc a he
      obtain ⟨ins, len, hdec, hdc, hnx, hex⟩ := px_ok_spec (hv mid ip) he (by omega)
      have hpc : px_pc mid ip = pc := by unfold px_pc; rw [he]
      rw [hpc]
      split at hr
      · rename_i v hst
        rw [Bool.cond_eq_ite] at hr
        split at hr
        · rename_i hcnd
          cases hr
          obtain ⟨x, st2, rfl, hx, h3⟩ := px_pI_inv (st := st) (v := v) (r := []) (by rw [hst]; rfl)
          have h4 : st2 = [] := by cases st2 with | nil => rfl | cons _ _ => cases h3
          subst h4
          subst hx
          match a, hdec, hex, hcnd with
          | [z], hdec, hex, hcnd =>
          cases hdec
          have hk := hret pc ls [.int x] f H locs rfl hI.2.1 hI.2.2.1 hI.2.2.2.2.2 (Or.inl ⟨x, rfl, rfl, hdc, ?_⟩)
          · simp only [px_z] at hk
            exact hk
          · simp only [px_ex] at hex
            by_cases hz : z = 0
            · rw [if_pos hz] at hex
              exact Or.inl (of_decide_eq_true hex)
            · rw [if_neg hz] at hex
              refine Or.inr ⟨of_decide_eq_true hex, ?_⟩
              simp only [Bool.or_eq_true, beq_iff_eq] at hcnd
              rcases hcnd with (q | q) | q
              · exact absurd (List.cons.inj q).1 hz
              · exact Or.inl q
              · exact Or.inr q
        · cases hr
      · cases hr
    · rename_i pc a he
      obtain ⟨ins, len, hdec, hdc, hnx, hex⟩ := px_ok_spec (hv mid ip) he (by omega)
      have hpc : px_pc mid ip = pc := by unfold px_pc; rw [he]
      rw [hpc]
      split at hr
      · rename_i v hst
        cases hr
        obtain ⟨x, st2, rfl, hx, h3⟩ := px_pL_inv (st := st) (v := v) (r := []) (by rw [hst]; rfl)
        have h4 : st2 = [] := by cases st2 with | nil => rfl | cons _ _ => cases h3
        subst h4
        subst hx
        cases hdec
        have hk := hret pc ls [.long x] f H locs rfl hI.2.1 hI.2.2.1 hI.2.2.2.2.2 (Or.inr (Or.inl ⟨x, rfl, rfl, hdc, by simpa [px_ex] using hex⟩))
        simp only [px_z] at hk
        exact hk
      · cases hr
    · rename_i pc a he
      obtain ⟨ins, len, hdec, hdc, hnx, hex⟩ := px_ok_spec (hv mid ip) he (by omega)
      have hpc : px_pc mid ip = pc := by unfold px_pc; rw [he]
      rw [hpc]
      split at hr
      · rename_i hst
        cases hr
        have h4 : st = [] := by cases st with | nil => rfl | cons _ _ => cases hst
        subst h4
        cases hdec
        have hk := hret pc ls [] f H locs rfl hI.2.1 hI.2.2.1 hI.2.2.2.2.2 (Or.inr (Or.inr ⟨rfl, rfl, hdc, by simpa [px_ex] using hex⟩))
        simp only [px_z] at hk
        exact hk
      · cases hr
    · rename_i pc k a he
      have hpc : px_pc mid ip = pc := by unfold px_pc; rw [he]
      rw [hpc]
      split at hr
      · rename_i ip1 ls1 st1 h2 hstp
        obtain ⟨G2, f2⟩ := h2
        unfold px_st at hstp
        rw [he] at hstp
        simp only at hstp
        split at hstp
        · rename_i F hF
          have hm1 := px_mo_all hF _ _ _ _ _ G (px_uf f) _ _ _ _ hstp
          have hm2 := px_mono sc n d mid ip1 _ _ _ _ _ hr
          have hl1 : G.length ≤ G2.length := hm1.1
          have hl2 : G2.length ≤ G1.length := hm2.1
          have hz1 : px_sz G ≤ px_sz G2 := hm1.2
          have hz2 : px_sz G2 ≤ px_sz G1 := hm2.2
          have hk58 : k ≠ 58 := by
            intro q
            subst q
            cases hF
            cases hstp
          obtain ⟨ins, len, hdec, hdc, hnx, hex⟩ := px_ok_spec (hv mid ip) he (by omega)
          refine px_all hprim hF hk58 mid ip pc a ins len he hdec hdc hnx hex p e R s m args below meth c H locs cells slots Q lv ls st G f ip1 ls1 st1 G2 f2 hC hE hI hstp (by omega) (by omega) ?_
          intro lvN lsN stN fN HN locsN q1 q2 q3 hIN
          rw [← q1, ← q2, ← q3] at hr
          refine ih d mid ip1 lvN lsN stN G2 fN r G1 f1 hr p e R s m args below meth c HN locsN _ _ Q hC hfr hlo hE hIN (by omega) (by omega) ?_
          intro pcR lsR stR fM HM locsM b1 b2 b3 b4 b5
          have hk := hret pcR lsR stR fM HM locsM b1 b2 b3 b4 b5
          rw [show cells + (G2.length - G.length) + (G1.length - G2.length) = cells + (G1.length - G.length) by omega, show slots + (px_sz G2 - px_sz G) + (px_sz G1 - px_sz G2) = slots + (px_sz G1 - px_sz G) by omega]
          exact hk
        · cases hstp
      · cases hr
    · cases hr
end PXN
