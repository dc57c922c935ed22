theorem px_Ex_move {sc : List Int} {g : px_g} {s U : State} (hn : g.1 ≤ s.heap.size) (h : px_Ex sc g s) (hW : s.WarmedH U.vm) (hh : ∀ q, q < g.1 → U.heap[q]? = s.heap[q]?) : px_Ex sc g U := by
  obtain ⟨h1, h2, h3, ⟨fm, h4, h5⟩, ⟨L, xs, h8, h9, h10⟩, t1, t2, ⟨adK, adV, t3, t4⟩, t5, t6⟩ := h
  have hk : ∀ a : Nat, a < s.heap.size → ¬ g.1 ≤ a → U.heap[a]? = s.heap[a]? := fun a _ ha => hh a (by omega)
  refine ⟨h1.moved hW.alike, ?_, (h3.moved hW.alike).kept hk, ⟨fm, (h4.moved hW.alike).kept hk, h5⟩, ⟨L, xs, (h8.moved hW.alike).kept (hh _ h9), h9, h10⟩, t1.warm hW, t2.warm hW, ⟨adK, adV, (t3.moved hW.alike).kept hk, t4⟩, (t5.moved hW.alike).kept hk, (t6.moved hW.alike).kept hk⟩
  intro w hw hm
  have h11 := h2 w hw hm
  obtain ⟨a, b, c, d, rfl⟩ := hm
  exact va_Nw.warmM hW h11
theorem px_Ex_call {sc : List Int} {g : px_g} {U : State} {fr : JFrame} {mk : MethodId} {a : Array Value} (h : px_Ex sc g U) : px_Ex sc g (U.calling fr mk a) := by
  obtain ⟨h1, h2, h3, ⟨fm, h4, h5⟩, ⟨L, xs, h8, h9⟩, t1, t2, ⟨adK, adV, t3, t4⟩, t5, t6⟩ := h
  refine ⟨va_AO.moved (u := U) (U := U.calling fr mk a) (Vm.Alike.refl U.vm) h1, ?_, va_Z.moved (u := U) (U := U.calling fr mk a) (Vm.Alike.refl U.vm) h3, ⟨fm, va_T.moved (u := U) (U := U.calling fr mk a) (Vm.Alike.refl U.vm) h4, h5⟩, ⟨L, xs, va_X.moved (u := U) (U := U.calling fr mk a) (Vm.Alike.refl U.vm) h8, h9⟩, vk_R.same (u := U) rfl t1, vk_R.same (u := U) rfl t2, ⟨adK, adV, vk_S.moved (u := U) (U := U.calling fr mk a) (Vm.Alike.refl U.vm) t3, t4⟩, va_Z.moved (u := U) (U := U.calling fr mk a) (Vm.Alike.refl U.vm) t5, va_Zq.moved (u := U) (U := U.calling fr mk a) (Vm.Alike.refl U.vm) t6⟩
  intro w hw hm
  have h11 := h2 w hw hm
  obtain ⟨x, b, c, d, rfl⟩ := hm
  exact va_Nw.same rfl rfl h11
def px_ws (mid : Nat) : List Cond := .code (px_Y mid) (px_B mid) (px_mL mid) (px_R mid) :: px_G
def px_rm (d mc ms : Nat) : Room := { frames := d + 6, cells := mc, slots := ms, locals := 40 * (d + 6) }
def px_Pc (sc : List Int) (D : va_G) (cA cF : ClassId) (g : px_g) (as : List Value) (G : List px_Sh) (f : Nat → Nat → Int32) : Array Value → State → Prop := fun v U =>
  v = as.toArray ∧ U.heap.size = g.1 + G.length ∧ va_P D px_cl (px_wd g.1 cA cF G f) U.heap ∧ va_K D px_cl (px_tys cA cF) U ∧ px_Ex sc g U ∧ ∀ r i, G.length + 5 ≤ r → f r i = 0
def px_Qc (D : va_G) (cA cF : ClassId) (g : px_g) (r : Option px_V) (G1 : List px_Sh) (f1 : Nat → Nat → Int) : Array Value → State → Outcome → State → Prop := fun _ st oc t =>
  (∃ (v : Option Value) (fN : Nat → Nat → Int32), oc = .returned v ∧ v.map (px_uv g) = r ∧ px_uf fN = f1 ∧ va_P D px_cl (px_wd g.1 cA cF G1 fN) t.heap ∧ ∀ r i, G1.length + 5 ≤ r → fN r i = 0) ∧ va_F (fun q => g.1 ≤ q) st t
theorem px_Pc_blind {sc : List Int} {D : va_G} {cA cF : ClassId} {g : px_g} {as : List Value} {G : List px_Sh} {f : Nat → Nat → Int32} : FrameBlind (px_Pc sc D cA cF g as G f) := by
  intro a U fr mk h
  obtain ⟨h1, h2, h3, h4, h5, h6⟩ := h
  exact ⟨h1, h2, h3, va_K.moved (u := U) (U := U.calling fr mk a) (Vm.Alike.refl U.vm) h4, px_Ex_call h5, h6⟩
/-- what a return finds -/
def px_Rn (g : px_g) (mid : Nat) (r : Option px_V) (pcR : Nat) (stR : List Value) : Prop :=
  (∃ x : Int32, r = some (.inl x.toInt) ∧ stR = [.int x] ∧ decode (px_B mid) pcR = .ok (.ireturn, 1) ∧ (px_R mid = some .int ∨ (px_R mid = some .boolean ∧ (x.toInt = 0 ∨ x.toInt = 1)))) ∨
  (∃ x : Int64, r = some (.inr (.inl x.toInt)) ∧ stR = [.long x] ∧ decode (px_B mid) pcR = .ok (.lreturn, 1) ∧ px_R mid = some .long) ∨
  (r = none ∧ stR = [] ∧ decode (px_B mid) pcR = .ok (.return_, 1) ∧ px_R mid = none)
/-- a run of the small machine is a run of the real one -/
def px_A (sc : List Int) (l : Launch) (D : va_G) (cA cF : ClassId) (g : px_g) (n : Nat) : Prop :=
  ∀ (d mid ip : Nat) (lv : List (Nat × Value)) (ls : Array Slot) (st : List Value) (G : List px_Sh) (f : Nat → Nat → Int32) (r : Option px_V) (G1 : List px_Sh) (f1 : Nat → Nat → Int),
  px_run sc n d mid ip (px_ul g lv) (px_us g st) (G, px_uf f) = some (r, (G1, f1)) →
  ∀ (p : Program) (e : Env) (R : Room) (s : State) (m : MethodId) (args : Array Value) (below : List Frame) (meth : Method) (c : Code) (H : Heap) (locs : List Loc) (cells slots : Nat) (Q : State → Prop),
  px_C D cA cF g mid p s m args meth c R → d + 6 ≤ R.frames → 40 * (d + 6) ≤ R.locals → px_Ex sc g s → px_I D cA cF g mid s cells G f H locs lv ls →
  cells + (G1.length - G.length) ≤ R.cells → slots + (px_sz G1 - px_sz G) ≤ R.slots →
  (∀ (pcR : Nat) (lsR : Array Slot) (stR : List Value) (fN : Nat → Nat → Int32) (HN : Heap) (locsN : List Loc), px_uf fN = f1 → va_P D px_cl (px_wd g.1 cA cF G1 fN) HN → va_S (fun q => g.1 ≤ q) s.heap HN locsN → (∀ r i, G1.length + 5 ≤ r → fN r i = 0) → px_Rn g mid r pcR stR →
    W p l e R s m args below meth c HN locsN (cells + (G1.length - G.length)) (slots + (px_sz G1 - px_sz G)) Q (F0 m pcR lsR stR)) →
  W p l e R s m args below meth c H locs cells slots Q (F0 m (px_pc mid ip) ls st)
section PXM
variable {sc : List Int} {l : Launch} {D : va_G} {cA cF : ClassId} {g : px_g}
theorem px_ofW {y : MethodName} {ws ws' : List Cond} {rm : Room} {Pc : Array Value → State → Prop} {Qc : Array Value → State → Outcome → State → Prop} {mc ms : Nat} {free : Addr → Prop} {cc : ByteArray} {maxL : Nat} {ret : Option FieldType}
    (hy : plainFor y = true) (hw : ws = Cond.code y cc maxL ret :: ws')
    (body : ∀ p e s m args below meth c s₁, BodyLoose p l y (headSpec ws rm) cc maxL ret e s m args below meth c s₁ → c.maxLocals = maxL → Pc args s →
      W p l e (headSpec ws rm).room s m args below meth c s.heap [] 0 0 (MQ below Qc args s mc ms free) (entryFrame m args maxL)) : Met l y ws rm Pc Qc mc ms free := by
  refine MetFree.of_bodyRF (code := cc) (maxLocals := maxL) (ret := ret) hy ?_ ?_
  · intro args s m h hn
    obtain ⟨meth, c, h1, h2, h3, h4, h5, h6, -, -⟩ := Cond.code_spec hn (atoms_spec (ws := ws) h _ (by rw [hw]; exact List.mem_cons_self))
    exact ⟨meth, c, h1, h2, h3, h4, h5, h6⟩
  · intro p e s m args below meth c s₁ B hml hP _ hst
    have hh0 : s₁.heap = s.heap := by rw [B.state]; rfl
    obtain ⟨t, a1, o, b1, b2, b3⟩ := body p e s m args below meth c s₁ B hml hP s₁ hh0 (Stand.of_body B)
    exact ⟨t, o, hst.trans a1, b1, b2, ⟨b3.1, b3.2⟩⟩
theorem px_kv_cat {v : Value} (h : px_kv (px_uv g v) = true) : px_cat (px_uv g v) = v.category := by
  cases v <;> first | rfl | simp [px_uv, px_kv] at h
theorem px_ag_eq : ∀ (as : List Value) (i : Nat), (∀ v ∈ as, px_kv (px_uv g v) = true) → px_ul g (lv_args i as) = px_ag i (px_us g as)
  | [], _, _ => rfl
  | v :: t, i, h => by
    have h1 := px_kv_cat (h v List.mem_cons_self)
    show (i, px_uv g v) :: px_ul g (lv_args _ t) = (i, px_uv g v) :: px_ag _ (px_us g t)
    rw [h1, px_ag_eq t _ (fun w hw => h w (List.mem_cons_of_mem _ hw))]
theorem px_ag_cc : ∀ (as : List Value) (i : Nat), (∀ v ∈ as, px_kv (px_uv g v) = true) → px_cc g (lv_args i as)
  | [], _, _ => fun _ h => by cases h
  | v :: t, i, h => by
    intro q hq
    rcases List.mem_cons.mp hq with rfl | hq
    · exact px_kv_cat (h v List.mem_cons_self)
    · exact px_ag_cc t _ (fun w hw => h w (List.mem_cons_of_mem _ hw)) q hq
theorem px_sl_len : ∀ (as : List Value), (∀ v ∈ as, px_kv (px_uv g v) = true) → (lg_sl as).length = ((px_us g as).map px_cat).sum
  | [], _ => rfl
  | v :: t, h => by
    have h1 := px_kv_cat (h v List.mem_cons_self)
    have h2 := px_sl_len t (fun w hw => h w (List.mem_cons_of_mem _ hw))
    have h3 : lg_sl (v :: t) = (if v.category = 2 then [Slot.val v, .second] else [.val v]) ++ lg_sl t := rfl
    rw [h3, List.length_append, h2, px_us_cons, List.map_cons, List.sum_cons, h1]
    rcases lv_cat v with q | q
    · rw [q, if_neg (by decide)]; rfl
    · rw [q, if_pos rfl]; rfl
theorem px_met {n d mid : Nat} (hA : px_A sc l D cA cF g n) (hpl : plainFor (px_Y mid) = true) {as : List Value} (hkv : ∀ v ∈ as, px_kv (px_uv g v) = true) (hlen : ((px_us g as).map px_cat).sum ≤ px_mL mid) (hip : px_pc mid 0 = 0) {G : List px_Sh} {f : Nat → Nat → Int32} {r : Option px_V} {G1 : List px_Sh} {f1 : Nat → Nat → Int}
    (h : px_run sc n d mid 0 (px_ag 0 (px_us g as)) [] (G, px_uf f) = some (r, (G1, f1))) :
    Met l (px_Y mid) (px_ws mid) (px_rm d (G1.length - G.length) (px_sz G1 - px_sz G)) (px_Pc sc D cA cF g as G f) (px_Qc D cA cF g r G1 f1) (G1.length - G.length) (px_sz G1 - px_sz G) (fun q => g.1 ≤ q) := by
  refine px_ofW (cc := px_B mid) (maxL := px_mL mid) (ret := px_R mid) hpl rfl ?_
  intro p e s m args below meth c s₁ B hml hv
  obtain ⟨rfl, hsz, hP, hK, hE, hz⟩ := hv
  have hts := atoms_spec (ws := px_ws mid) B.pre
  have hlocks := B.notSynchronized
  have hl := lv_entry as (n := px_mL mid) (by rw [px_sl_len (g := g) as hkv]; exact hlen)
  rw [lg_entry_eq]
  generalize (lg_sl as ++ List.replicate (px_mL mid - (lg_sl as).length) Slot.unset).toArray = ls at hl ⊢
  rw [← px_ag_eq as 0 hkv] at h
  have hC : px_C D cA cF g mid p s m as.toArray meth c (px_rm d (G1.length - G.length) (px_sz G1 - px_sz G)) :=
    ⟨B.exec, B.bytes, hml, findClass_of_methodNamed B.named, fun w hw => hts w (List.mem_cons_of_mem _ hw), hK, fun hn => by rw [(name_of_methodNamed B.named B.method).1]; exact hn, by omega, by show 6 ≤ d + 6; omega, by show 240 ≤ 40 * (d + 6); omega⟩
  have hW := hA d mid 0 (lv_args 0 as) ls [] G f r G1 f1 h p e _ s m as.toArray below meth c s.heap [] 0 0 (MQ below (px_Qc D cA cF g r G1 f1) as.toArray s (G1.length - G.length) (px_sz G1 - px_sz G) (fun q => g.1 ≤ q)) hC (Nat.le_refl _) (Nat.le_refl _) hE ⟨by omega, hP, va_S.rf, hl, px_ag_cc as 0 hkv, hz⟩ (by show 0 + (G1.length - G.length) ≤ G1.length - G.length; omega) (by show 0 + (px_sz G1 - px_sz G) ≤ px_sz G1 - px_sz G; omega) ?_
  · rw [hip] at hW
    exact hW
  · intro pcR lsR stR fN HN locsN hf1 hP1 hS1 hz1 hR
    rw [Nat.zero_add, Nat.zero_add]
    rcases hR with ⟨x, rfl, rfl, hdc, hty⟩ | ⟨x, rfl, rfl, hdc, hty⟩ | ⟨rfl, rfl, hdc, hty⟩
    · rcases hty with hty | ⟨hty, hx⟩
      · exact W.iret B.exec B.bytes (by rw [B.returns, hty]) (fun t ht _ => ⟨⟨some (.int x), fN, rfl, rfl, hf1, by rw [ht]; exact hP1, hz1⟩, hS1.F ht⟩) hS1.2.2 hdc hlocks
      · exact W.zret B.exec B.bytes (by rw [B.returns, hty]) (px_nar1 hx).1 (fun t ht _ => ⟨⟨some (.int x), fN, rfl, rfl, hf1, by rw [ht]; exact hP1, hz1⟩, hS1.F ht⟩) hS1.2.2 hdc hlocks
    · exact W.lret B.exec B.bytes (by rw [B.returns, hty]) (fun t ht _ => ⟨⟨some (.long x), fN, rfl, rfl, hf1, by rw [ht]; exact hP1, hz1⟩, hS1.F ht⟩) hS1.2.2 hdc hlocks
    · exact W.vret B.exec B.bytes (by rw [B.returns, hty]) (fun t ht _ => ⟨⟨none, fN, rfl, rfl, hf1, by rw [ht]; exact hP1, hz1⟩, hS1.F ht⟩) hS1.2.2 hdc hlocks
end PXM
