/-! THE CLAIM OUT OF ONE WALK OF THE LAW'S BODY. Your part is whole_start (and what it stands on); all else here is the same for every law, but numbers. -/
def R_law : String := "RansomPiecesLaw"
def lw_P (b : Addr) (xs : List Int32) (args : Array Value) (s : State) : Prop := args = #[.ref b] ∧ s.IntsAt b xs ∧ xs.length ≤ 3072 ∧ (Jvm.Cond.and given_1 narrow_1).before args s = true
def lw_Q (_ : Array Value) (s : State) (o : Outcome) (t : State) : Prop := o = .returned (some (.int 1)) ∧ Framed s o t [] 600000 7302250
def lw_Z (below : List Frame) (a : Array Value) (s : State) : State → Prop := fun t => ∃ o, t.status = .running ∧ Ended t below o ∧ lw_Q a s o t
/-- the law's own end, with 1 on the stack, nothing written that was there before, its room as the claim has it -/
theorem lw_ret {p : Program} {l : Launch} {e : Env} {s : State} {m : MethodId} {below : List Frame} {meth : Method} {c : Code} {b : Nat} (hx : p.tables.exec = Jvm.exec) (hb : c.code = code) (hr : meth.sig.returnType = ret) (hlocks : meth.locks = false) {pc : Nat} {H : Heap} {ls : Array Slot} (hdg : decode code pc = .ok (.ireturn, 1)) : W p l e room_1 s m #[Value.ref b] below meth c H [] 600000 7302250 (lw_Z below #[Value.ref b] s) (F0 m pc ls [.int 1]) := by
  intro T hT X
  obtain ⟨fs, hret, hrun, hended, hW, hframe⟩ := X.leave (v := some (.int 1)) (hlocks := hlocks) (fun h => by rw [hr] at h; cases h)
  have hmeth' : T.vm.method? m = some meth := X.method'
  refine ⟨T.setFrames fs, ?_, .returned (some (.int 1)), hrun, hended, rfl, ⟨_, rfl⟩, hW, hframe⟩
  jvm_step X.here [X.here.top, hx, hb, hdg, hmeth', hr, ret, narrow_b1]
  (try refine ⟨rfl, ?_⟩); (try refine ⟨rfl, ?_⟩)
  first | (intro acts; rw [hret _ acts rfl rfl rfl]) | rw [hret _ _ rfl rfl rfl]
  exact Steps.refl _
/-- what holds at the law's entry: the machine, the code, the tables' words (any of lw_tbl by 'hts w (by decide +kernel)'), the script of L ints xs at the cell b, what the Statement gives of the start (any of its parts by flat_of_before) -/
def lw_At (p : Program) (s : State) (m : MethodId) (meth : Method) (c : Code) (b L : Nat) (xs : Nat → Int32) : Prop :=
  p.tables.exec = Jvm.exec ∧ c.code = code ∧ meth.sig.returnType = ret ∧ c.maxLocals = 4 ∧ s.vm.findClass R_law = some m.cls ∧ (∀ w ∈ lw_tbl, w.before #[Value.ref b] s = true) ∧ va_X b L xs s s.heap ∧ b < s.heap.size ∧ meth.locks = false ∧ (Jvm.Cond.and given_1 narrow_1).before #[Value.ref b] s = true
def px_in1 (w : Nat) (c : Cond) : Bool := decide (px_lk2 w = some c)
theorem px_in2 {w : Nat} {c : Cond} (h : px_in1 w c = true) : c ∈ lw_tbl := px_lk2_in (of_decide_eq_true h)
abbrev px_T0 : Cond := Jvm.Cond.and given_1 narrow_1
def px_at0 (k : Nat) (c : Cond) : Bool := decide ((flatC px_T0)[k]? = some c)
theorem px_at1 {k : Nat} {c : Cond} (h : px_at0 k c = true) : c ∈ flatC px_T0 := List.mem_of_getElem? (of_decide_eq_true h)
set_option maxRecDepth 100000 in
theorem px_a_mt : (List.range 8).all (fun j => px_at0 (7 + j) (Cond.eq (.elem (.static "RansomPieces" "MOST_TOLD" "[I") (.int (Int32.ofNat j))) (.int (Int32.ofInt (px_mt.getD j 0))))) = true := by decide +kernel
set_option maxRecDepth 100000 in
theorem px_a_w0 : (List.range 138).all (fun j => px_at0 (24 + j) (Cond.eq (.elem (.field (.string "RansomPieces$Reader" 84) "java/lang/String" "value" "[B") (.int (Int32.ofNat j))) (.int ((px_byt.getD 0 []).getD j 0)))) = true := by decide +kernel
set_option maxRecDepth 100000 in
theorem px_a_w1 : (List.range 10).all (fun j => px_at0 (166 + j) (Cond.eq (.elem (.field (.string "RansomPieces$Reader" 76) "java/lang/String" "value" "[B") (.int (Int32.ofNat j))) (.int ((px_byt.getD 1 []).getD j 0)))) = true := by decide +kernel
set_option maxRecDepth 100000 in
theorem px_a_st : (px_at0 5 (Cond.arrayOf (.static "RansomPieces" "MOST_TOLD" "[I") .int) && px_at0 6 (Cond.eq (.length (.static "RansomPieces" "MOST_TOLD" "[I")) (.int (Int32.ofNat 8))) && px_at0 15 (Cond.eq (.static "java/lang/String" "COMPACT_STRINGS" "Z") (.int 1)) && px_at0 16 (Cond.isRef (.static "jdk/internal/util/Preconditions" "SIOOBE_FORMATTER" "Ljava/util/function/BiFunction;")) && px_at0 20 (Cond.exactly (.string "RansomPieces$Reader" 84) "java/lang/String") && px_at0 162 (Cond.exactly (.string "RansomPieces$Reader" 76) "java/lang/String") && px_at0 21 (Cond.eq (.field (.string "RansomPieces$Reader" 84) "java/lang/String" "coder" "B") (.int 0)) && px_at0 163 (Cond.eq (.field (.string "RansomPieces$Reader" 76) "java/lang/String" "coder" "B") (.int 0)) && px_at0 22 (Cond.arrayOf (.field (.string "RansomPieces$Reader" 84) "java/lang/String" "value" "[B") .byte) && px_at0 164 (Cond.arrayOf (.field (.string "RansomPieces$Reader" 76) "java/lang/String" "value" "[B") .byte) && px_at0 23 (Cond.eq (.length (.field (.string "RansomPieces$Reader" 84) "java/lang/String" "value" "[B")) (.int (Int32.ofNat 138))) && px_at0 165 (Cond.eq (.length (.field (.string "RansomPieces$Reader" 76) "java/lang/String" "value" "[B")) (.int (Int32.ofNat 10))) && px_at0 176 (Cond.not (Cond.eq (.string "RansomPieces$Reader" 84) (.string "RansomPieces$Reader" 76)))) = true := by decide +kernel
set_option maxRecDepth 100000 in
theorem px_a_tb : (px_in1 3033 (.laysStatic "RansomPieces" "MOST_TOLD" "[I") && px_in1 1001 (.initialized "RansomPieces") && px_in1 3078 (.laysStatic "java/lang/String" "COMPACT_STRINGS" "Z") && px_in1 1014 (.initialized "java/lang/String") && px_in1 3094 (.laysStatic "jdk/internal/util/Preconditions" "SIOOBE_FORMATTER" "Ljava/util/function/BiFunction;") && px_in1 1016 (.initialized "jdk/internal/util/Preconditions") && px_in1 3068 (.stringRef "RansomPieces$Reader" 84 px_txt0) && px_in1 3121 (.stringRef "RansomPieces$Reader" 76 px_txt1) && px_in1 2066 (.arrayOver (.object "RansomPieces$Fate"))) = true := by decide +kernel
set_option maxRecDepth 100000 in
theorem px_a_in : (List.range 12).all (fun ci => match px_cl[ci]?, px_nwi[ci]? with
  | some (C, _, N), some (wi, _) => px_wd1 wi (.instantiable C N)
  | _, _ => false) = true := by decide +kernel
set_option maxRecDepth 100000 in
theorem px_a_sz : px_G1.length ≤ 600000 ∧ px_sz px_G1 ≤ 7302250 := by decide +kernel
/-- THE PURE THEOREM that is owed: the law's loop, as a function, comes to its end with 1 -/
def px_W0 : Prop := ∀ sc : List Int, sc.length ≤ 3072 → (∀ v ∈ sc, -2147483648 ≤ v ∧ v < 2147483648) → ∃ z : px_Z, f_law sc px_z1 = some (1, z)
set_option maxHeartbeats 4000000 in
set_option maxRecDepth 100000 in
theorem px_law_run (hW : px_W0) (sc : List Int) (h1 : sc.length ≤ 3072) (h2 : ∀ v ∈ sc, -2147483648 ≤ v ∧ v < 2147483648) : ∃ (n : Nat) (z : px_Z), px_run sc n 196 282 0 [(0, .inr (.inr 1))] [] ([], px_sz0) = some (some (.inl 1), (px_G1, z)) := by
  obtain ⟨z, hz⟩ := hW sc h1 h2
  have h3 := c_law (d := 0) hz
  have h4 : px_D sc (175 + 21) 282 10 [(3, .inl 0), (2, .inr (.inr 150)), (1, .inr (.inr 5)), (0, .inr (.inr 1))] [] (px_G1, px_z1) (px_Qi (1, z)) := by
    refine px_D_ls [(0, .inr (.inr 1)), (1, .inr (.inr 5)), (2, .inr (.inr 150)), (3, .inl 0)] rfl rfl ?_ h3
    intro q hq
    simp only [List.mem_cons, List.not_mem_nil, or_false] at hq
    rcases hq with rfl | rfl | rfl | rfl <;> rfl
  obtain ⟨n, r, h, hrun, rfl, rfl⟩ := px_start h4
  exact ⟨n, z, hrun⟩
set_option maxHeartbeats 4000000 in
set_option maxRecDepth 100000 in
theorem px_whole {p : Program} {e : Env} {s : State} {m : MethodId} {below : List Frame} {meth : Method} {c : Code} (l : Launch) (hW : px_W0) (hprim : ∀ (sc : List Int) (D : va_G) (cA cF : ClassId) (g : px_g), px_Sim sc l D cA cF g (px_Ex sc g) 61 px_o_prim) {b L : Nat} {xs : Nat → Int32} (hL : L ≤ 3072) (C0 : lw_At p s m meth c b L xs) : W p l e room_1 s m #[Value.ref b] below meth c s.heap [] 0 0 (lw_Z below #[Value.ref b] s) (entryFrame m ([Value.ref b] : List Value).toArray 4) := by
  obtain ⟨hx, hb, hr, hml, hown, hts, hX, hbl, hlocks, hgv⟩ := C0
  have hs := flat_of_before _ hgv
  have hA : ∀ a : Nat, a < s.heap.size → ¬ s.heap.size ≤ a := fun a h => Nat.not_le.mpr h
  have hst := px_a_st
  simp only [Bool.and_eq_true] at hst
  obtain ⟨⟨⟨⟨⟨⟨⟨⟨⟨⟨⟨⟨e5, e6⟩, e15⟩, e16⟩, e20⟩, e162⟩, e21⟩, e163⟩, e22⟩, e164⟩, e23⟩, e165⟩, e176⟩ := hst
  have htb := px_a_tb
  simp only [Bool.and_eq_true] at htb
  obtain ⟨⟨⟨⟨⟨⟨⟨⟨t1, t2⟩, t3⟩, t4⟩, t5⟩, t6⟩, t7⟩, t8⟩, t9⟩ := htb
  obtain ⟨mt, hmt, hT⟩ := va_Tof (tm := .static "RansomPieces" "MOST_TOLD" "[I") (ty := .int) (N := 8) (f := fun j => .int (Int32.ofInt (px_mt.getD j 0))) (A := fun q => s.heap.size ≤ q) (by decide) (hs _ (px_at1 e5)) (va_eqt (hs _ (px_at1 e6))) (fun j hj => va_eqt (hs _ (px_at1 (List.all_eq_true.mp px_a_mt j (List.mem_range.mpr hj))))) hA
  have hZ := va_Zref (A := fun q => s.heap.size ≤ q) (hts _ (px_in2 t1)) (hts _ (px_in2 t2)) hmt hA
  have hZ2 := va_Zof (A := fun q => s.heap.size ≤ q) (hts _ (px_in2 t3)) (hts _ (px_in2 t4)) (va_eqt (hs _ (px_at1 e15))) hA
  have hZ3 := va_Zqof (A := fun q => s.heap.size ≤ q) (hts _ (px_in2 t5)) (hts _ (px_in2 t6)) (hs _ (px_at1 e16)) hA
  obtain ⟨adK, adV, hSt, hev⟩ := vk_Sof (args := #[Value.ref b]) (s := s) (N := 2) (tm := fun i => if i = 0 then .string "RansomPieces$Reader" 84 else .string "RansomPieces$Reader" 76) (len := [px_words.length, px_signs.length]) (byt := px_byt) (A := fun q => s.heap.size ≤ q)
    (fun i hi => by rcases (show i = 0 ∨ i = 1 by omega) with rfl | rfl <;> decide +kernel)
    (fun i hi => by rcases (show i = 0 ∨ i = 1 by omega) with rfl | rfl; exact hs _ (px_at1 e20); exact hs _ (px_at1 e162))
    (fun i hi => by rcases (show i = 0 ∨ i = 1 by omega) with rfl | rfl; exact hs _ (px_at1 e21); exact hs _ (px_at1 e163))
    (fun i hi => by rcases (show i = 0 ∨ i = 1 by omega) with rfl | rfl; exact hs _ (px_at1 e22); exact hs _ (px_at1 e164))
    (fun i hi => by rcases (show i = 0 ∨ i = 1 by omega) with rfl | rfl; exact hs _ (px_at1 e23); exact hs _ (px_at1 e165))
    (fun i hi j hj => by
      rcases (show i = 0 ∨ i = 1 by omega) with rfl | rfl
      · exact hs _ (px_at1 (List.all_eq_true.mp px_a_w0 j (List.mem_range.mpr hj)))
      · exact hs _ (px_at1 (List.all_eq_true.mp px_a_w1 j (List.mem_range.mpr hj))))
    (fun i j hi hj hij => by
      rcases (show i = 0 ∨ i = 1 by omega) with rfl | rfl
      · rcases (show j = 0 ∨ j = 1 by omega) with rfl | rfl
        · exact absurd rfl hij
        · exact Or.inl (hs _ (px_at1 e176))
      · rcases (show j = 0 ∨ j = 1 by omega) with rfl | rfl
        · exact Or.inr (hs _ (px_at1 e176))
        · exact absurd rfl hij) hA
  have htG : ∀ w ∈ px_G, w.before #[Value.ref b] s = true := fun w hw => hts w (List.mem_filter.mp hw).1
  have hKc : ∃ D : va_G, ∀ (c : Nat) (q : vw_C), px_cl[c]? = some q → u_Kn s q.1 q.2.1 q.2.2 (D.1 c) (D.2 c) := by
    have h : ∀ c : Nat, ∃ w : ClassId × (Nat → Nat), ∀ q : vw_C, px_cl[c]? = some q → u_Kn s q.1 q.2.1 q.2.2 w.1 w.2 := by
      intro c
      cases hc : px_cl[c]? with
      | none => exact ⟨(0, fun _ => 0), fun q h => by cases h⟩
      | some q =>
        obtain ⟨C, T, N⟩ := q
        have h1 := List.all_eq_true.mp px_a_in c (List.mem_range.mpr (px_cl_len hc))
        rw [hc] at h1
        split at h1
        · rename_i C2 T2 N2 wi wj hq hn
          cases hq
          obtain ⟨cC, iS, hK⟩ := u_known htG (px_cl_in hc) (htG _ (px_in h1))
          exact ⟨(cC, iS), fun q h => by cases h; exact hK⟩
        · cases h1
    obtain ⟨w, hw⟩ := Classical.axiomOfChoice h
    exact ⟨(fun c => (w c).1, fun c => (w c).2), fun c q hq => hw c q hq⟩
  obtain ⟨D, hD⟩ := hKc
  obtain ⟨cA, kA, compA, a1, a2, a3⟩ := Cond.arrayClass_spec (htG _ px_w_ai)
  obtain ⟨comp, cF, kF, f1, f2, f3, f4, f5⟩ := Cond.arrayOver_spec (hts _ (px_in2 t9))
  have hK : va_K D px_cl (px_tys cA cF) s := by
    refine ⟨hD, fun k q hq => ?_⟩
    have hk : k < 2 := (List.getElem?_eq_some_iff.mp hq).1
    rcases (show k = 0 ∨ k = 1 by omega) with rfl | rfl
    · cases hq
      exact ⟨fun n z => ⟨fun k h => (by cases h), kA, a2, compA, a3⟩, a1⟩
    · cases hq
      exact ⟨fun n z => ⟨fun k h => (by cases h), kF, f3, comp, f4⟩, kF, comp, f3, f4, f1, f5⟩
  let g : px_g := (s.heap.size, b, mt, adK 0, adK 1)
  let sc : List Int := (List.range L).map (fun j => (xs j).toInt)
  have hscl : sc.length = L := by simp [sc]
  have hE : px_Ex sc g s := by
    refine ⟨va_AO.of (hts _ (px_in2 t9)), fun w hw hm => ?_, hZ, ⟨fun j => Int32.ofInt (px_mt.getD j 0), hT, ?_⟩, ⟨L, xs, hX, hbl, by omega, hscl, ?_⟩, vk_R.of (hts _ (px_in2 t7)) (hev 0 (by omega)), vk_R.of (hts _ (px_in2 t8)) (hev 1 (by omega)), ⟨adK, adV, hSt, rfl, rfl⟩, hZ2, hZ3⟩
    · obtain ⟨x1, x2, x3, x4, rfl⟩ := hm
      exact va_Nw.of rfl (hts _ hw)
    · intro j v hv
      have hj : j < 8 := (List.getElem?_eq_some_iff.mp hv).1
      have hd : px_mt.getD j 0 = v := by rw [List.getD_eq_getElem?_getD, hv]; rfl
      show (Int32.ofInt (px_mt.getD j 0)).toInt = v
      rw [hd]
      have hall : (List.range 8).all (fun j => decide ((Int32.ofInt (px_mt.getD j 0)).toInt = px_mt.getD j 0)) = true := by decide +kernel
      have h9 := of_decide_eq_true (List.all_eq_true.mp hall j (List.mem_range.mpr hj))
      rw [hd] at h9
      exact h9
    · intro j v hv
      have hj : j < L := by rw [← hscl]; exact (List.getElem?_eq_some_iff.mp hv).1
      simp [sc, hj] at hv
      exact hv
  obtain ⟨n, z, hrun⟩ := px_law_run hW sc (by omega) (fun v hv => by
    obtain ⟨j, -, rfl⟩ := List.mem_map.mp hv
    have h1 := Int32.le_toInt (xs j)
    have h2 := Int32.toInt_lt (xs j)
    omega)
  have hl := lv_entry ([.ref b]) (n := 4) (Nat.le_of_ble_eq_true rfl)
  rw [lg_entry_eq]
  generalize (lg_sl ([.ref b]) ++ List.replicate (4 - (lg_sl ([.ref b])).length) Slot.unset).toArray = ls at hl ⊢
  have hix : px_ix g b = 1 := by
    show (if s.heap.size ≤ b then b - s.heap.size + 5 else if b = b then 1 else 0) = 1
    rw [if_neg (by omega), if_pos rfl]
  have hu0 : px_uf (fun _ _ => 0) = px_sz0 := by
    funext k i
    rfl
  have hrun2 : px_run sc n 196 282 0 (px_ul g [(0, .ref b)]) (px_us g []) ([], px_uf (fun _ _ => 0)) = some (some (.inl 1), (px_G1, z)) := by
    rw [hu0]
    show px_run sc n 196 282 0 [(0, .inr (.inr (px_ix g b)))] [] ([], px_sz0) = _
    rw [hix]
    exact hrun
  have hpc : px_pc 282 0 = 0 := rfl
  have hfin := px_simA px_hv (hprim sc D cA cF g) n 196 282 0 [(0, .ref b)] ls [] [] (fun _ _ => 0) (some (.inl 1)) px_G1 z hrun2 p e room_1 s m #[Value.ref b] below meth c s.heap [] 0 0 (lw_Z below #[Value.ref b] s)
    ⟨hx, hb, hml, hown, htG, hK, fun hn => absurd hn (by decide +kernel), Nat.le_refl _, by decide, by decide⟩ (by decide) (by decide) hE
    ⟨rfl, fun k q h => by simp [px_wd] at h, va_S.rf, hl, fun q hq => by
      simp only [List.mem_cons, List.not_mem_nil, or_false] at hq
      rw [hq]
      rfl, fun _ _ _ => rfl⟩ (by show 0 + (px_G1.length - 0) ≤ 600000; have := px_a_sz.1; omega) (by show 0 + (px_sz px_G1 - 0) ≤ 7302250; have := px_a_sz.2; omega) ?_
  · rw [hpc] at hfin
    exact hfin
  · intro pcR lsR stR fN HN locsN hf1 hP1 hS1 hz1 hR
    rcases hR with ⟨x, hx1, rfl, hdc, -⟩ | ⟨x, hx1, -⟩ | ⟨hx1, -⟩
    · have hx2 : x.toInt = 1 := (Sum.inl.inj (Option.some.inj hx1)).symm
      have hx3 : x = 1 := Int32.toInt_inj.mp (by rw [hx2]; rfl)
      subst hx3
      refine va_forget (fun q hq => hS1.2.2 q hq) ?_
      refine W.widen (k := 600000) (n := 7302250) (by show 0 + (px_G1.length - 0) ≤ 600000; have := px_a_sz.1; omega) (by show 0 + (px_sz px_G1 - 0) ≤ 7302250; have := px_a_sz.2; omega) ?_
      exact lw_ret hx hb hr hlocks hdc
    · cases (Option.some.inj hx1)
    · cases hx1
