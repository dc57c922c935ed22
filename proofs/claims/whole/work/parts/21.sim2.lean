def px_tys (cA cF : ClassId) : List (ClassId × FieldType) := [(cA, .int), (cF, .object "RansomPieces$Fate")]
def px_sz (G : List px_Sh) : Nat := (G.map (fun s => s.2.1)).sum
/-- what holds all through a method's run -/
def px_C (D : va_G) (cA cF : ClassId) (g : px_g) (mid : Nat) (p : Program) (s : State) (m : MethodId) (args : Array Value) (meth : Method) (c : Code) (R : Room) : Prop :=
  p.tables.exec = Jvm.exec ∧ c.code = px_B mid ∧ c.maxLocals = px_mL mid ∧ s.vm.findClass (px_O mid) = some m.cls ∧ (∀ w ∈ px_G, w.before args s = true) ∧ va_K D px_cl (px_tys cA cF) s ∧ ((px_Y mid).name = "<init>" → meth.name = "<init>") ∧ g.1 ≤ s.heap.size ∧ 6 ≤ R.frames ∧ 240 ≤ R.locals
/-- what holds at each of its instructions -/
def px_I (D : va_G) (cA cF : ClassId) (g : px_g) (mid : Nat) (s : State) (cells : Nat) (G : List px_Sh) (f : Nat → Nat → Int32) (H : Heap) (locs : List Loc) (lv : List (Nat × Value)) (ls : Array Slot) : Prop :=
  s.heap.size + cells = g.1 + G.length ∧ va_P D px_cl (px_wd g.1 cA cF G f) H ∧ va_S (fun q => g.1 ≤ q) s.heap H locs ∧ lv_has ls (px_mL mid) lv ∧ px_cc g lv ∧ ∀ r i, G.length + 5 ≤ r → f r i = 0
/-- the instruction k is done by the real machine as F does it -/
def px_Sim (sc : List Int) (l : Launch) (D : va_G) (cA cF : ClassId) (g : px_g) (Ex : State → Prop) (k : Nat) (F : px_F) : Prop :=
  ∀ (mid ip pc : Nat) (a : List Int) (ins : Instr) (len : Nat), px_e mid ip = some (pc, k, a) → px_dec (px_pc mid) pc k a = some (ins, len) → decode (px_B mid) pc = .ok (ins, len) → (px_stop k = true ∨ px_pc mid (ip + 1) = pc + len) → px_ex mid k a = true →
  ∀ (p : Program) (e : Env) (R : Room) (s : State) (m : MethodId) (args : Array Value) (below : List Frame) (meth : Method) (c : Code) (H : Heap) (locs : List Loc) (cells slots : Nat) (Q : State → Prop) (lv : List (Nat × Value)) (ls : Array Slot) (st : List Value) (G : List px_Sh) (f : Nat → Nat → Int32) (ip1 : Nat) (ls1 : px_L) (st1 : List px_V) (G1 : List px_Sh) (f1 : Nat → Nat → Int),
  px_C D cA cF g mid p s m args meth c R → Ex s → px_I D cA cF g mid s cells G f H locs lv ls → F sc a ip (px_ul g lv) (px_us g st) (G, px_uf f) = some (ip1, ls1, st1, (G1, f1)) →
  cells + (G1.length - G.length) ≤ R.cells → slots + (px_sz G1 - px_sz G) ≤ R.slots →
  (∀ (lvN : List (Nat × Value)) (lsN : Array Slot) (stN : List Value) (fN : Nat → Nat → Int32) (HN : Heap) (locsN : List Loc), px_ul g lvN = ls1 → px_us g stN = st1 → px_uf fN = f1 → px_I D cA cF g mid s (cells + (G1.length - G.length)) G1 fN HN locsN lvN lsN →
    W p l e R s m args below meth c HN locsN (cells + (G1.length - G.length)) (slots + (px_sz G1 - px_sz G)) Q (F0 m (px_pc mid ip1) lsN stN)) →
  W p l e R s m args below meth c H locs cells slots Q (F0 m pc ls st)
/-- the heap has just the cells that the list has -/
theorem px_sized {D : va_G} {cA cF : ClassId} {g : px_g} {mid : Nat} {p : Program} {l : Launch} {e : Env} {R : Room} {s : State} {m : MethodId} {args : Array Value} {below : List Frame} {meth : Method} {c : Code} {H : Heap} {locs : List Loc} {cells slots : Nat} {Q : State → Prop} {fr : JFrame} {G : List px_Sh} {f : Nat → Nat → Int32} {lv : List (Nat × Value)} {ls : Array Slot}
    (hn : g.1 ≤ s.heap.size) (hI : px_I D cA cF g mid s cells G f H locs lv ls) (k : H.size = g.1 + G.length → W p l e R s m args below meth c H locs cells slots Q fr) : W p l e R s m args below meth c H locs cells slots Q fr := by
  intro T hT X
  refine k ?_ T hT X
  have h1 : T.heap.size ≤ s.heap.size + cells := X.same.2.2.1
  rw [hT, hI.1] at h1
  have h2 := hI.2.2.1.1
  refine Nat.le_antisymm h1 ?_
  cases hG : G.length with
  | zero => omega
  | succ n =>
    have hlt : n < G.length := by omega
    have h3 := (hI.2.1 n _ (px_wd_at f (List.getElem?_eq_getElem hlt))).lt
    have h4 : g.1 + n < H.size := h3
    omega
theorem px_z (n : Nat) (k : Nat) : n + (k - k) = n := by omega
section PXO
variable {sc : List Int} {l : Launch} {D : va_G} {cA cF : ClassId} {g : px_g} {Ex : State → Prop}
theorem px_sim_iconst : px_Sim sc l D cA cF g Ex 4 px_o_const := by
  intro mid ip pc a ins len he hd hdc hnx hex p e R s m args below meth c H locs cells slots Q lv ls st G f ip1 ls1 st1 G1 f1 hC hE hI hF hc hs kk
  match a, hd, hF, hex with
  | [v], hd, hF, hex =>
    cases hd; cases hF
    have hv : (Int32.ofInt v).toInt = v := by simpa [px_ex] using hex
    have hnx := hnx.resolve_left (by decide)
    simp only [px_z] at kk
    refine lv_iconst (v := Int32.ofInt v) hC.1 hC.2.1 hdc rfl ?_
    rw [← hnx]
    exact kk lv ls _ f H locs rfl (by rw [px_us_cons]; show Sum.inl (Int32.ofInt v).toInt :: _ = _; rw [hv]) rfl hI
theorem px_sim_bipush : px_Sim sc l D cA cF g Ex 5 px_o_const := by
  intro mid ip pc a ins len he hd hdc hnx hex p e R s m args below meth c H locs cells slots Q lv ls st G f ip1 ls1 st1 G1 f1 hC hE hI hF hc hs kk
  match a, hd, hF, hex with
  | [v], hd, hF, hex =>
    cases hd; cases hF
    have hv : (Int8.ofInt v).toInt32.toInt = v := by simpa [px_ex] using hex
    have hnx := hnx.resolve_left (by decide)
    simp only [px_z] at kk
    refine lv_bipush (v := (Int8.ofInt v).toInt32) hC.1 hC.2.1 hdc rfl ?_
    rw [← hnx]
    exact kk lv ls _ f H locs rfl (by rw [px_us_cons]; show Sum.inl (Int8.ofInt v).toInt32.toInt :: _ = _; rw [hv]) rfl hI
theorem px_sim_sipush : px_Sim sc l D cA cF g Ex 6 px_o_const := by
  intro mid ip pc a ins len he hd hdc hnx hex p e R s m args below meth c H locs cells slots Q lv ls st G f ip1 ls1 st1 G1 f1 hC hE hI hF hc hs kk
  match a, hd, hF, hex with
  | [v], hd, hF, hex =>
    cases hd; cases hF
    have hv : (Int16.ofInt v).toInt32.toInt = v := by simpa [px_ex] using hex
    have hnx := hnx.resolve_left (by decide)
    simp only [px_z] at kk
    refine lv_sipush (v := (Int16.ofInt v).toInt32) hC.1 hC.2.1 hdc rfl ?_
    rw [← hnx]
    exact kk lv ls _ f H locs rfl (by rw [px_us_cons]; show Sum.inl (Int16.ofInt v).toInt32.toInt :: _ = _; rw [hv]) rfl hI
theorem px_sim_ldc : px_Sim sc l D cA cF g Ex 7 px_o_const := by
  intro mid ip pc a ins len he hd hdc hnx hex p e R s m args below meth c H locs cells slots Q lv ls st G f ip1 ls1 st1 G1 f1 hC hE hI hF hc hs kk
  match a, hd, hF, hex with
  | [v, ix, w], hd, hF, hex =>
    cases hd; cases hF
    simp only [px_ex, Bool.and_eq_true, beq_iff_eq] at hex
    have hnx := hnx.resolve_left (by decide)
    simp only [px_z] at kk
    refine lv_ldc (v := Int32.ofInt v) hC.1 hC.2.1 hC.2.2.2.1 (hC.2.2.2.2.1 _ (px_in hex.2)) hdc ?_
    rw [← hnx]
    exact kk lv ls _ f H locs rfl (by rw [px_us_cons]; show Sum.inl (Int32.ofInt v).toInt :: _ = _; rw [hex.1]) rfl hI
theorem px_sim_ldcw : px_Sim sc l D cA cF g Ex 8 px_o_const := by
  intro mid ip pc a ins len he hd hdc hnx hex p e R s m args below meth c H locs cells slots Q lv ls st G f ip1 ls1 st1 G1 f1 hC hE hI hF hc hs kk
  match a, hd, hF, hex with
  | [v, ix, w], hd, hF, hex =>
    cases hd; cases hF
    simp only [px_ex, Bool.and_eq_true, beq_iff_eq] at hex
    have hnx := hnx.resolve_left (by decide)
    simp only [px_z] at kk
    refine lv_ldcw (v := Int32.ofInt v) hC.1 hC.2.1 hC.2.2.2.1 (hC.2.2.2.2.1 _ (px_in hex.2)) hdc ?_
    rw [← hnx]
    exact kk lv ls _ f H locs rfl (by rw [px_us_cons]; show Sum.inl (Int32.ofInt v).toInt :: _ = _; rw [hex.1]) rfl hI
theorem px_sim_iload_n : px_Sim sc l D cA cF g Ex 9 px_o_iload := by
  intro mid ip pc a ins len he hd hdc hnx hex p e R s m args below meth c H locs cells slots Q lv ls st G f ip1 ls1 st1 G1 f1 hC hE hI hF hc hs kk
  match a, hd, hF, hex with
  | [i], hd, hF, hex =>
    cases hd
    have hi : i.toNat < 4 := by simpa [px_ex] using hex
    have hnx := hnx.resolve_left (by decide)
    simp only [px_o_iload] at hF
    split at hF
    · rename_i v hv
      cases hF
      obtain ⟨w, hw, hm⟩ := px_ld_inv hv
      obtain ⟨x, rfl, hx⟩ := px_uv_int hw
      simp only [px_z] at kk
      refine lv_iload_n (i := i.toNat) hC.1 hC.2.1 hdc (Nat.mod_eq_of_lt hi) (hI.2.2.2.1.2.2 _ hm) ?_
      rw [← hnx]
      exact kk lv ls _ f H locs rfl (by rw [px_us_cons, ← hw]) rfl hI
    · cases hF
theorem px_sim_iload : px_Sim sc l D cA cF g Ex 10 px_o_iload := by
  intro mid ip pc a ins len he hd hdc hnx hex p e R s m args below meth c H locs cells slots Q lv ls st G f ip1 ls1 st1 G1 f1 hC hE hI hF hc hs kk
  match a, hd, hF, hex with
  | [i], hd, hF, hex =>
    cases hd
    have hnx := hnx.resolve_left (by decide)
    simp only [px_o_iload] at hF
    split at hF
    · rename_i v hv
      cases hF
      obtain ⟨w, hw, hm⟩ := px_ld_inv hv
      obtain ⟨x, rfl, hx⟩ := px_uv_int hw
      simp only [px_z] at kk
      refine lv_iload (i := i.toNat) hC.1 hC.2.1 hdc (hI.2.2.2.1.2.2 _ hm) ?_
      rw [← hnx]
      exact kk lv ls _ f H locs rfl (by rw [px_us_cons, ← hw]) rfl hI
    · cases hF
theorem px_sim_istore_n : px_Sim sc l D cA cF g Ex 11 px_o_istore := by
  intro mid ip pc a ins len he hd hdc hnx hex p e R s m args below meth c H locs cells slots Q lv ls st G f ip1 ls1 st1 G1 f1 hC hE hI hF hc hs kk
  match a, hd, hF, hex with
  | [i], hd, hF, hex =>
    cases hd
    simp only [px_ex, Bool.and_eq_true, decide_eq_true_eq] at hex
    have hnx := hnx.resolve_left (by decide)
    simp only [px_o_istore] at hF
    split at hF
    · rename_i h1 h2
      cases h1
      cases hF
      obtain ⟨x, st', rfl, rfl, rfl⟩ := px_pI_inv h2
      simp only [px_z] at kk
      refine lv_istore_n (i := i.toNat) hC.1 hC.2.1 hdc (Nat.mod_eq_of_lt hex.1) hI.2.2.2.1 hex.2 rfl (fun lsN hlN => ?_)
      rw [← hnx]
      exact kk _ lsN st' f H locs (px_s1_eq hI.2.2.2.2.1 i.toNat (.int x)).symm rfl rfl ⟨hI.1, hI.2.1, hI.2.2.1, hlN, px_cc_cons hI.2.2.2.2.1 rfl, hI.2.2.2.2.2⟩
    · cases hF
theorem px_sim_iadd : px_Sim sc l D cA cF g Ex 14 (px_bin (fun x y => some (px_wr (x + y)))) := by
  intro mid ip pc a ins len he hd hdc hnx hex p e R s m args below meth c H locs cells slots Q lv ls st G f ip1 ls1 st1 G1 f1 hC hE hI hF hc hs kk
  cases hd
  have hnx := hnx.resolve_left (by decide)
  simp only [px_bin] at hF
  split at hF
  · rename_i y st2 h1
    obtain ⟨yv, st3, rfl, rfl, rfl⟩ := px_pI_inv h1
    split at hF
    · rename_i x st4 h2
      obtain ⟨xv, st5, rfl, rfl, rfl⟩ := px_pI_inv h2
      cases hF
      simp only [px_z] at kk
      refine lv_iadd hC.1 hC.2.1 hdc ?_
      rw [← hnx]
      exact kk lv ls _ f H locs rfl (by rw [px_us_cons]; show Sum.inl (xv + yv).toInt :: _ = _; rw [Int32.toInt_add]; rfl) rfl hI
    · cases hF
  · cases hF
end PXO
