set_option maxRecDepth 100000 in
theorem px_mrows : (Jvm.natives.all fun r => r.cls != "java/lang/Math" || r.desc != "(II)I") = true := by decide +kernel
theorem px_mplain {x : MethodName} (hc : x.cls = "java/lang/Math") (hd : x.desc = "(II)I") : plainFor x = true := by
  unfold plainFor
  rw [Bool.or_eq_true]; right
  rw [Option.isNone_iff_eq_none, NativeRow.find?, List.find?_eq_none]
  intro r hr h
  have := List.all_eq_true.mp px_mrows r hr
  simp only [Bool.and_eq_true, beq_iff_eq] at h
  rw [h.1.2, h.2, hc, hd] at this
  simp at this
def px_le (h h1 : px_H) : Prop := h.1.length ≤ h1.1.length ∧ px_sz h.1 ≤ px_sz h1.1
theorem px_le_rf (h : px_H) : px_le h h := ⟨Nat.le_refl _, Nat.le_refl _⟩
theorem px_le_tr {a b c : px_H} (h1 : px_le a b) (h2 : px_le b c) : px_le a c := ⟨Nat.le_trans h1.1 h2.1, Nat.le_trans h1.2 h2.2⟩
theorem px_le_f {G : List px_Sh} {f f1 : Nat → Nat → Int} : px_le (G, f) (G, f1) := ⟨Nat.le_refl _, Nat.le_refl _⟩
theorem px_le_set {G : List px_Sh} {f f1 : Nat → Nat → Int} {k : Nat} {c n : Nat} {rs rs1 : List (Option Nat)} (h : G[k]? = some (c, n, rs)) : px_le (G, f) (G.set k (c, n, rs1), f1) :=
  ⟨by simp, by rw [px_sz_set (G := G) (k := k) (sh := (c, n, rs)) (sh' := (c, n, rs1)) h rfl]; exact Nat.le_refl _⟩
theorem px_le_app {G : List px_Sh} {f f1 : Nat → Nat → Int} {sh : px_Sh} : px_le (G, f) (G ++ [sh], f1) := ⟨by simp, by rw [px_sz_app]; exact Nat.le_add_right _ _⟩
def px_Mo (F : px_F) : Prop := ∀ (sc a : List Int) (ip : Nat) (ls : px_L) (st : List px_V) (G : List px_Sh) (f : Nat → Nat → Int) (ip1 : Nat) (ls1 : px_L) (st1 : List px_V) (h1 : px_H), F sc a ip ls st (G, f) = some (ip1, ls1, st1, h1) → px_le (G, f) h1

theorem px_mo_const : px_Mo px_o_const := by
  intro sc a ip ls st G f ip1 ls1 st1 h1 h
  simp only [px_o_const, Bool.cond_eq_ite] at h
  repeat' split at h
  all_goals first | (cases h; done) | (cases h; exact px_le_f) | (cases h; exact px_le_app) | (cases h; exact px_le_set (by assumption))
theorem px_mo_iload : px_Mo px_o_iload := by
  intro sc a ip ls st G f ip1 ls1 st1 h1 h
  simp only [px_o_iload, Bool.cond_eq_ite] at h
  repeat' split at h
  all_goals first | (cases h; done) | (cases h; exact px_le_f) | (cases h; exact px_le_app) | (cases h; exact px_le_set (by assumption))
theorem px_mo_lload : px_Mo px_o_lload := by
  intro sc a ip ls st G f ip1 ls1 st1 h1 h
  simp only [px_o_lload, Bool.cond_eq_ite] at h
  repeat' split at h
  all_goals first | (cases h; done) | (cases h; exact px_le_f) | (cases h; exact px_le_app) | (cases h; exact px_le_set (by assumption))
theorem px_mo_aload : px_Mo px_o_aload := by
  intro sc a ip ls st G f ip1 ls1 st1 h1 h
  simp only [px_o_aload, Bool.cond_eq_ite] at h
  repeat' split at h
  all_goals first | (cases h; done) | (cases h; exact px_le_f) | (cases h; exact px_le_app) | (cases h; exact px_le_set (by assumption))
theorem px_mo_istore : px_Mo px_o_istore := by
  intro sc a ip ls st G f ip1 ls1 st1 h1 h
  simp only [px_o_istore, Bool.cond_eq_ite] at h
  repeat' split at h
  all_goals first | (cases h; done) | (cases h; exact px_le_f) | (cases h; exact px_le_app) | (cases h; exact px_le_set (by assumption))
theorem px_mo_lstore : px_Mo px_o_lstore := by
  intro sc a ip ls st G f ip1 ls1 st1 h1 h
  simp only [px_o_lstore, Bool.cond_eq_ite] at h
  repeat' split at h
  all_goals first | (cases h; done) | (cases h; exact px_le_f) | (cases h; exact px_le_app) | (cases h; exact px_le_set (by assumption))
theorem px_mo_astore : px_Mo px_o_astore := by
  intro sc a ip ls st G f ip1 ls1 st1 h1 h
  simp only [px_o_astore, Bool.cond_eq_ite] at h
  repeat' split at h
  all_goals first | (cases h; done) | (cases h; exact px_le_f) | (cases h; exact px_le_app) | (cases h; exact px_le_set (by assumption))
theorem px_mo_iinc : px_Mo px_o_iinc := by
  intro sc a ip ls st G f ip1 ls1 st1 h1 h
  simp only [px_o_iinc, Bool.cond_eq_ite] at h
  repeat' split at h
  all_goals first | (cases h; done) | (cases h; exact px_le_f) | (cases h; exact px_le_app) | (cases h; exact px_le_set (by assumption))
theorem px_mo_lcmp : px_Mo px_o_lcmp := by
  intro sc a ip ls st G f ip1 ls1 st1 h1 h
  simp only [px_o_lcmp, Bool.cond_eq_ite] at h
  repeat' split at h
  all_goals first | (cases h; done) | (cases h; exact px_le_f) | (cases h; exact px_le_app) | (cases h; exact px_le_set (by assumption))
theorem px_mo_icmp : px_Mo px_o_icmp := by
  intro sc a ip ls st G f ip1 ls1 st1 h1 h
  simp only [px_o_icmp, Bool.cond_eq_ite] at h
  repeat' split at h
  all_goals first | (cases h; done) | (cases h; exact px_le_f) | (cases h; exact px_le_app) | (cases h; exact px_le_set (by assumption))
theorem px_mo_ifc : px_Mo px_o_ifc := by
  intro sc a ip ls st G f ip1 ls1 st1 h1 h
  simp only [px_o_ifc, Bool.cond_eq_ite] at h
  repeat' split at h
  all_goals first | (cases h; done) | (cases h; exact px_le_f) | (cases h; exact px_le_app) | (cases h; exact px_le_set (by assumption))
theorem px_mo_goto : px_Mo px_o_goto := by
  intro sc a ip ls st G f ip1 ls1 st1 h1 h
  simp only [px_o_goto, Bool.cond_eq_ite] at h
  repeat' split at h
  all_goals first | (cases h; done) | (cases h; exact px_le_f) | (cases h; exact px_le_app) | (cases h; exact px_le_set (by assumption))
theorem px_mo_tsw : px_Mo px_o_tsw := by
  intro sc a ip ls st G f ip1 ls1 st1 h1 h
  simp only [px_o_tsw, Bool.cond_eq_ite] at h
  repeat' split at h
  all_goals first | (cases h; done) | (cases h; exact px_le_f) | (cases h; exact px_le_app) | (cases h; exact px_le_set (by assumption))
theorem px_mo_lsw : px_Mo px_o_lsw := by
  intro sc a ip ls st G f ip1 ls1 st1 h1 h
  simp only [px_o_lsw, Bool.cond_eq_ite] at h
  repeat' split at h
  all_goals first | (cases h; done) | (cases h; exact px_le_f) | (cases h; exact px_le_app) | (cases h; exact px_le_set (by assumption))
theorem px_mo_dup : px_Mo px_o_dup := by
  intro sc a ip ls st G f ip1 ls1 st1 h1 h
  simp only [px_o_dup, Bool.cond_eq_ite] at h
  repeat' split at h
  all_goals first | (cases h; done) | (cases h; exact px_le_f) | (cases h; exact px_le_app) | (cases h; exact px_le_set (by assumption))
theorem px_mo_pop : px_Mo px_o_pop := by
  intro sc a ip ls st G f ip1 ls1 st1 h1 h
  simp only [px_o_pop, Bool.cond_eq_ite] at h
  repeat' split at h
  all_goals first | (cases h; done) | (cases h; exact px_le_f) | (cases h; exact px_le_app) | (cases h; exact px_le_set (by assumption))
theorem px_mo_dup2 : px_Mo px_o_dup2 := by
  intro sc a ip ls st G f ip1 ls1 st1 h1 h
  simp only [px_o_dup2, Bool.cond_eq_ite] at h
  repeat' split at h
  all_goals first | (cases h; done) | (cases h; exact px_le_f) | (cases h; exact px_le_app) | (cases h; exact px_le_set (by assumption))
theorem px_mo_getf : px_Mo px_o_getf := by
  intro sc a ip ls st G f ip1 ls1 st1 h1 h
  simp only [px_o_getf, Bool.cond_eq_ite] at h
  repeat' split at h
  all_goals first | (cases h; done) | (cases h; exact px_le_f) | (cases h; exact px_le_app) | (cases h; exact px_le_set (by assumption))
theorem px_mo_putf : px_Mo px_o_putf := by
  intro sc a ip ls st G f ip1 ls1 st1 h1 h
  simp only [px_o_putf, Bool.cond_eq_ite] at h
  repeat' split at h
  all_goals first | (cases h; done) | (cases h; exact px_le_f) | (cases h; exact px_le_app) | (cases h; exact px_le_set (by assumption))
theorem px_mo_iald : px_Mo px_o_iald := by
  intro sc a ip ls st G f ip1 ls1 st1 h1 h
  simp only [px_o_iald, Bool.cond_eq_ite] at h
  repeat' split at h
  all_goals first | (cases h; done) | (cases h; exact px_le_f) | (cases h; exact px_le_app) | (cases h; exact px_le_set (by assumption))
theorem px_mo_iast : px_Mo px_o_iast := by
  intro sc a ip ls st G f ip1 ls1 st1 h1 h
  simp only [px_o_iast, Bool.cond_eq_ite] at h
  repeat' split at h
  all_goals first | (cases h; done) | (cases h; exact px_le_f) | (cases h; exact px_le_app) | (cases h; exact px_le_set (by assumption))
theorem px_mo_alen : px_Mo px_o_alen := by
  intro sc a ip ls st G f ip1 ls1 st1 h1 h
  simp only [px_o_alen, Bool.cond_eq_ite] at h
  repeat' split at h
  all_goals first | (cases h; done) | (cases h; exact px_le_f) | (cases h; exact px_le_app) | (cases h; exact px_le_set (by assumption))
theorem px_mo_aald : px_Mo px_o_aald := by
  intro sc a ip ls st G f ip1 ls1 st1 h1 h
  simp only [px_o_aald, Bool.cond_eq_ite] at h
  repeat' split at h
  all_goals first | (cases h; done) | (cases h; exact px_le_f) | (cases h; exact px_le_app) | (cases h; exact px_le_set (by assumption))
theorem px_mo_copy : px_Mo px_o_copy := by
  intro sc a ip ls st G f ip1 ls1 st1 h1 h
  simp only [px_o_copy, Bool.cond_eq_ite] at h
  repeat' split at h
  all_goals first | (cases h; done) | (cases h; exact px_le_f) | (cases h; exact px_le_app) | (cases h; exact px_le_set (by assumption))
theorem px_mo_new : px_Mo px_o_new := by
  intro sc a ip ls st G f ip1 ls1 st1 h1 h
  simp only [px_o_new, Bool.cond_eq_ite] at h
  repeat' split at h
  all_goals first | (cases h; done) | (cases h; exact px_le_f) | (cases h; exact px_le_app) | (cases h; exact px_le_set (by assumption))
theorem px_mo_newa : px_Mo px_o_newa := by
  intro sc a ip ls st G f ip1 ls1 st1 h1 h
  simp only [px_o_newa, Bool.cond_eq_ite] at h
  repeat' split at h
  all_goals first | (cases h; done) | (cases h; exact px_le_f) | (cases h; exact px_le_app) | (cases h; exact px_le_set (by assumption))
theorem px_mo_objinit : px_Mo px_o_objinit := by
  intro sc a ip ls st G f ip1 ls1 st1 h1 h
  simp only [px_o_objinit, Bool.cond_eq_ite] at h
  repeat' split at h
  all_goals first | (cases h; done) | (cases h; exact px_le_f) | (cases h; exact px_le_app) | (cases h; exact px_le_set (by assumption))
theorem px_mo_l2 : px_Mo px_o_l2 := by
  intro sc a ip ls st G f ip1 ls1 st1 h1 h
  simp only [px_o_l2, Bool.cond_eq_ite] at h
  repeat' split at h
  all_goals first | (cases h; done) | (cases h; exact px_le_f) | (cases h; exact px_le_app) | (cases h; exact px_le_set (by assumption))
theorem px_mo_lconst : px_Mo px_o_lconst := by
  intro sc a ip ls st G f ip1 ls1 st1 h1 h
  simp only [px_o_lconst, Bool.cond_eq_ite] at h
  repeat' split at h
  all_goals first | (cases h; done) | (cases h; exact px_le_f) | (cases h; exact px_le_app) | (cases h; exact px_le_set (by assumption))
theorem px_mo_i2c : px_Mo px_o_i2c := by
  intro sc a ip ls st G f ip1 ls1 st1 h1 h
  simp only [px_o_i2c, Bool.cond_eq_ite] at h
  repeat' split at h
  all_goals first | (cases h; done) | (cases h; exact px_le_f) | (cases h; exact px_le_app) | (cases h; exact px_le_set (by assumption))
theorem px_mo_gets : px_Mo px_o_gets := by
  intro sc a ip ls st G f ip1 ls1 st1 h1 h
  simp only [px_o_gets, Bool.cond_eq_ite] at h
  repeat' split at h
  all_goals first | (cases h; done) | (cases h; exact px_le_f) | (cases h; exact px_le_app) | (cases h; exact px_le_set (by assumption))
theorem px_mo_no : px_Mo px_o_no := by
  intro sc a ip ls st G f ip1 ls1 st1 h1 h
  simp only [px_o_no, Bool.cond_eq_ite] at h
  repeat' split at h
  all_goals first | (cases h; done) | (cases h; exact px_le_f) | (cases h; exact px_le_app) | (cases h; exact px_le_set (by assumption))
theorem px_mo_newr : px_Mo px_o_newr := by
  intro sc a ip ls st G f ip1 ls1 st1 h1 h
  simp only [px_o_newr, Bool.cond_eq_ite] at h
  repeat' split at h
  all_goals first | (cases h; done) | (cases h; exact px_le_f) | (cases h; exact px_le_app) | (cases h; exact px_le_set (by assumption))
theorem px_mo_aast : px_Mo px_o_aast := by
  intro sc a ip ls st G f ip1 ls1 st1 h1 h
  simp only [px_o_aast, Bool.cond_eq_ite] at h
  repeat' split at h
  all_goals first | (cases h; done) | (cases h; exact px_le_f) | (cases h; exact px_le_app) | (cases h; exact px_le_set (by assumption))
theorem px_mo_prim : px_Mo px_o_prim := by
  intro sc a ip ls st G f ip1 ls1 st1 h1 h
  simp only [px_o_prim, Bool.cond_eq_ite] at h
  repeat' split at h
  all_goals first | (cases h; done) | (cases h; exact px_le_f) | (cases h; exact px_le_app) | (cases h; exact px_le_set (by assumption))
theorem px_mo_bin (F : Int → Int → Option Int) : px_Mo (px_bin F) := by
  intro sc a ip ls st G f ip1 ls1 st1 h1 h
  simp only [px_bin] at h
  repeat' split at h
  all_goals first | (cases h; done) | (cases h; exact px_le_f)
theorem px_mo_lbin (F : Int → Int → Option Int) : px_Mo (px_lbin F) := by
  intro sc a ip ls st G f ip1 ls1 st1 h1 h
  simp only [px_lbin] at h
  repeat' split at h
  all_goals first | (cases h; done) | (cases h; exact px_le_f)
theorem px_mo_all {k : Nat} {F : px_F} (h : px_ops[k]? = some F) : px_Mo F := by
  have hk : k < 59 := (List.getElem?_eq_some_iff.mp h).1
  match k, hk, h with
  | 0, _, h => cases h; exact px_mo_const
  | 1, _, h => cases h; exact px_mo_const
  | 2, _, h => cases h; exact px_mo_const
  | 3, _, h => cases h; exact px_mo_const
  | 4, _, h => cases h; exact px_mo_const
  | 5, _, h => cases h; exact px_mo_iload
  | 6, _, h => cases h; exact px_mo_iload
  | 7, _, h => cases h; exact px_mo_istore
  | 8, _, h => cases h; exact px_mo_istore
  | 9, _, h => cases h; exact px_mo_iinc
  | 10, _, h => cases h; exact px_mo_bin _
  | 11, _, h => cases h; exact px_mo_bin _
  | 12, _, h => cases h; exact px_mo_bin _
  | 13, _, h => cases h; exact px_mo_bin _
  | 14, _, h => cases h; exact px_mo_bin _
  | 15, _, h => cases h; exact px_mo_bin _
  | 16, _, h => cases h; exact px_mo_bin _
  | 17, _, h => cases h; exact px_mo_bin _
  | 18, _, h => cases h; exact px_mo_bin _
  | 19, _, h => cases h; exact px_mo_bin _
  | 20, _, h => cases h; exact px_mo_bin _
  | 21, _, h => cases h; exact px_mo_icmp
  | 22, _, h => cases h; exact px_mo_ifc
  | 23, _, h => cases h; exact px_mo_goto
  | 24, _, h => cases h; exact px_mo_tsw
  | 25, _, h => cases h; exact px_mo_lsw
  | 26, _, h => cases h; exact px_mo_dup
  | 27, _, h => cases h; exact px_mo_pop
  | 28, _, h => cases h; exact px_mo_dup2
  | 29, _, h => cases h; exact px_mo_aload
  | 30, _, h => cases h; exact px_mo_astore
  | 31, _, h => cases h; exact px_mo_getf
  | 32, _, h => cases h; exact px_mo_putf
  | 33, _, h => cases h; exact px_mo_iald
  | 34, _, h => cases h; exact px_mo_iast
  | 35, _, h => cases h; exact px_mo_aald
  | 36, _, h => cases h; exact px_mo_aast
  | 37, _, h => cases h; exact px_mo_alen
  | 38, _, h => cases h; exact px_mo_new
  | 39, _, h => cases h; exact px_mo_newa
  | 40, _, h => cases h; exact px_mo_newr
  | 41, _, h => cases h; exact px_mo_lload
  | 42, _, h => cases h; exact px_mo_lload
  | 43, _, h => cases h; exact px_mo_lstore
  | 44, _, h => cases h; exact px_mo_lstore
  | 45, _, h => cases h; exact px_mo_lconst
  | 46, _, h => cases h; exact px_mo_lconst
  | 47, _, h => cases h; exact px_mo_lbin _
  | 48, _, h => cases h; exact px_mo_lbin _
  | 49, _, h => cases h; exact px_mo_lbin _
  | 50, _, h => cases h; exact px_mo_lbin _
  | 51, _, h => cases h; exact px_mo_lcmp
  | 52, _, h => cases h; exact px_mo_l2
  | 53, _, h => cases h; exact px_mo_i2c
  | 54, _, h => cases h; exact px_mo_gets
  | 55, _, h => cases h; exact px_mo_copy
  | 56, _, h => cases h; exact px_mo_objinit
  | 57, _, h => cases h; exact px_mo_prim
  | 58, _, h => cases h; exact px_mo_no
  | n + 59, hk, _ => exact absurd hk (by omega)
theorem px_all {sc : List Int} {l : Launch} {D : va_G} {cA cF : ClassId} {g : px_g} (hprim : px_Sim sc l D cA cF g (px_Ex sc g) 61 px_o_prim) {k : Nat} {F : px_F} (h : px_ops[k]? = some F) (h62 : k ≠ 58) : px_Sim sc l D cA cF g (px_Ex sc g) (k + 4) F := by
  have hk : k < 59 := (List.getElem?_eq_some_iff.mp h).1
  match k, hk, h, h62 with
  | 0, _, h, _ => cases h; exact px_sim_iconst
  | 1, _, h, _ => cases h; exact px_sim_bipush
  | 2, _, h, _ => cases h; exact px_sim_sipush
  | 3, _, h, _ => cases h; exact px_sim_ldc
  | 4, _, h, _ => cases h; exact px_sim_ldcw
  | 5, _, h, _ => cases h; exact px_sim_iload_n
  | 6, _, h, _ => cases h; exact px_sim_iload
  | 7, _, h, _ => cases h; exact px_sim_istore_n
  | 8, _, h, _ => cases h; exact px_sim_istore
  | 9, _, h, _ => cases h; exact px_sim_iinc
  | 10, _, h, _ => cases h; exact px_sim_iadd
  | 11, _, h, _ => cases h; exact px_sim_isub
  | 12, _, h, _ => cases h; exact px_sim_imul
  | 13, _, h, _ => cases h; exact px_sim_idiv
  | 14, _, h, _ => cases h; exact px_sim_irem
  | 15, _, h, _ => cases h; exact px_sim_iand
  | 16, _, h, _ => cases h; exact px_sim_ior
  | 17, _, h, _ => cases h; exact px_sim_ixor
  | 18, _, h, _ => cases h; exact px_sim_ishl
  | 19, _, h, _ => cases h; exact px_sim_ishr
  | 20, _, h, _ => cases h; exact px_sim_iushr
  | 21, _, h, _ => cases h; exact px_sim_icmp
  | 22, _, h, _ => cases h; exact px_sim_ifc
  | 23, _, h, _ => cases h; exact px_sim_goto
  | 24, _, h, _ => cases h; exact px_sim_tsw
  | 25, _, h, _ => cases h; exact px_sim_lsw
  | 26, _, h, _ => cases h; exact px_sim_dup
  | 27, _, h, _ => cases h; exact px_sim_pop
  | 28, _, h, _ => cases h; exact px_sim_dup2
  | 29, _, h, _ => cases h; exact px_sim_aload_n
  | 30, _, h, _ => cases h; exact px_sim_astore_n
  | 31, _, h, _ => cases h; exact px_sim_getf
  | 32, _, h, _ => cases h; exact px_sim_putf
  | 33, _, h, _ => cases h; exact px_sim_iald
  | 34, _, h, _ => cases h; exact px_sim_iast
  | 35, _, h, _ => cases h; exact px_sim_aald
  | 36, _, h, _ => cases h; exact px_sim_aast
  | 37, _, h, _ => cases h; exact px_sim_alen
  | 38, _, h, _ => cases h; exact px_sim_new
  | 39, _, h, _ => cases h; exact px_sim_newa
  | 40, _, h, _ => cases h; exact px_sim_newr
  | 41, _, h, _ => cases h; exact px_sim_lload_n
  | 42, _, h, _ => cases h; exact px_sim_lload
  | 43, _, h, _ => cases h; exact px_sim_lstore_n
  | 44, _, h, _ => cases h; exact px_sim_lstore
  | 45, _, h, _ => cases h; exact px_sim_lconst
  | 46, _, h, _ => cases h; exact px_sim_ldc2
  | 47, _, h, _ => cases h; exact px_sim_ladd
  | 48, _, h, _ => cases h; exact px_sim_lmul
  | 49, _, h, _ => cases h; exact px_sim_ldiv
  | 50, _, h, _ => cases h; exact px_sim_lrem
  | 51, _, h, _ => cases h; exact px_sim_lcmp
  | 52, _, h, _ => cases h; exact px_sim_i2l
  | 53, _, h, _ => cases h; exact px_sim_i2c
  | 54, _, h, _ => cases h; exact px_sim_gets
  | 55, _, h, _ => cases h; exact px_sim_copy
  | 56, _, h, _ => cases h; exact px_sim_objinit
  | 57, _, h, _ => cases h; exact hprim
  | 58, _, h, h62 => exact absurd rfl h62
  | n + 59, hk, _, _ => exact absurd hk (by omega)
theorem px_mono (sc : List Int) : ∀ (n d m ip : Nat) (ls : px_L) (st : List px_V) (h : px_H) (r : Option px_V) (h1 : px_H), px_run sc n d m ip ls st h = some (r, h1) → px_le h h1 := by
  intro n
  induction n with
  | zero => intro d m ip ls st h r h1 hr; cases hr
  | succ n ih =>
    intro d m ip ls st h r h1 hr
    unfold px_run at hr
    split at hr
    · split at hr
      · rw [Bool.cond_eq_ite] at hr
        split at hr
        · split at hr
          · rename_i r2 h2 hc
            exact px_le_tr (ih _ _ _ _ _ _ _ _ hc) (ih _ _ _ _ _ _ _ _ hr)
          · cases hr
        · cases hr
      · cases hr
    · split at hr
      · rw [Bool.cond_eq_ite] at hr
        split at hr
        · cases hr; exact px_le_rf _
        · cases hr
      · cases hr
    · split at hr
      · cases hr; exact px_le_rf _
      · cases hr
    · split at hr
      · cases hr; exact px_le_rf _
      · cases hr
    · split at hr
      · rename_i hs
        refine px_le_tr ?_ (ih _ _ _ _ _ _ _ _ hr)
        unfold px_st at hs
        split at hs
        · split at hs
          · rename_i F hF
            exact px_mo_all hF _ _ _ _ _ h.1 h.2 _ _ _ _ hs
          · cases hs
        · cases hs
      · cases hr
    · cases hr
