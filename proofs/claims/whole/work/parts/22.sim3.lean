theorem px_toI0 {y : Int32} : y.toInt = 0 ↔ y = 0 := by
  rw [← Int32.toInt_zero, Int32.toInt_inj]
theorem px_toL0 {y : Int64} : y.toInt = 0 ↔ y = 0 := by
  rw [← Int64.toInt_zero, Int64.toInt_inj]
theorem px_rem (x y : Int32) : (x - x / y * y).toInt = x.toInt.tmod y.toInt := by
  have h1 := Int32.le_toInt x
  have h2 := Int32.toInt_lt x
  have e1 : (x - x / y * y).toInt = (x.toInt - x.toInt.tdiv y.toInt * y.toInt).bmod (2 ^ 32) := by
    rw [Int32.toInt_sub, Int32.toInt_mul, Int32.toInt_div]
    simp
  have e2 : x.toInt - x.toInt.tdiv y.toInt * y.toInt = x.toInt.tmod y.toInt := by
    rw [Int.tmod_def, Int.mul_comm]
  rw [e1, e2]
  have h3 : (x.toInt.tmod y.toInt).natAbs ≤ x.toInt.natAbs := by
    rw [Int.natAbs_tmod]
    exact Nat.mod_le _ _
  have h4 : -(2 ^ 31) ≤ x.toInt.tmod y.toInt ∧ x.toInt.tmod y.toInt < 2 ^ 31 := by
    have h5 : 0 ≤ x.toInt → 0 ≤ x.toInt.tmod y.toInt := fun h => Int.tmod_nonneg _ h
    have h6 : x.toInt ≤ 0 → x.toInt.tmod y.toInt ≤ 0 := fun h => by
      have h7 := Int.tmod_nonneg (a := -x.toInt) y.toInt (by omega)
      rw [Int.neg_tmod] at h7
      omega
    omega
  rw [Int.bmod_eq_of_le (by omega) (by omega)]
theorem px_reml (x y : Int64) : (x - x / y * y).toInt = x.toInt.tmod y.toInt := by
  have h1 := Int64.le_toInt x
  have h2 := Int64.toInt_lt x
  have e1 : (x - x / y * y).toInt = (x.toInt - x.toInt.tdiv y.toInt * y.toInt).bmod (2 ^ 64) := by
    rw [Int64.toInt_sub, Int64.toInt_mul, Int64.toInt_div]
    simp
  have e2 : x.toInt - x.toInt.tdiv y.toInt * y.toInt = x.toInt.tmod y.toInt := by
    rw [Int.tmod_def, Int.mul_comm]
  rw [e1, e2]
  have h3 : (x.toInt.tmod y.toInt).natAbs ≤ x.toInt.natAbs := by
    rw [Int.natAbs_tmod]
    exact Nat.mod_le _ _
  have h4 : -(2 ^ 63) ≤ x.toInt.tmod y.toInt ∧ x.toInt.tmod y.toInt < 2 ^ 63 := by
    have h5 : 0 ≤ x.toInt → 0 ≤ x.toInt.tmod y.toInt := fun h => Int.tmod_nonneg _ h
    have h6 : x.toInt ≤ 0 → x.toInt.tmod y.toInt ≤ 0 := fun h => by
      have h7 := Int.tmod_nonneg (a := -x.toInt) y.toInt (by omega)
      rw [Int.neg_tmod] at h7
      omega
    omega
  rw [Int.bmod_eq_of_le (by omega) (by omega)]
theorem px_lcm (x y : Int64) : (lg_cmp x y).toInt = if x.toInt < y.toInt then -1 else if x.toInt = y.toInt then 0 else 1 := by
  unfold lg_cmp
  by_cases h1 : x > y
  · have h2 : y.toInt < x.toInt := Int64.lt_iff_toInt_lt.mp h1
    rw [if_pos h1, if_neg (by omega), if_neg (by omega)]
    rfl
  · have h2 : ¬ y.toInt < x.toInt := fun h => h1 (Int64.lt_iff_toInt_lt.mpr h)
    rw [if_neg h1]
    by_cases h3 : x = y
    · subst h3
      rw [if_pos rfl, if_neg (by omega), if_pos rfl]
      rfl
    · have h4 : ¬ x.toInt = y.toInt := fun h => h3 (Int64.toInt_inj.mp h)
      rw [if_neg h3, if_pos (by omega)]
      rfl
section PXO
variable {sc : List Int} {l : Launch} {D : va_G} {cA cF : ClassId} {g : px_g} {Ex : State → Prop}

theorem px_sim_isub : px_Sim sc l D cA cF g Ex 15 (px_bin (fun x y => some (px_wr (x - y)))) := by
  intro mid ip pc a ins len he hd hdc hnx hex p e R s m args below meth c H locs cells slots Q lv ls st G f ip1 ls1 st1 G1 f1 hC hE hI hF hc hs kk
  cases hd
  have hnx := hnx.resolve_left (by decide)
  simp only [px_bin] at hF
  split at hF
  · rename_i y st2 h1
    obtain ⟨yv, st3, rfl, rfl, rfl⟩ := px_pI_inv h1
    split at hF
    · rename_i x st4 h2
      obtain ⟨xv, st5, rfl, rfl, rfl⟩ := px_pI_inv h2
      cases hF
      simp only [px_z] at kk
      refine lv_isub hC.1 hC.2.1 hdc ?_
      rw [← hnx]
      exact kk lv ls _ f H locs rfl (by rw [px_us_cons]; show Sum.inl (xv - yv).toInt :: _ = _; rw [Int32.toInt_sub]; rfl) rfl hI
    · cases hF
  · cases hF

theorem px_sim_imul : px_Sim sc l D cA cF g Ex 16 (px_bin (fun x y => some (px_wr (x * y)))) := by
  intro mid ip pc a ins len he hd hdc hnx hex p e R s m args below meth c H locs cells slots Q lv ls st G f ip1 ls1 st1 G1 f1 hC hE hI hF hc hs kk
  cases hd
  have hnx := hnx.resolve_left (by decide)
  simp only [px_bin] at hF
  split at hF
  · rename_i y st2 h1
    obtain ⟨yv, st3, rfl, rfl, rfl⟩ := px_pI_inv h1
    split at hF
    · rename_i x st4 h2
      obtain ⟨xv, st5, rfl, rfl, rfl⟩ := px_pI_inv h2
      cases hF
      simp only [px_z] at kk
      refine lv_imul hC.1 hC.2.1 hdc ?_
      rw [← hnx]
      exact kk lv ls _ f H locs rfl (by rw [px_us_cons]; show Sum.inl (xv * yv).toInt :: _ = _; rw [Int32.toInt_mul]; rfl) rfl hI
    · cases hF
  · cases hF

theorem px_sim_idiv : px_Sim sc l D cA cF g Ex 17 (px_bin (fun x y => if y = 0 then none else some (px_wr (x.tdiv y)))) := by
  intro mid ip pc a ins len he hd hdc hnx hex p e R s m args below meth c H locs cells slots Q lv ls st G f ip1 ls1 st1 G1 f1 hC hE hI hF hc hs kk
  cases hd
  have hnx := hnx.resolve_left (by decide)
  simp only [px_bin] at hF
  split at hF
  · rename_i y st2 h1
    obtain ⟨yv, st3, rfl, rfl, rfl⟩ := px_pI_inv h1
    split at hF
    · rename_i x st4 h2
      obtain ⟨xv, st5, rfl, rfl, rfl⟩ := px_pI_inv h2
      by_cases h0 : yv.toInt = 0
      · rw [if_pos h0] at hF
        cases hF
      rw [if_neg h0] at hF
      have h0 : ¬ yv = 0 := fun q => h0 (px_toI0.mpr q)
      cases hF
      simp only [px_z] at kk
      refine lv_idiv hC.1 hC.2.1 hdc h0 ?_
      rw [← hnx]
      exact kk lv ls _ f H locs rfl (by rw [px_us_cons]; show Sum.inl (xv / yv).toInt :: _ = _; rw [Int32.toInt_div]; rfl) rfl hI
    · cases hF
  · cases hF

theorem px_sim_irem : px_Sim sc l D cA cF g Ex 18 (px_bin (fun x y => if y = 0 then none else some (x.tmod y))) := by
  intro mid ip pc a ins len he hd hdc hnx hex p e R s m args below meth c H locs cells slots Q lv ls st G f ip1 ls1 st1 G1 f1 hC hE hI hF hc hs kk
  cases hd
  have hnx := hnx.resolve_left (by decide)
  simp only [px_bin] at hF
  split at hF
  · rename_i y st2 h1
    obtain ⟨yv, st3, rfl, rfl, rfl⟩ := px_pI_inv h1
    split at hF
    · rename_i x st4 h2
      obtain ⟨xv, st5, rfl, rfl, rfl⟩ := px_pI_inv h2
      by_cases h0 : yv.toInt = 0
      · rw [if_pos h0] at hF
        cases hF
      rw [if_neg h0] at hF
      have h0 : ¬ yv = 0 := fun q => h0 (px_toI0.mpr q)
      cases hF
      simp only [px_z] at kk
      refine lv_irem hC.1 hC.2.1 hdc h0 ?_
      rw [← hnx]
      exact kk lv ls _ f H locs rfl (by rw [px_us_cons]; show Sum.inl (xv - xv / yv * yv).toInt :: _ = _; rw [px_rem]) rfl hI
    · cases hF
  · cases hF

theorem px_sim_iand : px_Sim sc l D cA cF g Ex 19 (px_bin (fun x y => some (px_and x y))) := by
  intro mid ip pc a ins len he hd hdc hnx hex p e R s m args below meth c H locs cells slots Q lv ls st G f ip1 ls1 st1 G1 f1 hC hE hI hF hc hs kk
  cases hd
  have hnx := hnx.resolve_left (by decide)
  simp only [px_bin] at hF
  split at hF
  · rename_i y st2 h1
    obtain ⟨yv, st3, rfl, rfl, rfl⟩ := px_pI_inv h1
    split at hF
    · rename_i x st4 h2
      obtain ⟨xv, st5, rfl, rfl, rfl⟩ := px_pI_inv h2
      cases hF
      simp only [px_z] at kk
      refine lv_iand hC.1 hC.2.1 hdc ?_
      rw [← hnx]
      exact kk lv ls _ f H locs rfl (by rw [px_us_cons]; show Sum.inl (xv &&& yv).toInt :: _ = _; unfold px_and; rw [Int32.ofInt_toInt, Int32.ofInt_toInt]) rfl hI
    · cases hF
  · cases hF

theorem px_sim_ior : px_Sim sc l D cA cF g Ex 20 (px_bin (fun x y => some (px_or x y))) := by
  intro mid ip pc a ins len he hd hdc hnx hex p e R s m args below meth c H locs cells slots Q lv ls st G f ip1 ls1 st1 G1 f1 hC hE hI hF hc hs kk
  cases hd
  have hnx := hnx.resolve_left (by decide)
  simp only [px_bin] at hF
  split at hF
  · rename_i y st2 h1
    obtain ⟨yv, st3, rfl, rfl, rfl⟩ := px_pI_inv h1
    split at hF
    · rename_i x st4 h2
      obtain ⟨xv, st5, rfl, rfl, rfl⟩ := px_pI_inv h2
      cases hF
      simp only [px_z] at kk
      refine lv_ior hC.1 hC.2.1 hdc ?_
      rw [← hnx]
      exact kk lv ls _ f H locs rfl (by rw [px_us_cons]; show Sum.inl (xv ||| yv).toInt :: _ = _; unfold px_or; rw [Int32.ofInt_toInt, Int32.ofInt_toInt]) rfl hI
    · cases hF
  · cases hF

theorem px_sim_ixor : px_Sim sc l D cA cF g Ex 21 (px_bin (fun x y => some (px_xor x y))) := by
  intro mid ip pc a ins len he hd hdc hnx hex p e R s m args below meth c H locs cells slots Q lv ls st G f ip1 ls1 st1 G1 f1 hC hE hI hF hc hs kk
  cases hd
  have hnx := hnx.resolve_left (by decide)
  simp only [px_bin] at hF
  split at hF
  · rename_i y st2 h1
    obtain ⟨yv, st3, rfl, rfl, rfl⟩ := px_pI_inv h1
    split at hF
    · rename_i x st4 h2
      obtain ⟨xv, st5, rfl, rfl, rfl⟩ := px_pI_inv h2
      cases hF
      simp only [px_z] at kk
      refine lv_ixor hC.1 hC.2.1 hdc ?_
      rw [← hnx]
      exact kk lv ls _ f H locs rfl (by rw [px_us_cons]; show Sum.inl (xv ^^^ yv).toInt :: _ = _; unfold px_xor; rw [Int32.ofInt_toInt, Int32.ofInt_toInt]) rfl hI
    · cases hF
  · cases hF

theorem px_sim_ishl : px_Sim sc l D cA cF g Ex 22 (px_bin (fun x y => some (px_shl x y))) := by
  intro mid ip pc a ins len he hd hdc hnx hex p e R s m args below meth c H locs cells slots Q lv ls st G f ip1 ls1 st1 G1 f1 hC hE hI hF hc hs kk
  cases hd
  have hnx := hnx.resolve_left (by decide)
  simp only [px_bin] at hF
  split at hF
  · rename_i y st2 h1
    obtain ⟨yv, st3, rfl, rfl, rfl⟩ := px_pI_inv h1
    split at hF
    · rename_i x st4 h2
      obtain ⟨xv, st5, rfl, rfl, rfl⟩ := px_pI_inv h2
      cases hF
      simp only [px_z] at kk
      refine lv_ishl hC.1 hC.2.1 hdc ?_
      rw [← hnx]
      exact kk lv ls _ f H locs rfl (by rw [px_us_cons]; show Sum.inl (xv <<< (yv &&& 31)).toInt :: _ = _; unfold px_shl; rw [Int32.ofInt_toInt, Int32.ofInt_toInt]) rfl hI
    · cases hF
  · cases hF

theorem px_sim_ishr : px_Sim sc l D cA cF g Ex 23 (px_bin (fun x y => some (px_shr x y))) := by
  intro mid ip pc a ins len he hd hdc hnx hex p e R s m args below meth c H locs cells slots Q lv ls st G f ip1 ls1 st1 G1 f1 hC hE hI hF hc hs kk
  cases hd
  have hnx := hnx.resolve_left (by decide)
  simp only [px_bin] at hF
  split at hF
  · rename_i y st2 h1
    obtain ⟨yv, st3, rfl, rfl, rfl⟩ := px_pI_inv h1
    split at hF
    · rename_i x st4 h2
      obtain ⟨xv, st5, rfl, rfl, rfl⟩ := px_pI_inv h2
      cases hF
      simp only [px_z] at kk
      refine lv_ishr hC.1 hC.2.1 hdc ?_
      rw [← hnx]
      exact kk lv ls _ f H locs rfl (by rw [px_us_cons]; show Sum.inl (xv >>> (yv &&& 31)).toInt :: _ = _; unfold px_shr; rw [Int32.ofInt_toInt, Int32.ofInt_toInt]) rfl hI
    · cases hF
  · cases hF

theorem px_sim_iushr : px_Sim sc l D cA cF g Ex 24 (px_bin (fun x y => some (px_ush x y))) := by
  intro mid ip pc a ins len he hd hdc hnx hex p e R s m args below meth c H locs cells slots Q lv ls st G f ip1 ls1 st1 G1 f1 hC hE hI hF hc hs kk
  cases hd
  have hnx := hnx.resolve_left (by decide)
  simp only [px_bin] at hF
  split at hF
  · rename_i y st2 h1
    obtain ⟨yv, st3, rfl, rfl, rfl⟩ := px_pI_inv h1
    split at hF
    · rename_i x st4 h2
      obtain ⟨xv, st5, rfl, rfl, rfl⟩ := px_pI_inv h2
      cases hF
      simp only [px_z] at kk
      refine lv_iushr hC.1 hC.2.1 hdc rfl ?_
      rw [← hnx]
      exact kk lv ls _ f H locs rfl (by rw [px_us_cons]; show Sum.inl ((xv.toUInt32 >>> (yv.toUInt32 &&& Int32.toUInt32 31)).toInt32).toInt :: _ = _; unfold px_ush; rw [Int32.ofInt_toInt, Int32.ofInt_toInt]) rfl hI
    · cases hF
  · cases hF

theorem px_sim_ladd : px_Sim sc l D cA cF g Ex 51 (px_lbin (fun x y => some (px_wl (x + y)))) := by
  intro mid ip pc a ins len he hd hdc hnx hex p e R s m args below meth c H locs cells slots Q lv ls st G f ip1 ls1 st1 G1 f1 hC hE hI hF hc hs kk
  cases hd
  have hnx := hnx.resolve_left (by decide)
  simp only [px_lbin] at hF
  split at hF
  · rename_i y st2 h1
    obtain ⟨yv, st3, rfl, rfl, rfl⟩ := px_pL_inv h1
    split at hF
    · rename_i x st4 h2
      obtain ⟨xv, st5, rfl, rfl, rfl⟩ := px_pL_inv h2
      cases hF
      simp only [px_z] at kk
      refine lv_ladd hC.1 hC.2.1 hdc ?_
      rw [← hnx]
      exact kk lv ls _ f H locs rfl (by rw [px_us_cons]; show Sum.inr (Sum.inl (xv + yv).toInt) :: _ = _; rw [Int64.toInt_add]; rfl) rfl hI
    · cases hF
  · cases hF

theorem px_sim_lmul : px_Sim sc l D cA cF g Ex 52 (px_lbin (fun x y => some (px_wl (x * y)))) := by
  intro mid ip pc a ins len he hd hdc hnx hex p e R s m args below meth c H locs cells slots Q lv ls st G f ip1 ls1 st1 G1 f1 hC hE hI hF hc hs kk
  cases hd
  have hnx := hnx.resolve_left (by decide)
  simp only [px_lbin] at hF
  split at hF
  · rename_i y st2 h1
    obtain ⟨yv, st3, rfl, rfl, rfl⟩ := px_pL_inv h1
    split at hF
    · rename_i x st4 h2
      obtain ⟨xv, st5, rfl, rfl, rfl⟩ := px_pL_inv h2
      cases hF
      simp only [px_z] at kk
      refine lv_lmul hC.1 hC.2.1 hdc ?_
      rw [← hnx]
      exact kk lv ls _ f H locs rfl (by rw [px_us_cons]; show Sum.inr (Sum.inl (xv * yv).toInt) :: _ = _; rw [Int64.toInt_mul]; rfl) rfl hI
    · cases hF
  · cases hF

theorem px_sim_ldiv : px_Sim sc l D cA cF g Ex 53 (px_lbin (fun x y => if y = 0 then none else some (px_wl (x.tdiv y)))) := by
  intro mid ip pc a ins len he hd hdc hnx hex p e R s m args below meth c H locs cells slots Q lv ls st G f ip1 ls1 st1 G1 f1 hC hE hI hF hc hs kk
  cases hd
  have hnx := hnx.resolve_left (by decide)
  simp only [px_lbin] at hF
  split at hF
  · rename_i y st2 h1
    obtain ⟨yv, st3, rfl, rfl, rfl⟩ := px_pL_inv h1
    split at hF
    · rename_i x st4 h2
      obtain ⟨xv, st5, rfl, rfl, rfl⟩ := px_pL_inv h2
      by_cases h0 : yv.toInt = 0
      · rw [if_pos h0] at hF
        cases hF
      rw [if_neg h0] at hF
      have h0 : ¬ yv = 0 := fun q => h0 (px_toL0.mpr q)
      cases hF
      simp only [px_z] at kk
      refine lv_ldiv hC.1 hC.2.1 hdc h0 ?_
      rw [← hnx]
      exact kk lv ls _ f H locs rfl (by rw [px_us_cons]; show Sum.inr (Sum.inl (xv / yv).toInt) :: _ = _; rw [Int64.toInt_div]; rfl) rfl hI
    · cases hF
  · cases hF

theorem px_sim_lrem : px_Sim sc l D cA cF g Ex 54 (px_lbin (fun x y => if y = 0 then none else some (x.tmod y))) := by
  intro mid ip pc a ins len he hd hdc hnx hex p e R s m args below meth c H locs cells slots Q lv ls st G f ip1 ls1 st1 G1 f1 hC hE hI hF hc hs kk
  cases hd
  have hnx := hnx.resolve_left (by decide)
  simp only [px_lbin] at hF
  split at hF
  · rename_i y st2 h1
    obtain ⟨yv, st3, rfl, rfl, rfl⟩ := px_pL_inv h1
    split at hF
    · rename_i x st4 h2
      obtain ⟨xv, st5, rfl, rfl, rfl⟩ := px_pL_inv h2
      by_cases h0 : yv.toInt = 0
      · rw [if_pos h0] at hF
        cases hF
      rw [if_neg h0] at hF
      have h0 : ¬ yv = 0 := fun q => h0 (px_toL0.mpr q)
      cases hF
      simp only [px_z] at kk
      refine lv_lrem hC.1 hC.2.1 hdc h0 ?_
      rw [← hnx]
      exact kk lv ls _ f H locs rfl (by rw [px_us_cons]; show Sum.inr (Sum.inl (xv - xv / yv * yv).toInt) :: _ = _; rw [px_reml]) rfl hI
    · cases hF
  · cases hF

theorem px_sim_lcmp : px_Sim sc l D cA cF g Ex 55 px_o_lcmp := by
  intro mid ip pc a ins len he hd hdc hnx hex p e R s m args below meth c H locs cells slots Q lv ls st G f ip1 ls1 st1 G1 f1 hC hE hI hF hc hs kk
  cases hd
  have hnx := hnx.resolve_left (by decide)
  simp only [px_o_lcmp] at hF
  split at hF
  · rename_i y st2 h1
    obtain ⟨yv, st3, rfl, rfl, rfl⟩ := px_pL_inv h1
    split at hF
    · rename_i x st4 h2
      obtain ⟨xv, st5, rfl, rfl, rfl⟩ := px_pL_inv h2
      cases hF
      simp only [px_z] at kk
      refine W.lcmp hC.1 hC.2.1 hdc ?_
      rw [← hnx]
      exact kk lv ls _ f H locs rfl (by rw [px_us_cons]; show Sum.inl (lg_cmp xv yv).toInt :: _ = _; rw [px_lcm]) rfl hI
    · cases hF
  · cases hF
theorem px_sim_i2l : px_Sim sc l D cA cF g Ex 56 px_o_l2 := by
  intro mid ip pc a ins len he hd hdc hnx hex p e R s m args below meth c H locs cells slots Q lv ls st G f ip1 ls1 st1 G1 f1 hC hE hI hF hc hs kk
  cases hd
  have hnx := hnx.resolve_left (by decide)
  simp only [px_o_l2] at hF
  split at hF
  · rename_i y st2 h1
    obtain ⟨yv, st3, rfl, rfl, rfl⟩ := px_pI_inv h1
    cases hF
    simp only [px_z] at kk
    refine lv_i2l hC.1 hC.2.1 hdc rfl ?_
    rw [← hnx]
    exact kk lv ls _ f H locs rfl (by rw [px_us_cons]; show Sum.inr (Sum.inl yv.toInt64.toInt) :: _ = _; rw [Int32.toInt_toInt64]) rfl hI
  · cases hF
theorem px_sim_i2c : px_Sim sc l D cA cF g Ex 57 px_o_i2c := by
  intro mid ip pc a ins len he hd hdc hnx hex p e R s m args below meth c H locs cells slots Q lv ls st G f ip1 ls1 st1 G1 f1 hC hE hI hF hc hs kk
  cases hd
  have hnx := hnx.resolve_left (by decide)
  simp only [px_o_i2c] at hF
  split at hF
  · rename_i y st2 h1
    obtain ⟨yv, st3, rfl, rfl, rfl⟩ := px_pI_inv h1
    cases hF
    simp only [px_z] at kk
    refine lv_i2c hC.1 hC.2.1 hdc rfl ?_
    rw [← hnx]
    exact kk lv ls _ f H locs rfl (by rw [px_us_cons]; unfold px_i2c; rw [Int32.ofInt_toInt]; rfl) rfl hI
  · cases hF
theorem px_sim_lconst : px_Sim sc l D cA cF g Ex 49 px_o_lconst := by
  intro mid ip pc a ins len he hd hdc hnx hex p e R s m args below meth c H locs cells slots Q lv ls st G f ip1 ls1 st1 G1 f1 hC hE hI hF hc hs kk
  match a, hd, hF, hex with
  | [v], hd, hF, hex =>
    cases hd; cases hF
    simp only [px_ex, Bool.or_eq_true, beq_iff_eq] at hex
    have hnx := hnx.resolve_left (by decide)
    simp only [px_z] at kk
    rcases hex with rfl | rfl
    · refine lv_lconst (v := 0) hC.1 hC.2.1 hdc rfl ?_
      rw [← hnx]
      exact kk lv ls _ f H locs rfl rfl rfl hI
    · refine lv_lconst (v := 1) hC.1 hC.2.1 hdc rfl ?_
      rw [← hnx]
      exact kk lv ls _ f H locs rfl rfl rfl hI
theorem px_sim_ldc2 : px_Sim sc l D cA cF g Ex 50 px_o_lconst := by
  intro mid ip pc a ins len he hd hdc hnx hex p e R s m args below meth c H locs cells slots Q lv ls st G f ip1 ls1 st1 G1 f1 hC hE hI hF hc hs kk
  match a, hd, hF, hex with
  | [v, ix, w], hd, hF, hex =>
    cases hd; cases hF
    simp only [px_ex, Bool.and_eq_true, beq_iff_eq] at hex
    have hnx := hnx.resolve_left (by decide)
    simp only [px_z] at kk
    refine lv_ldc2 (v := Int64.ofInt v) hC.1 hC.2.1 hC.2.2.2.1 (hC.2.2.2.2.1 _ (px_in hex.2)) hdc ?_
    rw [← hnx]
    exact kk lv ls _ f H locs rfl (by rw [px_us_cons]; show Sum.inr (Sum.inl (Int64.ofInt v).toInt) :: _ = _; rw [hex.1]) rfl hI

theorem px_sim_aload_n : px_Sim sc l D cA cF g Ex 33 px_o_aload := by
  intro mid ip pc a ins len he hd hdc hnx hex p e R s m args below meth c H locs cells slots Q lv ls st G f ip1 ls1 st1 G1 f1 hC hE hI hF hc hs kk
  match a, hd, hF, hex with
  | [i], hd, hF, hex =>
    cases hd
    have hi : i.toNat < 4 := by simpa [px_ex] using hex
    have hnx := hnx.resolve_left (by decide)
    simp only [px_o_aload] at hF
    split at hF
    · rename_i v hv
      cases hF
      obtain ⟨w, hw, hm⟩ := px_ld_inv hv
      obtain ⟨x, rfl, hx⟩ := px_uv_ref hw
      simp only [px_z] at kk
      refine lv_aload_n (i := i.toNat) hC.1 hC.2.1 hdc (Nat.mod_eq_of_lt hi) (hI.2.2.2.1.2.2 _ hm) ?_
      rw [← hnx]
      exact kk lv ls _ f H locs rfl (by rw [px_us_cons, ← hw]) rfl hI
    · cases hF

theorem px_sim_lload_n : px_Sim sc l D cA cF g Ex 45 px_o_lload := by
  intro mid ip pc a ins len he hd hdc hnx hex p e R s m args below meth c H locs cells slots Q lv ls st G f ip1 ls1 st1 G1 f1 hC hE hI hF hc hs kk
  match a, hd, hF, hex with
  | [i], hd, hF, hex =>
    cases hd
    have hi : i.toNat < 4 := by simpa [px_ex] using hex
    have hnx := hnx.resolve_left (by decide)
    simp only [px_o_lload] at hF
    split at hF
    · rename_i v hv
      cases hF
      obtain ⟨w, hw, hm⟩ := px_ld_inv hv
      obtain ⟨x, rfl, hx⟩ := px_uv_long hw
      simp only [px_z] at kk
      refine lv_lload_n (i := i.toNat) hC.1 hC.2.1 hdc (Nat.mod_eq_of_lt hi) (hI.2.2.2.1.2.2 _ hm) ?_
      rw [← hnx]
      exact kk lv ls _ f H locs rfl (by rw [px_us_cons, ← hw]) rfl hI
    · cases hF

theorem px_sim_lload : px_Sim sc l D cA cF g Ex 46 px_o_lload := by
  intro mid ip pc a ins len he hd hdc hnx hex p e R s m args below meth c H locs cells slots Q lv ls st G f ip1 ls1 st1 G1 f1 hC hE hI hF hc hs kk
  match a, hd, hF, hex with
  | [i], hd, hF, hex =>
    cases hd
    have hnx := hnx.resolve_left (by decide)
    simp only [px_o_lload] at hF
    split at hF
    · rename_i v hv
      cases hF
      obtain ⟨w, hw, hm⟩ := px_ld_inv hv
      obtain ⟨x, rfl, hx⟩ := px_uv_long hw
      simp only [px_z] at kk
      refine lv_lload (i := i.toNat) hC.1 hC.2.1 hdc (hI.2.2.2.1.2.2 _ hm) ?_
      rw [← hnx]
      exact kk lv ls _ f H locs rfl (by rw [px_us_cons, ← hw]) rfl hI
    · cases hF

theorem px_sim_istore : px_Sim sc l D cA cF g Ex 12 px_o_istore := by
  intro mid ip pc a ins len he hd hdc hnx hex p e R s m args below meth c H locs cells slots Q lv ls st G f ip1 ls1 st1 G1 f1 hC hE hI hF hc hs kk
  match a, hd, hF, hex with
  | [i], hd, hF, hex =>
    cases hd
    simp only [px_ex, Bool.and_eq_true, decide_eq_true_eq] at hex
    have hnx := hnx.resolve_left (by decide)
    simp only [px_o_istore] at hF
    split at hF
    · rename_i h1 h2
      cases h1
      cases hF
      obtain ⟨x, st', rfl, rfl, rfl⟩ := px_pI_inv h2
      simp only [px_z] at kk
      refine lv_istore (i := i.toNat) hC.1 hC.2.1 hdc hI.2.2.2.1 hex rfl (fun lsN hlN => ?_)
      rw [← hnx]
      exact kk _ lsN st' f H locs (px_s1_eq hI.2.2.2.2.1 i.toNat (.int x)).symm rfl rfl ⟨hI.1, hI.2.1, hI.2.2.1, hlN, px_cc_cons hI.2.2.2.2.1 rfl, hI.2.2.2.2.2⟩
    · cases hF

theorem px_sim_lstore : px_Sim sc l D cA cF g Ex 48 px_o_lstore := by
  intro mid ip pc a ins len he hd hdc hnx hex p e R s m args below meth c H locs cells slots Q lv ls st G f ip1 ls1 st1 G1 f1 hC hE hI hF hc hs kk
  match a, hd, hF, hex with
  | [i], hd, hF, hex =>
    cases hd
    simp only [px_ex, Bool.and_eq_true, decide_eq_true_eq] at hex
    have hnx := hnx.resolve_left (by decide)
    simp only [px_o_lstore] at hF
    split at hF
    · rename_i h1 h2
      cases h1
      cases hF
      obtain ⟨x, st', rfl, rfl, rfl⟩ := px_pL_inv h2
      simp only [px_z] at kk
      refine lv_lstore (i := i.toNat) hC.1 hC.2.1 hdc hI.2.2.2.1 hex rfl (fun lsN hlN => ?_)
      rw [← hnx]
      exact kk _ lsN st' f H locs (px_s2_eq hI.2.2.2.2.1 i.toNat (.long x)).symm rfl rfl ⟨hI.1, hI.2.1, hI.2.2.1, hlN, px_cc_cons hI.2.2.2.2.1 rfl, hI.2.2.2.2.2⟩
    · cases hF

theorem px_sim_lstore_n : px_Sim sc l D cA cF g Ex 47 px_o_lstore := by
  intro mid ip pc a ins len he hd hdc hnx hex p e R s m args below meth c H locs cells slots Q lv ls st G f ip1 ls1 st1 G1 f1 hC hE hI hF hc hs kk
  match a, hd, hF, hex with
  | [i], hd, hF, hex =>
    cases hd
    simp only [px_ex, Bool.and_eq_true, decide_eq_true_eq] at hex
    have hnx := hnx.resolve_left (by decide)
    simp only [px_o_lstore] at hF
    split at hF
    · rename_i h1 h2
      cases h1
      cases hF
      obtain ⟨x, st', rfl, rfl, rfl⟩ := px_pL_inv h2
      simp only [px_z] at kk
      refine lv_lstore_n (i := i.toNat) hC.1 hC.2.1 hdc (Nat.mod_eq_of_lt hex.1) hI.2.2.2.1 hex.2 rfl (fun lsN hlN => ?_)
      rw [← hnx]
      exact kk _ lsN st' f H locs (px_s2_eq hI.2.2.2.2.1 i.toNat (.long x)).symm rfl rfl ⟨hI.1, hI.2.1, hI.2.2.1, hlN, px_cc_cons hI.2.2.2.2.1 rfl, hI.2.2.2.2.2⟩
    · cases hF

theorem px_sim_astore_n : px_Sim sc l D cA cF g Ex 34 px_o_astore := by
  intro mid ip pc a ins len he hd hdc hnx hex p e R s m args below meth c H locs cells slots Q lv ls st G f ip1 ls1 st1 G1 f1 hC hE hI hF hc hs kk
  match a, hd, hF, hex with
  | [i], hd, hF, hex =>
    cases hd
    simp only [px_ex, Bool.and_eq_true, decide_eq_true_eq] at hex
    have hnx := hnx.resolve_left (by decide)
    simp only [px_o_astore] at hF
    split at hF
    · rename_i h1 h2
      cases h1
      cases hF
      obtain ⟨x, st', rfl, hx, rfl⟩ := px_pR_inv h2 (by omega)
      simp only [px_z] at kk
      refine lv_astore_n (i := i.toNat) hC.1 hC.2.1 hdc (Nat.mod_eq_of_lt hex.1) hI.2.2.2.1 hex.2 rfl (fun lsN hlN => ?_)
      rw [← hnx]
      exact kk _ lsN st' f H locs (by rw [← px_s1_eq hI.2.2.2.2.1]; show px_s1 _ _ (Sum.inr (Sum.inr (px_ix g x))) = _; rw [hx]) rfl rfl ⟨hI.1, hI.2.1, hI.2.2.1, hlN, px_cc_cons hI.2.2.2.2.1 rfl, hI.2.2.2.2.2⟩
    · cases hF

theorem px_sim_iinc : px_Sim sc l D cA cF g Ex 13 px_o_iinc := by
  intro mid ip pc a ins len he hd hdc hnx hex p e R s m args below meth c H locs cells slots Q lv ls st G f ip1 ls1 st1 G1 f1 hC hE hI hF hc hs kk
  match a, hd, hF, hex with
  | [i, n], hd, hF, hex =>
    cases hd
    simp only [px_ex, Bool.and_eq_true, decide_eq_true_eq, beq_iff_eq] at hex
    have hnx := hnx.resolve_left (by decide)
    simp only [px_o_iinc] at hF
    split at hF
    · rename_i v hv
      cases hF
      obtain ⟨w, hw, hm⟩ := px_ld_inv hv
      obtain ⟨x, rfl, rfl⟩ := px_uv_int hw
      obtain ⟨q, hq⟩ := List.getElem?_of_mem hm
      simp only [px_z] at kk
      refine lv_iinc (i := i.toNat) (v := x + Int32.ofInt n) hC.1 hC.2.1 hdc hI.2.2.2.1 hq rfl hex.1 rfl (fun lsN hlN => ?_)
      rw [← hnx]
      refine kk _ lsN st f H locs ?_ rfl rfl ⟨hI.1, hI.2.1, hI.2.2.1, hlN, px_cc_cons hI.2.2.2.2.1 rfl, hI.2.2.2.2.2⟩
      rw [← px_s1_eq hI.2.2.2.2.1]
      show px_s1 _ _ (Sum.inl (x + Int32.ofInt n).toInt) = _
      rw [Int32.toInt_add, hex.2]
      rfl
    · cases hF

theorem px_sim_icmp : px_Sim sc l D cA cF g Ex 25 px_o_icmp := by
  intro mid ip pc a ins len he hd hdc hnx hex p e R s m args below meth c H locs cells slots Q lv ls st G f ip1 ls1 st1 G1 f1 hC hE hI hF hc hs kk
  match a, hd, hF, hex with
  | [cc, t], hd, hF, hex =>
    have hnx := hnx.resolve_left (by decide)
    have hex : 0 ≤ cc ∧ cc ≤ 5 := by simpa [px_ex] using hex
    simp only [px_o_icmp] at hF
    split at hF
    · rename_i y st2 h1
      obtain ⟨yv, st3, rfl, rfl, rfl⟩ := px_pI_inv h1
      split at hF
      · rename_i x st4 h2
        obtain ⟨xv, st5, rfl, rfl, rfl⟩ := px_pI_inv h2
        cases hF
        simp only [px_z] at kk
        rcases (show cc = 0 ∨ cc = 1 ∨ cc = 2 ∨ cc = 3 ∨ cc = 4 ∨ cc = 5 by omega) with rfl | rfl | rfl | rfl | rfl | rfl
        · cases hd
          simp only [px_br] at hdc
          refine lv_icmp_eq (tgt := px_pc mid t.toNat) hC.1 hC.2.1 hdc (by omega) (fun hq => ?_) (fun hq => ?_)
          · have hb : px_cmp 0 xv.toInt yv.toInt = true := by simp only [px_cmp]; simp [← Int32.toInt_inj] at hq; simp [hq]
            rw [hb] at kk
            exact kk lv ls _ f H locs rfl rfl rfl hI
          · have hb : px_cmp 0 xv.toInt yv.toInt = false := by simp only [px_cmp]; simp [← Int32.toInt_inj] at hq; simp [hq]
            rw [hb] at kk
            rw [← hnx]
            exact kk lv ls _ f H locs rfl rfl rfl hI
        · cases hd
          simp only [px_br] at hdc
          refine lv_icmp_ne (tgt := px_pc mid t.toNat) hC.1 hC.2.1 hdc (by omega) (fun hq => ?_) (fun hq => ?_)
          · have hb : px_cmp 1 xv.toInt yv.toInt = true := by simp only [px_cmp]; simp [← Int32.toInt_inj] at hq; simp [hq]
            rw [hb] at kk
            exact kk lv ls _ f H locs rfl rfl rfl hI
          · have hb : px_cmp 1 xv.toInt yv.toInt = false := by simp only [px_cmp]; simp [← Int32.toInt_inj] at hq; simp [hq]
            rw [hb] at kk
            rw [← hnx]
            exact kk lv ls _ f H locs rfl rfl rfl hI
        · cases hd
          simp only [px_br] at hdc
          refine lv_icmp_lt (tgt := px_pc mid t.toNat) hC.1 hC.2.1 hdc (by omega) (fun hq => ?_) (fun hq => ?_)
          · have hb : px_cmp 2 xv.toInt yv.toInt = true := by simp only [px_cmp]; simp [Int32.lt_iff_toInt_lt] at hq; simp; omega
            rw [hb] at kk
            exact kk lv ls _ f H locs rfl rfl rfl hI
          · have hb : px_cmp 2 xv.toInt yv.toInt = false := by simp only [px_cmp]; simp [Int32.lt_iff_toInt_lt] at hq; simp; omega
            rw [hb] at kk
            rw [← hnx]
            exact kk lv ls _ f H locs rfl rfl rfl hI
        · cases hd
          simp only [px_br] at hdc
          refine lv_icmp_ge (tgt := px_pc mid t.toNat) hC.1 hC.2.1 hdc (by omega) (fun hq => ?_) (fun hq => ?_)
          · have hb : px_cmp 3 xv.toInt yv.toInt = true := by simp only [px_cmp]; simp [Int32.le_iff_toInt_le] at hq; simp; omega
            rw [hb] at kk
            exact kk lv ls _ f H locs rfl rfl rfl hI
          · have hb : px_cmp 3 xv.toInt yv.toInt = false := by simp only [px_cmp]; simp [Int32.le_iff_toInt_le] at hq; simp; omega
            rw [hb] at kk
            rw [← hnx]
            exact kk lv ls _ f H locs rfl rfl rfl hI
        · cases hd
          simp only [px_br] at hdc
          refine lv_icmp_gt (tgt := px_pc mid t.toNat) hC.1 hC.2.1 hdc (by omega) (fun hq => ?_) (fun hq => ?_)
          · have hb : px_cmp 4 xv.toInt yv.toInt = true := by simp only [px_cmp]; simp [Int32.lt_iff_toInt_lt] at hq; simp; omega
            rw [hb] at kk
            exact kk lv ls _ f H locs rfl rfl rfl hI
          · have hb : px_cmp 4 xv.toInt yv.toInt = false := by simp only [px_cmp]; simp [Int32.lt_iff_toInt_lt] at hq; simp; omega
            rw [hb] at kk
            rw [← hnx]
            exact kk lv ls _ f H locs rfl rfl rfl hI
        · cases hd
          simp only [px_br] at hdc
          refine lv_icmp_le (tgt := px_pc mid t.toNat) hC.1 hC.2.1 hdc (by omega) (fun hq => ?_) (fun hq => ?_)
          · have hb : px_cmp 5 xv.toInt yv.toInt = true := by simp only [px_cmp]; simp [Int32.le_iff_toInt_le] at hq; simp; omega
            rw [hb] at kk
            exact kk lv ls _ f H locs rfl rfl rfl hI
          · have hb : px_cmp 5 xv.toInt yv.toInt = false := by simp only [px_cmp]; simp [Int32.le_iff_toInt_le] at hq; simp; omega
            rw [hb] at kk
            rw [← hnx]
            exact kk lv ls _ f H locs rfl rfl rfl hI
      · cases hF
    · cases hF

theorem px_sim_ifc : px_Sim sc l D cA cF g Ex 26 px_o_ifc := by
  intro mid ip pc a ins len he hd hdc hnx hex p e R s m args below meth c H locs cells slots Q lv ls st G f ip1 ls1 st1 G1 f1 hC hE hI hF hc hs kk
  match a, hd, hF, hex with
  | [cc, t], hd, hF, hex =>
    have hnx := hnx.resolve_left (by decide)
    have hex : 0 ≤ cc ∧ cc ≤ 5 := by simpa [px_ex] using hex
    simp only [px_o_ifc] at hF
    split at hF
    · rename_i y st2 h1
      obtain ⟨yv, st3, rfl, rfl, rfl⟩ := px_pI_inv h1
      cases hF
      simp only [px_z] at kk
      rcases (show cc = 0 ∨ cc = 1 ∨ cc = 2 ∨ cc = 3 ∨ cc = 4 ∨ cc = 5 by omega) with rfl | rfl | rfl | rfl | rfl | rfl
      · cases hd
        simp only [px_br] at hdc
        refine lv_if_eq (tgt := px_pc mid t.toNat) hC.1 hC.2.1 hdc (by omega) (fun hq => ?_) (fun hq => ?_)
        · have hb : px_cmp 0 yv.toInt 0 = true := by simp only [px_cmp]; simp [← Int32.toInt_inj, Int32.toInt_zero] at hq; simp [hq]
          rw [hb] at kk
          exact kk lv ls _ f H locs rfl rfl rfl hI
        · have hb : px_cmp 0 yv.toInt 0 = false := by simp only [px_cmp]; simp [← Int32.toInt_inj, Int32.toInt_zero] at hq; simp [hq]
          rw [hb] at kk
          rw [← hnx]
          exact kk lv ls _ f H locs rfl rfl rfl hI
      · cases hd
        simp only [px_br] at hdc
        refine lv_if_ne (tgt := px_pc mid t.toNat) hC.1 hC.2.1 hdc (by omega) (fun hq => ?_) (fun hq => ?_)
        · have hb : px_cmp 1 yv.toInt 0 = true := by simp only [px_cmp]; simp [← Int32.toInt_inj, Int32.toInt_zero] at hq; simp [hq]
          rw [hb] at kk
          exact kk lv ls _ f H locs rfl rfl rfl hI
        · have hb : px_cmp 1 yv.toInt 0 = false := by simp only [px_cmp]; simp [← Int32.toInt_inj, Int32.toInt_zero] at hq; simp [hq]
          rw [hb] at kk
          rw [← hnx]
          exact kk lv ls _ f H locs rfl rfl rfl hI
      · cases hd
        simp only [px_br] at hdc
        refine lv_if_lt (tgt := px_pc mid t.toNat) hC.1 hC.2.1 hdc (by omega) (fun hq => ?_) (fun hq => ?_)
        · have hb : px_cmp 2 yv.toInt 0 = true := by simp only [px_cmp]; simp [Int32.lt_iff_toInt_lt, Int32.toInt_zero] at hq; simp; omega
          rw [hb] at kk
          exact kk lv ls _ f H locs rfl rfl rfl hI
        · have hb : px_cmp 2 yv.toInt 0 = false := by simp only [px_cmp]; simp [Int32.lt_iff_toInt_lt, Int32.toInt_zero] at hq; simp; omega
          rw [hb] at kk
          rw [← hnx]
          exact kk lv ls _ f H locs rfl rfl rfl hI
      · cases hd
        simp only [px_br] at hdc
        refine lv_if_ge (tgt := px_pc mid t.toNat) hC.1 hC.2.1 hdc (by omega) (fun hq => ?_) (fun hq => ?_)
        · have hb : px_cmp 3 yv.toInt 0 = true := by simp only [px_cmp]; simp [Int32.le_iff_toInt_le, Int32.toInt_zero] at hq; simp; omega
          rw [hb] at kk
          exact kk lv ls _ f H locs rfl rfl rfl hI
        · have hb : px_cmp 3 yv.toInt 0 = false := by simp only [px_cmp]; simp [Int32.le_iff_toInt_le, Int32.toInt_zero] at hq; simp; omega
          rw [hb] at kk
          rw [← hnx]
          exact kk lv ls _ f H locs rfl rfl rfl hI
      · cases hd
        simp only [px_br] at hdc
        refine lv_if_gt (tgt := px_pc mid t.toNat) hC.1 hC.2.1 hdc (by omega) (fun hq => ?_) (fun hq => ?_)
        · have hb : px_cmp 4 yv.toInt 0 = true := by simp only [px_cmp]; simp [Int32.lt_iff_toInt_lt, Int32.toInt_zero] at hq; simp; omega
          rw [hb] at kk
          exact kk lv ls _ f H locs rfl rfl rfl hI
        · have hb : px_cmp 4 yv.toInt 0 = false := by simp only [px_cmp]; simp [Int32.lt_iff_toInt_lt, Int32.toInt_zero] at hq; simp; omega
          rw [hb] at kk
          rw [← hnx]
          exact kk lv ls _ f H locs rfl rfl rfl hI
      · cases hd
        simp only [px_br] at hdc
        refine lv_if_le (tgt := px_pc mid t.toNat) hC.1 hC.2.1 hdc (by omega) (fun hq => ?_) (fun hq => ?_)
        · have hb : px_cmp 5 yv.toInt 0 = true := by simp only [px_cmp]; simp [Int32.le_iff_toInt_le, Int32.toInt_zero] at hq; simp; omega
          rw [hb] at kk
          exact kk lv ls _ f H locs rfl rfl rfl hI
        · have hb : px_cmp 5 yv.toInt 0 = false := by simp only [px_cmp]; simp [Int32.le_iff_toInt_le, Int32.toInt_zero] at hq; simp; omega
          rw [hb] at kk
          rw [← hnx]
          exact kk lv ls _ f H locs rfl rfl rfl hI
    · cases hF

theorem px_sim_goto : px_Sim sc l D cA cF g Ex 27 px_o_goto := by
  intro mid ip pc a ins len he hd hdc hnx hex p e R s m args below meth c H locs cells slots Q lv ls st G f ip1 ls1 st1 G1 f1 hC hE hI hF hc hs kk
  match a, hd, hF, hex with
  | [t], hd, hF, hex =>
    cases hd; cases hF
    simp only [px_br] at hdc
    simp only [px_z] at kk
    refine lv_goto (tgt := px_pc mid t.toNat) hC.1 hC.2.1 hdc (by omega) ?_
    exact kk lv ls _ f H locs rfl rfl rfl hI
theorem px_sim_tsw : px_Sim sc l D cA cF g Ex 28 px_o_tsw := by
  intro mid ip pc a ins len he hd hdc hnx hex p e R s m args below meth c H locs cells slots Q lv ls st G f ip1 ls1 st1 G1 f1 hC hE hI hF hc hs kk
  match a, hd, hF, hex with
  | df :: lo :: hi :: ts, hd, hF, hex =>
    cases hd
    simp only [px_o_tsw] at hF
    split at hF
    · rename_i y st2 h1
      obtain ⟨yv, st3, rfl, rfl, rfl⟩ := px_pI_inv h1
      by_cases hb : yv.toInt < lo ∨ hi < yv.toInt
      · rw [if_pos hb] at hF
        cases hF
        simp only [px_z] at kk
        refine lv_tableOut (tgt := px_pc mid df.toNat) hC.1 hC.2.1 hdc hb (by omega) ?_
        exact kk lv ls _ f H locs rfl rfl rfl hI
      · rw [if_neg hb] at hF
        split at hF
        · rename_i t ht
          cases hF
          simp only [px_z] at kk
          refine lv_tableIn (tgt := px_pc mid t.toNat) (off := (px_pc mid t.toNat : Int) - pc) hC.1 hC.2.1 hdc (fun q => hb (Or.inl q)) (fun q => hb (Or.inr q)) (by simp [ht]) (by omega) ?_
          exact kk lv ls _ f H locs rfl rfl rfl hI
        · cases hF
    · cases hF
theorem px_lk_eq (pcf : Nat → Nat) (pc : Nat) (df x : Int) : ∀ (n : Nat) (ts : List Int), ts.length ≤ n → Op.lookupswitch.offset (px_prs pcf pc ts) ((pcf df.toNat : Int) - pc) x = (pcf (px_lk ts df x).toNat : Int) - pc := by
  intro n
  induction n with
  | zero =>
    intro ts h
    have : ts = [] := List.length_eq_zero_iff.mp (by omega)
    subst this
    rfl
  | succ n ih =>
    intro ts h
    match ts, h with
    | [], _ => rfl
    | [a], _ => rfl
    | k :: t :: r, h =>
      have h2 := ih r (by simp at h; omega)
      show Op.lookupswitch.offset ((k, (pcf t.toNat : Int) - pc) :: px_prs pcf pc r) _ x = (pcf (if x = k then t else px_lk r df x).toNat : Int) - pc
      rw [Op.lookupswitch.offset_cons, h2]
      by_cases hk : x = k
      · simp [hk]
      · have hk2 : ¬ k = x := fun q => hk q.symm
        simp [hk, hk2]
theorem px_sim_lsw : px_Sim sc l D cA cF g Ex 29 px_o_lsw := by
  intro mid ip pc a ins len he hd hdc hnx hex p e R s m args below meth c H locs cells slots Q lv ls st G f ip1 ls1 st1 G1 f1 hC hE hI hF hc hs kk
  match a, hd, hF, hex with
  | df :: ts, hd, hF, hex =>
    simp only [px_dec] at hd
    split at hd
    · rename_i hsrt
      cases hd
      simp only [px_o_lsw] at hF
      split at hF
      · rename_i y st2 h1
        obtain ⟨yv, st3, rfl, rfl, rfl⟩ := px_pI_inv h1
        cases hF
        simp only [px_z] at kk
        refine lv_lookup (tgt := px_pc mid (px_lk ts df yv.toInt).toNat) hC.1 hC.2.1 hdc (by simpa using hsrt) (px_lk_eq (px_pc mid) pc df yv.toInt _ ts (Nat.le_refl _)) (by omega) ?_
        exact kk lv ls _ f H locs rfl rfl rfl hI
      · cases hF
    · cases hd
theorem px_cat1 {g : px_g} {v : Value} (h : (px_kv (px_uv g v) && px_cat (px_uv g v) == 1) = true) : v.category = 1 := by
  cases v <;> first | rfl | simp [px_uv, px_kv, px_cat] at h
theorem px_sim_dup : px_Sim sc l D cA cF g Ex 30 px_o_dup := by
  intro mid ip pc a ins len he hd hdc hnx hex p e R s m args below meth c H locs cells slots Q lv ls st G f ip1 ls1 st1 G1 f1 hC hE hI hF hc hs kk
  cases hd
  have hnx := hnx.resolve_left (by decide)
  cases st with
  | nil => cases hF
  | cons v st =>
    simp only [px_o_dup, px_us_cons] at hF
    cases hb : (px_kv (px_uv g v) && px_cat (px_uv g v) == 1) with
    | false => rw [hb] at hF; cases hF
    | true =>
      rw [hb] at hF
      cases hF
      simp only [px_z] at kk
      refine lv_dup hC.1 hC.2.1 hdc (px_cat1 hb) ?_
      rw [← hnx]
      exact kk lv ls _ f H locs rfl rfl rfl hI
theorem px_sim_pop : px_Sim sc l D cA cF g Ex 31 px_o_pop := by
  intro mid ip pc a ins len he hd hdc hnx hex p e R s m args below meth c H locs cells slots Q lv ls st G f ip1 ls1 st1 G1 f1 hC hE hI hF hc hs kk
  cases hd
  have hnx := hnx.resolve_left (by decide)
  cases st with
  | nil => cases hF
  | cons v st =>
    simp only [px_o_pop, px_us_cons] at hF
    cases hb : (px_kv (px_uv g v) && px_cat (px_uv g v) == 1) with
    | false => rw [hb] at hF; cases hF
    | true =>
      rw [hb] at hF
      cases hF
      simp only [px_z] at kk
      refine lv_pop hC.1 hC.2.1 hdc (px_cat1 hb) ?_
      rw [← hnx]
      exact kk lv ls _ f H locs rfl rfl rfl hI
theorem px_sim_dup2 : px_Sim sc l D cA cF g Ex 32 px_o_dup2 := by
  intro mid ip pc a ins len he hd hdc hnx hex p e R s m args below meth c H locs cells slots Q lv ls st G f ip1 ls1 st1 G1 f1 hC hE hI hF hc hs kk
  cases hd
  have hnx := hnx.resolve_left (by decide)
  match st, hF with
  | v :: w :: st, hF =>
    simp only [px_o_dup2, px_us_cons] at hF
    cases hb : (px_kv (px_uv g v) && px_cat (px_uv g v) == 1 && px_kv (px_uv g w) && px_cat (px_uv g w) == 1) with
    | false => rw [hb] at hF; cases hF
    | true =>
      rw [hb] at hF
      cases hF
      simp only [px_z] at kk
      have h2 : (px_kv (px_uv g v) && px_cat (px_uv g v) == 1) = true ∧ (px_kv (px_uv g w) && px_cat (px_uv g w) == 1) = true := by
        simp only [Bool.and_eq_true] at hb ⊢
        exact ⟨⟨hb.1.1.1, hb.1.1.2⟩, hb.1.2, hb.2⟩
      refine lv_dup2_11 hC.1 hC.2.1 hdc (px_cat1 h2.1) (px_cat1 h2.2) ?_
      rw [← hnx]
      exact kk lv ls _ f H locs rfl rfl rfl hI
end PXO
