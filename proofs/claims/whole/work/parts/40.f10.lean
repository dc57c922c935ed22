def l_Law_asksFor_2 (s : px_Z)  : Nat → Int → Int → Option (Int)
  | 0, _, _ => none
  | n + 1, x1, x2 => if (s 14 1) ≤ (x2) then some 0 else (if 0 ≤ (x2) ∧ (x2) < 400 then if (s 19 x2.toNat) = (x1) then some 1 else l_Law_asksFor_2 s  n x1 (px_wr (x2 + 1)) else none)
set_option maxHeartbeats 4000000 in
set_option maxRecDepth 100000 in
theorem cl_Law_asksFor_2 {sc : List Int} {d : Nat} {s : px_Z}  : ∀ (n : Nat) (x1 : Int) (x2 : Int) (out : Int), l_Law_asksFor_2 s  n x1 x2 = some out → px_D sc (d + 0) 16 2 [(0, .inr (.inr 14)), (1, .inl (x1)), (2, .inl (x2))] [] (px_G1, s) (px_Qp s out) := by
  intro n
  induction n with
  | zero => intro x1 x2 out h; cases h
  | succ n ih =>
    intro x1 x2 out h
    rw [l_Law_asksFor_2] at h
    refine px_D_st 3 (ip1 := 5) (ls1 := [(0, .inr (.inr 14)), (1, .inl (x1)), (2, .inl (x2))]) (st1 := [.inl (s 14 1), .inl (x2)]) (h1 := (px_G1, s)) rfl ?_
    refine px_D_icmp rfl (fun hc => ?_) (fun hc => ?_)
    · have hc1 : (s 14 1) ≤ (x2) := of_decide_eq_true hc
      rw [if_pos hc1] at h
      refine px_D_st 1 (ip1 := 17) (ls1 := [(0, .inr (.inr 14)), (1, .inl (x1)), (2, .inl (x2))]) (st1 := [.inl (0)]) (h1 := (px_G1, s)) rfl ?_
      cases h
      exact px_D_iret rfl rfl ⟨rfl, rfl⟩
    · have hc1 : ¬ ((s 14 1) ≤ (x2)) := of_decide_eq_false hc
      rw [if_neg hc1] at h
      refine px_D_st 3 (ip1 := 9) (ls1 := [(0, .inr (.inr 14)), (1, .inl (x1)), (2, .inl (x2))]) (st1 := [.inl (x2), .inr (.inr 19)]) (h1 := (px_G1, s)) rfl ?_
      by_cases hc2 : 0 ≤ (x2) ∧ (x2) < 400
      case neg => rw [if_neg hc2] at h; cases h
      rw [if_pos hc2] at h
      refine px_D_iald (k := 14) (n := 400) rfl rfl hc2 ?_
      refine px_D_st 1 (ip1 := 11) (ls1 := [(0, .inr (.inr 14)), (1, .inl (x1)), (2, .inl (x2))]) (st1 := [.inl (x1), .inl (s 19 x2.toNat)]) (h1 := (px_G1, s)) rfl ?_
      refine px_D_icmp rfl (fun hc => ?_) (fun hc => ?_)
      · have hc3 : ¬ ((s 19 x2.toNat) = (x1)) := of_decide_eq_true hc
        rw [if_neg hc3] at h
        refine px_D_st 2 (ip1 := 2) (ls1 := [(2, .inl (px_wr (x2 + 1))), (0, .inr (.inr 14)), (1, .inl (x1))]) (st1 := []) (h1 := (px_G1, s)) rfl ?_
        refine px_D_ls [(0, .inr (.inr 14)), (1, .inl (x1)), (2, .inl (px_wr (x2 + 1)))] rfl rfl (List.forall_mem_cons.mpr ⟨rfl, List.forall_mem_cons.mpr ⟨rfl, List.forall_mem_cons.mpr ⟨rfl, fun _ h => absurd h List.not_mem_nil⟩⟩⟩) ?_
        exact ih _ _ _ h
      · have hc3 : (s 19 x2.toNat) = (x1) := Decidable.of_not_not (of_decide_eq_false hc)
        rw [if_pos hc3] at h
        refine px_D_st 1 (ip1 := 13) (ls1 := [(0, .inr (.inr 14)), (1, .inl (x1)), (2, .inl (x2))]) (st1 := [.inl (1)]) (h1 := (px_G1, s)) rfl ?_
        cases h
        exact px_D_iret rfl rfl ⟨rfl, rfl⟩
def f_Law_asksFor (s : px_Z) (x1 : Int) : Option (Int) := l_Law_asksFor_2 s  px_big x1 0
set_option maxHeartbeats 4000000 in
set_option maxRecDepth 100000 in
theorem c_Law_asksFor {sc : List Int} {d : Nat} {s : px_Z} {x1 : Int} {out : Int} (h : f_Law_asksFor s x1 = some out) : px_D sc (d + 0) 16 0 [(0, .inr (.inr 14)), (1, .inl (x1))] [] (px_G1, s) (px_Qp s out) := by
  unfold f_Law_asksFor at h
  refine px_D_st 2 (ip1 := 2) (ls1 := [(2, .inl (0)), (0, .inr (.inr 14)), (1, .inl (x1))]) (st1 := []) (h1 := (px_G1, s)) rfl ?_
  refine px_D_ls [(0, .inr (.inr 14)), (1, .inl (x1)), (2, .inl (0))] rfl rfl (List.forall_mem_cons.mpr ⟨rfl, List.forall_mem_cons.mpr ⟨rfl, List.forall_mem_cons.mpr ⟨rfl, fun _ h => absurd h List.not_mem_nil⟩⟩⟩) ?_
  refine cl_Law_asksFor_2  px_big _ _ _ h

def l_Arrays_fill_3_5  : Nat → px_Z → Int → Int → Int → Option (px_Z)
  | 0, _, _, _, _ => none
  | n + 1, s, x1, x2, x3 => if (x3) ≤ (x2) then some s else (if 0 ≤ (x2) ∧ (x2) < 2048 then l_Arrays_fill_3_5  n (px_up s 146 x2.toNat x1) x1 (px_wr (x2 + 1)) x3 else none)
set_option maxHeartbeats 4000000 in
set_option maxRecDepth 100000 in
theorem cl_Arrays_fill_3_5 {sc : List Int} {d : Nat}  : ∀ (n : Nat) (s : px_Z) (x1 : Int) (x2 : Int) (x3 : Int) (out : px_Z), l_Arrays_fill_3_5  n s x1 x2 x3 = some out → px_D sc (d + 0) 287 5 [(0, .inr (.inr 146)), (1, .inl (x1)), (2, .inl (x2)), (3, .inl (x3))] [] (px_G1, s) (px_Qv out) := by
  intro n
  induction n with
  | zero => intro s x1 x2 x3 out h; cases h
  | succ n ih =>
    intro s x1 x2 x3 out h
    rw [l_Arrays_fill_3_5] at h
    refine px_D_st 2 (ip1 := 7) (ls1 := [(0, .inr (.inr 146)), (1, .inl (x1)), (2, .inl (x2)), (3, .inl (x3))]) (st1 := [.inl (x3), .inl (x2)]) (h1 := (px_G1, s)) rfl ?_
    refine px_D_icmp rfl (fun hc => ?_) (fun hc => ?_)
    · have hc1 : (x3) ≤ (x2) := of_decide_eq_true hc
      rw [if_pos hc1] at h
      cases h
      exact px_D_vret rfl ⟨rfl, rfl⟩
    · have hc1 : ¬ ((x3) ≤ (x2)) := of_decide_eq_false hc
      rw [if_neg hc1] at h
      refine px_D_st 3 (ip1 := 11) (ls1 := [(0, .inr (.inr 146)), (1, .inl (x1)), (2, .inl (x2)), (3, .inl (x3))]) (st1 := [.inl (x1), .inl (x2), .inr (.inr 146)]) (h1 := (px_G1, s)) rfl ?_
      by_cases hc2 : 0 ≤ (x2) ∧ (x2) < 2048
      case neg => rw [if_neg hc2] at h; cases h
      rw [if_pos hc2] at h
      refine px_D_iast (k := 141) (n := 2048) rfl rfl hc2 ?_
      refine px_D_st 2 (ip1 := 5) (ls1 := [(2, .inl (px_wr (x2 + 1))), (0, .inr (.inr 146)), (1, .inl (x1)), (3, .inl (x3))]) (st1 := []) (h1 := (px_G1, px_up s 146 x2.toNat x1)) rfl ?_
      refine px_D_ls [(0, .inr (.inr 146)), (1, .inl (x1)), (2, .inl (px_wr (x2 + 1))), (3, .inl (x3))] rfl rfl (List.forall_mem_cons.mpr ⟨rfl, List.forall_mem_cons.mpr ⟨rfl, List.forall_mem_cons.mpr ⟨rfl, List.forall_mem_cons.mpr ⟨rfl, fun _ h => absurd h List.not_mem_nil⟩⟩⟩⟩) ?_
      exact ih _ _ _ _ _ h
def f_Arrays_fill_3 (s : px_Z) (x1 : Int) : Option (px_Z) := l_Arrays_fill_3_5  px_big s x1 0 2048
set_option maxHeartbeats 4000000 in
set_option maxRecDepth 100000 in
theorem c_Arrays_fill_3 {sc : List Int} {d : Nat} {s : px_Z} {x1 : Int} {out : px_Z} (h : f_Arrays_fill_3 s x1 = some out) : px_D sc (d + 0) 287 0 [(0, .inr (.inr 146)), (1, .inl (x1))] [] (px_G1, s) (px_Qv out) := by
  unfold f_Arrays_fill_3 at h
  refine px_D_st 5 (ip1 := 5) (ls1 := [(3, .inl (2048)), (2, .inl (0)), (0, .inr (.inr 146)), (1, .inl (x1))]) (st1 := []) (h1 := (px_G1, s)) rfl ?_
  refine px_D_ls [(0, .inr (.inr 146)), (1, .inl (x1)), (2, .inl (0)), (3, .inl (2048))] rfl rfl (List.forall_mem_cons.mpr ⟨rfl, List.forall_mem_cons.mpr ⟨rfl, List.forall_mem_cons.mpr ⟨rfl, List.forall_mem_cons.mpr ⟨rfl, fun _ h => absurd h List.not_mem_nil⟩⟩⟩⟩) ?_
  refine cl_Arrays_fill_3_5  px_big _ _ _ _ _ h

def l_Least_solve_87 (k118 : px_Z → Option (px_Z)) : Nat → px_Z → Int → Int → Option (px_Z)
  | 0, _, _, _ => none
  | n + 1, s, x3, x4 => if (x4) < (s 7 4) then k118 s  else (if 0 ≤ (px_wr (((px_up s 145 7 x4) 145 5) * 8)) ∧ (px_wr (((px_up s 145 7 x4) 145 5) * 8)) < 2048 then if (x3) = (0) then (if (x4) = ((px_up (px_up s 145 7 x4) 145 12 ((px_up s 145 7 x4) 146 (px_wr (((px_up s 145 7 x4) 145 5) * 8)).toNat)) 6 4) then (f_Least_askPrices (px_up (px_up s 145 7 x4) 145 12 ((px_up s 145 7 x4) 146 (px_wr (((px_up s 145 7 x4) 145 5) * 8)).toNat)) ).bind (fun q21 => (f_Least_settleWeek q21 ).bind (fun q22 => l_Least_solve_87 k118 n q22 x3 (px_wr (x4 + (-1))))) else (f_Least_settleWeek (px_up (px_up s 145 7 x4) 145 12 ((px_up s 145 7 x4) 146 (px_wr (((px_up s 145 7 x4) 145 5) * 8)).toNat)) ).bind (fun q20 => l_Least_solve_87 k118 n q20 x3 (px_wr (x4 + (-1))))) else (f_Least_askPrices (px_up (px_up s 145 7 x4) 145 12 ((px_up s 145 7 x4) 146 (px_wr (((px_up s 145 7 x4) 145 5) * 8)).toNat)) ).bind (fun q17 => (f_Least_settleWeek q17 ).bind (fun q18 => l_Least_solve_87 k118 n q18 x3 (px_wr (x4 + (-1))))) else none)
set_option maxHeartbeats 4000000 in
set_option maxRecDepth 100000 in
theorem cl_Least_solve_87 {sc : List Int} {d : Nat} {k118 : px_Z → Option (px_Z)}  (hk118 : ∀ (s : px_Z) (out : px_Z), k118 s  = some out → px_D sc (d + 5) 25 118 [(0, .inr (.inr 145))] [] (px_G1, s) (px_Qv out)) : ∀ (n : Nat) (s : px_Z) (x3 : Int) (x4 : Int) (out : px_Z), l_Least_solve_87 k118 n s x3 x4 = some out → px_D sc (d + 5) 25 87 [(0, .inr (.inr 145)), (3, .inl (x3)), (4, .inl (x4))] [] (px_G1, s) (px_Qv out) := by
  intro n
  induction n with
  | zero => intro s x3 x4 out h; cases h
  | succ n ih =>
    intro s x3 x4 out h
    rw [l_Least_solve_87] at h
    refine px_D_st 5 (ip1 := 92) (ls1 := [(0, .inr (.inr 145)), (3, .inl (x3)), (4, .inl (x4))]) (st1 := [.inl (s 7 4), .inl (x4)]) (h1 := (px_G1, s)) rfl ?_
    refine px_D_icmp rfl (fun hc => ?_) (fun hc => ?_)
    · have hc14 : (x4) < (s 7 4) := of_decide_eq_true hc
      rw [if_pos hc14] at h
      refine px_D_ls [(0, .inr (.inr 145))] rfl rfl (List.forall_mem_cons.mpr ⟨rfl, fun _ h => absurd h List.not_mem_nil⟩) ?_
      exact hk118 _ _ h
    · have hc14 : ¬ ((x4) < (s 7 4)) := of_decide_eq_false hc
      rw [if_neg hc14] at h
      refine px_D_st 10 (ip1 := 103) (ls1 := [(0, .inr (.inr 145)), (3, .inl (x3)), (4, .inl (x4))]) (st1 := [.inl (px_wr (((px_up s 145 7 x4) 145 5) * 8)), .inr (.inr 146), .inr (.inr 145)]) (h1 := (px_G1, px_up s 145 7 x4)) rfl ?_
      by_cases hc15 : 0 ≤ (px_wr (((px_up s 145 7 x4) 145 5) * 8)) ∧ (px_wr (((px_up s 145 7 x4) 145 5) * 8)) < 2048
      case neg => rw [if_neg hc15] at h; cases h
      rw [if_pos hc15] at h
      refine px_D_iald (k := 141) (n := 2048) rfl rfl hc15 ?_
      refine px_D_st 2 (ip1 := 106) (ls1 := [(0, .inr (.inr 145)), (3, .inl (x3)), (4, .inl (x4))]) (st1 := [.inl (x3)]) (h1 := (px_G1, px_up (px_up s 145 7 x4) 145 12 ((px_up s 145 7 x4) 146 (px_wr (((px_up s 145 7 x4) 145 5) * 8)).toNat))) rfl ?_
      refine px_D_ifc rfl (fun hc => ?_) (fun hc => ?_)
      · have hc16 : ¬ ((x3) = (0)) := of_decide_eq_true hc
        rw [if_neg hc16] at h
        refine px_D_st 1 (ip1 := 113) (ls1 := [(0, .inr (.inr 145)), (3, .inl (x3)), (4, .inl (x4))]) (st1 := [.inr (.inr 145)]) (h1 := (px_G1, px_up (px_up s 145 7 x4) 145 12 ((px_up s 145 7 x4) 146 (px_wr (((px_up s 145 7 x4) 145 5) * 8)).toNat))) rfl ?_
        refine px_D_call (as := [.inr (.inr 145)]) (rest := []) rfl rfl rfl rfl ?_
        obtain ⟨q17, hq17, h⟩ := Option.bind_eq_some_iff.mp h
        refine px_D_mono (c_Least_askPrices (d := d + 0) hq17) ?_
        rintro _ _ ⟨rfl, rfl⟩
        show px_D sc (d + 5) 25 114 [(0, .inr (.inr 145)), (3, .inl (x3)), (4, .inl (x4))] [] (px_G1, q17) _
        refine px_D_st 1 (ip1 := 115) (ls1 := [(0, .inr (.inr 145)), (3, .inl (x3)), (4, .inl (x4))]) (st1 := [.inr (.inr 145)]) (h1 := (px_G1, q17)) rfl ?_
        refine px_D_call (as := [.inr (.inr 145)]) (rest := []) rfl rfl rfl rfl ?_
        obtain ⟨q18, hq18, h⟩ := Option.bind_eq_some_iff.mp h
        refine px_D_mono (c_Least_settleWeek (d := d + 0) hq18) ?_
        rintro _ _ ⟨rfl, rfl⟩
        show px_D sc (d + 5) 25 116 [(0, .inr (.inr 145)), (3, .inl (x3)), (4, .inl (x4))] [] (px_G1, q18) _
        refine px_D_st 2 (ip1 := 87) (ls1 := [(4, .inl (px_wr (x4 + (-1)))), (0, .inr (.inr 145)), (3, .inl (x3))]) (st1 := []) (h1 := (px_G1, q18)) rfl ?_
        refine px_D_ls [(0, .inr (.inr 145)), (3, .inl (x3)), (4, .inl (px_wr (x4 + (-1))))] rfl rfl (List.forall_mem_cons.mpr ⟨rfl, List.forall_mem_cons.mpr ⟨rfl, List.forall_mem_cons.mpr ⟨rfl, fun _ h => absurd h List.not_mem_nil⟩⟩⟩) ?_
        exact ih _ _ _ _ h
      · have hc16 : (x3) = (0) := Decidable.of_not_not (of_decide_eq_false hc)
        rw [if_pos hc16] at h
        refine px_D_st 4 (ip1 := 111) (ls1 := [(0, .inr (.inr 145)), (3, .inl (x3)), (4, .inl (x4))]) (st1 := [.inl ((px_up (px_up s 145 7 x4) 145 12 ((px_up s 145 7 x4) 146 (px_wr (((px_up s 145 7 x4) 145 5) * 8)).toNat)) 6 4), .inl (x4)]) (h1 := (px_G1, px_up (px_up s 145 7 x4) 145 12 ((px_up s 145 7 x4) 146 (px_wr (((px_up s 145 7 x4) 145 5) * 8)).toNat))) rfl ?_
        refine px_D_icmp rfl (fun hc => ?_) (fun hc => ?_)
        · have hc19 : ¬ ((x4) = ((px_up (px_up s 145 7 x4) 145 12 ((px_up s 145 7 x4) 146 (px_wr (((px_up s 145 7 x4) 145 5) * 8)).toNat)) 6 4)) := of_decide_eq_true hc
          rw [if_neg hc19] at h
          refine px_D_st 1 (ip1 := 115) (ls1 := [(0, .inr (.inr 145)), (3, .inl (x3)), (4, .inl (x4))]) (st1 := [.inr (.inr 145)]) (h1 := (px_G1, px_up (px_up s 145 7 x4) 145 12 ((px_up s 145 7 x4) 146 (px_wr (((px_up s 145 7 x4) 145 5) * 8)).toNat))) rfl ?_
          refine px_D_call (as := [.inr (.inr 145)]) (rest := []) rfl rfl rfl rfl ?_
          obtain ⟨q20, hq20, h⟩ := Option.bind_eq_some_iff.mp h
          refine px_D_mono (c_Least_settleWeek (d := d + 0) hq20) ?_
          rintro _ _ ⟨rfl, rfl⟩
          show px_D sc (d + 5) 25 116 [(0, .inr (.inr 145)), (3, .inl (x3)), (4, .inl (x4))] [] (px_G1, q20) _
          refine px_D_st 2 (ip1 := 87) (ls1 := [(4, .inl (px_wr (x4 + (-1)))), (0, .inr (.inr 145)), (3, .inl (x3))]) (st1 := []) (h1 := (px_G1, q20)) rfl ?_
          refine px_D_ls [(0, .inr (.inr 145)), (3, .inl (x3)), (4, .inl (px_wr (x4 + (-1))))] rfl rfl (List.forall_mem_cons.mpr ⟨rfl, List.forall_mem_cons.mpr ⟨rfl, List.forall_mem_cons.mpr ⟨rfl, fun _ h => absurd h List.not_mem_nil⟩⟩⟩) ?_
          exact ih _ _ _ _ h
        · have hc19 : (x4) = ((px_up (px_up s 145 7 x4) 145 12 ((px_up s 145 7 x4) 146 (px_wr (((px_up s 145 7 x4) 145 5) * 8)).toNat)) 6 4) := Decidable.of_not_not (of_decide_eq_false hc)
          rw [if_pos hc19] at h
          refine px_D_st 1 (ip1 := 113) (ls1 := [(0, .inr (.inr 145)), (3, .inl (x3)), (4, .inl (x4))]) (st1 := [.inr (.inr 145)]) (h1 := (px_G1, px_up (px_up s 145 7 x4) 145 12 ((px_up s 145 7 x4) 146 (px_wr (((px_up s 145 7 x4) 145 5) * 8)).toNat))) rfl ?_
          refine px_D_call (as := [.inr (.inr 145)]) (rest := []) rfl rfl rfl rfl ?_
          obtain ⟨q21, hq21, h⟩ := Option.bind_eq_some_iff.mp h
          refine px_D_mono (c_Least_askPrices (d := d + 0) hq21) ?_
          rintro _ _ ⟨rfl, rfl⟩
          show px_D sc (d + 5) 25 114 [(0, .inr (.inr 145)), (3, .inl (x3)), (4, .inl (x4))] [] (px_G1, q21) _
          refine px_D_st 1 (ip1 := 115) (ls1 := [(0, .inr (.inr 145)), (3, .inl (x3)), (4, .inl (x4))]) (st1 := [.inr (.inr 145)]) (h1 := (px_G1, q21)) rfl ?_
          refine px_D_call (as := [.inr (.inr 145)]) (rest := []) rfl rfl rfl rfl ?_
          obtain ⟨q22, hq22, h⟩ := Option.bind_eq_some_iff.mp h
          refine px_D_mono (c_Least_settleWeek (d := d + 0) hq22) ?_
          rintro _ _ ⟨rfl, rfl⟩
          show px_D sc (d + 5) 25 116 [(0, .inr (.inr 145)), (3, .inl (x3)), (4, .inl (x4))] [] (px_G1, q22) _
          refine px_D_st 2 (ip1 := 87) (ls1 := [(4, .inl (px_wr (x4 + (-1)))), (0, .inr (.inr 145)), (3, .inl (x3))]) (st1 := []) (h1 := (px_G1, q22)) rfl ?_
          refine px_D_ls [(0, .inr (.inr 145)), (3, .inl (x3)), (4, .inl (px_wr (x4 + (-1))))] rfl rfl (List.forall_mem_cons.mpr ⟨rfl, List.forall_mem_cons.mpr ⟨rfl, List.forall_mem_cons.mpr ⟨rfl, fun _ h => absurd h List.not_mem_nil⟩⟩⟩) ?_
          exact ih _ _ _ _ h
def j_Least_solve_j9 (s : px_Z) (t0 : Int) : Option (px_Z) := if (s 145 10) = (t0) then some s else (f_World_homeSet (px_up s 145 10 t0) ).bind (fun q4 => if ((px_up (px_up (px_up (px_up (px_up s 145 10 t0) 145 5 q4) 145 6 (f_World_all (px_up (px_up s 145 10 t0) 145 5 q4) )) 145 11 536870912) 145 12 536870912) 7 4) ≤ ((px_up (px_up (px_up (px_up (px_up s 145 10 t0) 145 5 q4) 145 6 (f_World_all (px_up (px_up s 145 10 t0) 145 5 q4) )) 145 11 536870912) 145 12 536870912) 6 4) then (f_Law_asksFor (px_up (px_up (px_up (px_up (px_up s 145 10 t0) 145 5 q4) 145 6 (f_World_all (px_up (px_up s 145 10 t0) 145 5 q4) )) 145 11 536870912) 145 12 536870912) 263).bind (fun q6 => if (q6) = 0 ∨ (q6) = 1 then (f_Law_asksFor (px_up (px_up (px_up (px_up (px_up (px_up s 145 10 t0) 145 5 q4) 145 6 (f_World_all (px_up (px_up s 145 10 t0) 145 5 q4) )) 145 11 536870912) 145 12 536870912) 145 8 q6) 264).bind (fun q8 => if (q8) = 0 ∨ (q8) = 1 then (f_Law_asksFor (px_up (px_up (px_up (px_up (px_up (px_up (px_up s 145 10 t0) 145 5 q4) 145 6 (f_World_all (px_up (px_up s 145 10 t0) 145 5 q4) )) 145 11 536870912) 145 12 536870912) 145 8 q6) 145 9 q8) 259).bind (fun q10 => (f_Least_findReady (px_up (px_up (px_up (px_up (px_up (px_up (px_up s 145 10 t0) 145 5 q4) 145 6 (f_World_all (px_up (px_up s 145 10 t0) 145 5 q4) )) 145 11 536870912) 145 12 536870912) 145 8 q6) 145 9 q8) ).bind (fun q11 => (f_Arrays_fill_3 q11 536870912).bind (fun q12 => (f_Arrays_fill3 q12 (px_wr ((q12 145 6) * 8)) (px_wr ((px_wr ((q12 145 6) * 8)) + 8)) 0).bind (fun q13 => l_Least_solve_87 (fun s => if 0 ≤ (px_wr ((s 145 5) * 8)) ∧ (px_wr ((s 145 5) * 8)) < 2048 then some (px_up s 145 11 (s 146 (px_wr ((s 145 5) * 8)).toNat)) else none) px_big q13 q10 (q13 6 4))))) else none) else none) else some (px_up (px_up (px_up (px_up (px_up s 145 10 t0) 145 5 q4) 145 6 (f_World_all (px_up (px_up s 145 10 t0) 145 5 q4) )) 145 11 536870912) 145 12 536870912))
set_option maxHeartbeats 4000000 in
set_option maxRecDepth 100000 in
theorem cj_Least_solve_j9 {sc : List Int} {d : Nat} {s : px_Z} {t0 : Int} {out : px_Z} (h : j_Least_solve_j9 s t0 = some out) : px_D sc (d + 5) 25 9 [(0, .inr (.inr 145))] [.inl (t0)] (px_G1, s) (px_Qv out) := by
  unfold j_Least_solve_j9 at h
  refine px_D_st 4 (ip1 := 13) (ls1 := [(2, .inl (t0)), (0, .inr (.inr 145))]) (st1 := [.inl (t0), .inl (s 145 10)]) (h1 := (px_G1, s)) rfl ?_
  refine px_D_icmp rfl (fun hc => ?_) (fun hc => ?_)
  · have hc3 : ¬ ((s 145 10) = (t0)) := of_decide_eq_true hc
    rw [if_neg hc3] at h
    refine px_D_st 6 (ip1 := 21) (ls1 := [(2, .inl (t0)), (0, .inr (.inr 145))]) (st1 := [.inr (.inr 6), .inr (.inr 145)]) (h1 := (px_G1, px_up s 145 10 t0)) rfl ?_
    refine px_D_call (as := [.inr (.inr 6)]) (rest := [.inr (.inr 145)]) rfl rfl rfl rfl ?_
    obtain ⟨q4, hq4, h⟩ := Option.bind_eq_some_iff.mp h
    refine px_D_mono (c_World_homeSet (d := d + 4) hq4) ?_
    rintro _ _ ⟨rfl, rfl⟩
    show px_D sc (d + 5) 25 22 [(2, .inl (t0)), (0, .inr (.inr 145))] [.inl (q4), .inr (.inr 145)] (px_G1, px_up s 145 10 t0) _
    refine px_D_st 4 (ip1 := 26) (ls1 := [(2, .inl (t0)), (0, .inr (.inr 145))]) (st1 := [.inr (.inr 6), .inr (.inr 145)]) (h1 := (px_G1, px_up (px_up s 145 10 t0) 145 5 q4)) rfl ?_
    refine px_D_call (as := [.inr (.inr 6)]) (rest := [.inr (.inr 145)]) rfl rfl rfl rfl ?_
    refine px_D_mono (c_World_all (d := d + 4) rfl) ?_
    rintro _ _ ⟨rfl, rfl⟩
    show px_D sc (d + 5) 25 27 [(2, .inl (t0)), (0, .inr (.inr 145))] [.inl (f_World_all (px_up (px_up s 145 10 t0) 145 5 q4) ), .inr (.inr 145)] (px_G1, px_up (px_up s 145 10 t0) 145 5 q4) _
    refine px_D_st 14 (ip1 := 41) (ls1 := [(2, .inl (t0)), (0, .inr (.inr 145))]) (st1 := [.inl ((px_up (px_up (px_up (px_up (px_up s 145 10 t0) 145 5 q4) 145 6 (f_World_all (px_up (px_up s 145 10 t0) 145 5 q4) )) 145 11 536870912) 145 12 536870912) 6 4), .inl ((px_up (px_up (px_up (px_up (px_up s 145 10 t0) 145 5 q4) 145 6 (f_World_all (px_up (px_up s 145 10 t0) 145 5 q4) )) 145 11 536870912) 145 12 536870912) 7 4)]) (h1 := (px_G1, px_up (px_up (px_up (px_up (px_up s 145 10 t0) 145 5 q4) 145 6 (f_World_all (px_up (px_up s 145 10 t0) 145 5 q4) )) 145 11 536870912) 145 12 536870912)) rfl ?_
    refine px_D_icmp rfl (fun hc => ?_) (fun hc => ?_)
    · have hc5 : ((px_up (px_up (px_up (px_up (px_up s 145 10 t0) 145 5 q4) 145 6 (f_World_all (px_up (px_up s 145 10 t0) 145 5 q4) )) 145 11 536870912) 145 12 536870912) 7 4) ≤ ((px_up (px_up (px_up (px_up (px_up s 145 10 t0) 145 5 q4) 145 6 (f_World_all (px_up (px_up s 145 10 t0) 145 5 q4) )) 145 11 536870912) 145 12 536870912) 6 4) := of_decide_eq_true hc
      rw [if_pos hc5] at h
      refine px_D_st 5 (ip1 := 48) (ls1 := [(2, .inl (t0)), (0, .inr (.inr 145))]) (st1 := [.inl (263), .inr (.inr 14), .inr (.inr 145)]) (h1 := (px_G1, px_up (px_up (px_up (px_up (px_up s 145 10 t0) 145 5 q4) 145 6 (f_World_all (px_up (px_up s 145 10 t0) 145 5 q4) )) 145 11 536870912) 145 12 536870912)) rfl ?_
      refine px_D_call (as := [.inr (.inr 14), .inl (263)]) (rest := [.inr (.inr 145)]) rfl rfl rfl rfl ?_
      obtain ⟨q6, hq6, h⟩ := Option.bind_eq_some_iff.mp h
      refine px_D_mono (c_Law_asksFor (d := d + 4) hq6) ?_
      rintro _ _ ⟨rfl, rfl⟩
      show px_D sc (d + 5) 25 49 [(2, .inl (t0)), (0, .inr (.inr 145))] [.inl (q6), .inr (.inr 145)] (px_G1, px_up (px_up (px_up (px_up (px_up s 145 10 t0) 145 5 q4) 145 6 (f_World_all (px_up (px_up s 145 10 t0) 145 5 q4) )) 145 11 536870912) 145 12 536870912) _
      by_cases hc7 : (q6) = 0 ∨ (q6) = 1
      case neg => rw [if_neg hc7] at h; cases h
      rw [if_pos hc7] at h
      refine px_D_putz (k := 140) rfl rfl rfl rfl hc7 ?_
      refine px_D_st 5 (ip1 := 55) (ls1 := [(2, .inl (t0)), (0, .inr (.inr 145))]) (st1 := [.inl (264), .inr (.inr 14), .inr (.inr 145)]) (h1 := (px_G1, px_up (px_up (px_up (px_up (px_up (px_up s 145 10 t0) 145 5 q4) 145 6 (f_World_all (px_up (px_up s 145 10 t0) 145 5 q4) )) 145 11 536870912) 145 12 536870912) 145 8 q6)) rfl ?_
      refine px_D_call (as := [.inr (.inr 14), .inl (264)]) (rest := [.inr (.inr 145)]) rfl rfl rfl rfl ?_
      obtain ⟨q8, hq8, h⟩ := Option.bind_eq_some_iff.mp h
      refine px_D_mono (c_Law_asksFor (d := d + 4) hq8) ?_
      rintro _ _ ⟨rfl, rfl⟩
      show px_D sc (d + 5) 25 56 [(2, .inl (t0)), (0, .inr (.inr 145))] [.inl (q8), .inr (.inr 145)] (px_G1, px_up (px_up (px_up (px_up (px_up (px_up s 145 10 t0) 145 5 q4) 145 6 (f_World_all (px_up (px_up s 145 10 t0) 145 5 q4) )) 145 11 536870912) 145 12 536870912) 145 8 q6) _
      by_cases hc9 : (q8) = 0 ∨ (q8) = 1
      case neg => rw [if_neg hc9] at h; cases h
      rw [if_pos hc9] at h
      refine px_D_putz (k := 140) rfl rfl rfl rfl hc9 ?_
      refine px_D_st 4 (ip1 := 61) (ls1 := [(2, .inl (t0)), (0, .inr (.inr 145))]) (st1 := [.inl (259), .inr (.inr 14)]) (h1 := (px_G1, px_up (px_up (px_up (px_up (px_up (px_up (px_up s 145 10 t0) 145 5 q4) 145 6 (f_World_all (px_up (px_up s 145 10 t0) 145 5 q4) )) 145 11 536870912) 145 12 536870912) 145 8 q6) 145 9 q8)) rfl ?_
      refine px_D_call (as := [.inr (.inr 14), .inl (259)]) (rest := []) rfl rfl rfl rfl ?_
      obtain ⟨q10, hq10, h⟩ := Option.bind_eq_some_iff.mp h
      refine px_D_mono (c_Law_asksFor (d := d + 4) hq10) ?_
      rintro _ _ ⟨rfl, rfl⟩
      show px_D sc (d + 5) 25 62 [(2, .inl (t0)), (0, .inr (.inr 145))] [.inl (q10)] (px_G1, px_up (px_up (px_up (px_up (px_up (px_up (px_up s 145 10 t0) 145 5 q4) 145 6 (f_World_all (px_up (px_up s 145 10 t0) 145 5 q4) )) 145 11 536870912) 145 12 536870912) 145 8 q6) 145 9 q8) _
      refine px_D_st 2 (ip1 := 64) (ls1 := [(3, .inl (q10)), (2, .inl (t0)), (0, .inr (.inr 145))]) (st1 := [.inr (.inr 145)]) (h1 := (px_G1, px_up (px_up (px_up (px_up (px_up (px_up (px_up s 145 10 t0) 145 5 q4) 145 6 (f_World_all (px_up (px_up s 145 10 t0) 145 5 q4) )) 145 11 536870912) 145 12 536870912) 145 8 q6) 145 9 q8)) rfl ?_
      refine px_D_call (as := [.inr (.inr 145)]) (rest := []) rfl rfl rfl rfl ?_
      obtain ⟨q11, hq11, h⟩ := Option.bind_eq_some_iff.mp h
      refine px_D_mono (c_Least_findReady (d := d + 2) hq11) ?_
      rintro _ _ ⟨rfl, rfl⟩
      show px_D sc (d + 5) 25 65 [(3, .inl (q10)), (2, .inl (t0)), (0, .inr (.inr 145))] [] (px_G1, q11) _
      refine px_D_st 3 (ip1 := 68) (ls1 := [(3, .inl (q10)), (2, .inl (t0)), (0, .inr (.inr 145))]) (st1 := [.inl (536870912), .inr (.inr 146)]) (h1 := (px_G1, q11)) rfl ?_
      refine px_D_call (as := [.inr (.inr 146), .inl (536870912)]) (rest := []) rfl rfl rfl rfl ?_
      obtain ⟨q12, hq12, h⟩ := Option.bind_eq_some_iff.mp h
      refine px_D_mono (c_Arrays_fill_3 (d := d + 4) hq12) ?_
      rintro _ _ ⟨rfl, rfl⟩
      show px_D sc (d + 5) 25 69 [(3, .inl (q10)), (2, .inl (t0)), (0, .inr (.inr 145))] [] (px_G1, q12) _
      refine px_D_st 13 (ip1 := 82) (ls1 := [(3, .inl (q10)), (2, .inl (t0)), (0, .inr (.inr 145))]) (st1 := [.inl (0), .inl (px_wr ((px_wr ((q12 145 6) * 8)) + 8)), .inl (px_wr ((q12 145 6) * 8)), .inr (.inr 146)]) (h1 := (px_G1, q12)) rfl ?_
      refine px_D_call (as := [.inr (.inr 146), .inl (px_wr ((q12 145 6) * 8)), .inl (px_wr ((px_wr ((q12 145 6) * 8)) + 8)), .inl (0)]) (rest := []) rfl rfl rfl rfl ?_
      obtain ⟨q13, hq13, h⟩ := Option.bind_eq_some_iff.mp h
      refine px_D_mono (c_Arrays_fill3 (d := d + 3) hq13) ?_
      rintro _ _ ⟨rfl, rfl⟩
      show px_D sc (d + 5) 25 83 [(3, .inl (q10)), (2, .inl (t0)), (0, .inr (.inr 145))] [] (px_G1, q13) _
      refine px_D_st 4 (ip1 := 87) (ls1 := [(4, .inl (q13 6 4)), (3, .inl (q10)), (2, .inl (t0)), (0, .inr (.inr 145))]) (st1 := []) (h1 := (px_G1, q13)) rfl ?_
      refine px_D_ls [(0, .inr (.inr 145)), (3, .inl (q10)), (4, .inl (q13 6 4))] rfl rfl (List.forall_mem_cons.mpr ⟨rfl, List.forall_mem_cons.mpr ⟨rfl, List.forall_mem_cons.mpr ⟨rfl, fun _ h => absurd h List.not_mem_nil⟩⟩⟩) ?_
      refine cl_Least_solve_87 ?_ px_big _ _ _ _ h
      · intro s out h
        refine px_D_st 7 (ip1 := 125) (ls1 := [(0, .inr (.inr 145))]) (st1 := [.inl (px_wr ((s 145 5) * 8)), .inr (.inr 146), .inr (.inr 145)]) (h1 := (px_G1, s)) rfl ?_
        by_cases hc23 : 0 ≤ (px_wr ((s 145 5) * 8)) ∧ (px_wr ((s 145 5) * 8)) < 2048
        case neg => rw [if_neg hc23] at h; cases h
        rw [if_pos hc23] at h
        refine px_D_iald (k := 141) (n := 2048) rfl rfl hc23 ?_
        refine px_D_st 1 (ip1 := 127) (ls1 := [(0, .inr (.inr 145))]) (st1 := []) (h1 := (px_G1, px_up s 145 11 (s 146 (px_wr ((s 145 5) * 8)).toNat))) rfl ?_
        cases h
        exact px_D_vret rfl ⟨rfl, rfl⟩
    · have hc5 : ¬ (((px_up (px_up (px_up (px_up (px_up s 145 10 t0) 145 5 q4) 145 6 (f_World_all (px_up (px_up s 145 10 t0) 145 5 q4) )) 145 11 536870912) 145 12 536870912) 7 4) ≤ ((px_up (px_up (px_up (px_up (px_up s 145 10 t0) 145 5 q4) 145 6 (f_World_all (px_up (px_up s 145 10 t0) 145 5 q4) )) 145 11 536870912) 145 12 536870912) 6 4)) := of_decide_eq_false hc
      rw [if_neg hc5] at h
      cases h
      exact px_D_vret rfl ⟨rfl, rfl⟩
  · have hc3 : (s 145 10) = (t0) := Decidable.of_not_not (of_decide_eq_false hc)
    rw [if_pos hc3] at h
    cases h
    exact px_D_vret rfl ⟨rfl, rfl⟩
def f_Least_solve (s : px_Z) (x1 : Int) : Option (px_Z) := (f_Law_asksFor s 261).bind (fun q1 => if (q1) = (0) then j_Least_solve_j9 s (-1) else j_Least_solve_j9 s x1)
set_option maxHeartbeats 4000000 in
set_option maxRecDepth 100000 in
theorem c_Least_solve {sc : List Int} {d : Nat} {s : px_Z} {x1 : Int} {out : px_Z} (h : f_Least_solve s x1 = some out) : px_D sc (d + 5) 25 0 [(0, .inr (.inr 145)), (1, .inl (x1))] [] (px_G1, s) (px_Qv out) := by
  unfold f_Least_solve at h
  refine px_D_st 4 (ip1 := 4) (ls1 := [(0, .inr (.inr 145)), (1, .inl (x1))]) (st1 := [.inl (261), .inr (.inr 14)]) (h1 := (px_G1, s)) rfl ?_
  refine px_D_call (as := [.inr (.inr 14), .inl (261)]) (rest := []) rfl rfl rfl rfl ?_
  obtain ⟨q1, hq1, h⟩ := Option.bind_eq_some_iff.mp h
  refine px_D_mono (c_Law_asksFor (d := d + 4) hq1) ?_
  rintro _ _ ⟨rfl, rfl⟩
  show px_D sc (d + 5) 25 5 [(0, .inr (.inr 145)), (1, .inl (x1))] [.inl (q1)] (px_G1, s) _
  refine px_D_ifc rfl (fun hc => ?_) (fun hc => ?_)
  · have hc2 : (q1) = (0) := of_decide_eq_true hc
    rw [if_pos hc2] at h
    refine px_D_st 1 (ip1 := 9) (ls1 := [(0, .inr (.inr 145)), (1, .inl (x1))]) (st1 := [.inl ((-1))]) (h1 := (px_G1, s)) rfl ?_
    refine px_D_ls [(0, .inr (.inr 145))] rfl rfl (List.forall_mem_cons.mpr ⟨rfl, fun _ h => absurd h List.not_mem_nil⟩) ?_
    exact cj_Least_solve_j9 h
  · have hc2 : ¬ ((q1) = (0)) := of_decide_eq_false hc
    rw [if_neg hc2] at h
    refine px_D_st 2 (ip1 := 9) (ls1 := [(0, .inr (.inr 145)), (1, .inl (x1))]) (st1 := [.inl (x1)]) (h1 := (px_G1, s)) rfl ?_
    refine px_D_ls [(0, .inr (.inr 145))] rfl rfl (List.forall_mem_cons.mpr ⟨rfl, fun _ h => absurd h List.not_mem_nil⟩) ?_
    exact cj_Least_solve_j9 h

def f_Least_costOfWaiting (s : px_Z) : Int := if (536870912) ≤ (s 145 12) then (-1) else px_wr ((s 145 12) - (s 145 11))
set_option maxHeartbeats 4000000 in
set_option maxRecDepth 100000 in
theorem c_Least_costOfWaiting {sc : List Int} {d : Nat} {s : px_Z} {out : Int} (h : f_Least_costOfWaiting s  = out) : px_D sc (d + 0) 23 0 [(0, .inr (.inr 145))] [] (px_G1, s) (px_Qp s out) := by
  unfold f_Least_costOfWaiting at h
  refine px_D_st 3 (ip1 := 3) (ls1 := [(0, .inr (.inr 145))]) (st1 := [.inl (536870912), .inl (s 145 12)]) (h1 := (px_G1, s)) rfl ?_
  refine px_D_icmp rfl (fun hc => ?_) (fun hc => ?_)
  · have hc1 : (536870912) ≤ (s 145 12) := of_decide_eq_true hc
    rw [if_pos hc1] at h
    refine px_D_st 1 (ip1 := 11) (ls1 := [(0, .inr (.inr 145))]) (st1 := [.inl ((-1))]) (h1 := (px_G1, s)) rfl ?_
    subst h
    exact px_D_iret rfl rfl ⟨rfl, rfl⟩
  · have hc1 : ¬ ((536870912) ≤ (s 145 12)) := of_decide_eq_false hc
    rw [if_neg hc1] at h
    refine px_D_st 6 (ip1 := 11) (ls1 := [(0, .inr (.inr 145))]) (st1 := [.inl (px_wr ((s 145 12) - (s 145 11)))]) (h1 := (px_G1, s)) rfl ?_
    subst h
    exact px_D_iret rfl rfl ⟨rfl, rfl⟩

def f_R_least (s : px_Z) (x1 : Int) : Option (Int × px_Z) := (f_Least_solve s (-1)).bind (fun q1 => if (f_Least_canBe q1 ) = (0) then some (((-1), q1)) else (if (x1) = (0) then some (q1 145 11, q1) else (if (x1) = (1) then some (f_Least_costOfWaiting q1 , q1) else (if (x1) < (10) then some (((-1), q1)) else (if (px_wr (x1 - 10)) ≤ (px_wr ((q1 6 4) - (q1 7 4))) then (f_Least_thingOfWeek q1 (px_wr (x1 - 10))).bind (fun q7 => some (q7, q1)) else some (((-1), q1)))))))
set_option maxHeartbeats 4000000 in
set_option maxRecDepth 100000 in
theorem c_R_least {sc : List Int} {d : Nat} {s : px_Z} {x1 : Int} {out : Int × px_Z} (h : f_R_least s x1 = some out) : px_D sc (d + 6) 124 0 [(0, .inr (.inr 5)), (1, .inl (x1))] [] (px_G1, s) (px_Qi out) := by
  unfold f_R_least at h
  refine px_D_st 3 (ip1 := 3) (ls1 := [(0, .inr (.inr 5)), (1, .inl (x1))]) (st1 := [.inl ((-1)), .inr (.inr 145)]) (h1 := (px_G1, s)) rfl ?_
  refine px_D_call (as := [.inr (.inr 145), .inl ((-1))]) (rest := []) rfl rfl rfl rfl ?_
  obtain ⟨q1, hq1, h⟩ := Option.bind_eq_some_iff.mp h
  refine px_D_mono (c_Least_solve (d := d + 0) hq1) ?_
  rintro _ _ ⟨rfl, rfl⟩
  show px_D sc (d + 6) 124 4 [(0, .inr (.inr 5)), (1, .inl (x1))] [] (px_G1, q1) _
  refine px_D_st 2 (ip1 := 6) (ls1 := [(0, .inr (.inr 5)), (1, .inl (x1))]) (st1 := [.inr (.inr 145)]) (h1 := (px_G1, q1)) rfl ?_
  refine px_D_call (as := [.inr (.inr 145)]) (rest := []) rfl rfl rfl rfl ?_
  refine px_D_mono (c_Least_canBe (d := d + 5) rfl) ?_
  rintro _ _ ⟨rfl, rfl⟩
  show px_D sc (d + 6) 124 7 [(0, .inr (.inr 5)), (1, .inl (x1))] [.inl (f_Least_canBe q1 )] (px_G1, q1) _
  refine px_D_ifc rfl (fun hc => ?_) (fun hc => ?_)
  · have hc2 : ¬ ((f_Least_canBe q1 ) = (0)) := of_decide_eq_true hc
    rw [if_neg hc2] at h
    refine px_D_st 1 (ip1 := 11) (ls1 := [(0, .inr (.inr 5)), (1, .inl (x1))]) (st1 := [.inl (x1)]) (h1 := (px_G1, q1)) rfl ?_
    refine px_D_ifc rfl (fun hc => ?_) (fun hc => ?_)
    · have hc3 : ¬ ((x1) = (0)) := of_decide_eq_true hc
      rw [if_neg hc3] at h
      refine px_D_st 2 (ip1 := 18) (ls1 := [(0, .inr (.inr 5)), (1, .inl (x1))]) (st1 := [.inl (1), .inl (x1)]) (h1 := (px_G1, q1)) rfl ?_
      refine px_D_icmp rfl (fun hc => ?_) (fun hc => ?_)
      · have hc4 : ¬ ((x1) = (1)) := of_decide_eq_true hc
        rw [if_neg hc4] at h
        refine px_D_st 2 (ip1 := 25) (ls1 := [(0, .inr (.inr 5)), (1, .inl (x1))]) (st1 := [.inl (10), .inl (x1)]) (h1 := (px_G1, q1)) rfl ?_
        refine px_D_icmp rfl (fun hc => ?_) (fun hc => ?_)
        · have hc5 : (x1) < (10) := of_decide_eq_true hc
          rw [if_pos hc5] at h
          refine px_D_st 1 (ip1 := 39) (ls1 := [(0, .inr (.inr 5)), (1, .inl (x1))]) (st1 := [.inl ((-1))]) (h1 := (px_G1, q1)) rfl ?_
          cases h
          exact px_D_iret rfl rfl ⟨rfl, rfl⟩
        · have hc5 : ¬ ((x1) < (10)) := of_decide_eq_false hc
          rw [if_neg hc5] at h
          refine px_D_st 11 (ip1 := 37) (ls1 := [(0, .inr (.inr 5)), (1, .inl (x1))]) (st1 := [.inl (px_wr ((q1 6 4) - (q1 7 4))), .inl (px_wr (x1 - 10))]) (h1 := (px_G1, q1)) rfl ?_
          refine px_D_icmp rfl (fun hc => ?_) (fun hc => ?_)
          · have hc6 : (px_wr (x1 - 10)) ≤ (px_wr ((q1 6 4) - (q1 7 4))) := of_decide_eq_true hc
            rw [if_pos hc6] at h
            refine px_D_st 5 (ip1 := 45) (ls1 := [(0, .inr (.inr 5)), (1, .inl (x1))]) (st1 := [.inl (px_wr (x1 - 10)), .inr (.inr 145)]) (h1 := (px_G1, q1)) rfl ?_
            refine px_D_call (as := [.inr (.inr 145), .inl (px_wr (x1 - 10))]) (rest := []) rfl rfl rfl rfl ?_
            obtain ⟨q7, hq7, h⟩ := Option.bind_eq_some_iff.mp h
            refine px_D_mono (c_Least_thingOfWeek (d := d + 5) hq7) ?_
            rintro _ _ ⟨rfl, rfl⟩
            show px_D sc (d + 6) 124 46 [(0, .inr (.inr 5)), (1, .inl (x1))] [.inl (q7)] (px_G1, q1) _
            cases h
            exact px_D_iret rfl rfl ⟨rfl, rfl⟩
          · have hc6 : ¬ ((px_wr (x1 - 10)) ≤ (px_wr ((q1 6 4) - (q1 7 4)))) := of_decide_eq_false hc
            rw [if_neg hc6] at h
            refine px_D_st 1 (ip1 := 39) (ls1 := [(0, .inr (.inr 5)), (1, .inl (x1))]) (st1 := [.inl ((-1))]) (h1 := (px_G1, q1)) rfl ?_
            cases h
            exact px_D_iret rfl rfl ⟨rfl, rfl⟩
      · have hc4 : (x1) = (1) := Decidable.of_not_not (of_decide_eq_false hc)
        rw [if_pos hc4] at h
        refine px_D_st 2 (ip1 := 21) (ls1 := [(0, .inr (.inr 5)), (1, .inl (x1))]) (st1 := [.inr (.inr 145)]) (h1 := (px_G1, q1)) rfl ?_
        refine px_D_call (as := [.inr (.inr 145)]) (rest := []) rfl rfl rfl rfl ?_
        refine px_D_mono (c_Least_costOfWaiting (d := d + 5) rfl) ?_
        rintro _ _ ⟨rfl, rfl⟩
        show px_D sc (d + 6) 124 22 [(0, .inr (.inr 5)), (1, .inl (x1))] [.inl (f_Least_costOfWaiting q1 )] (px_G1, q1) _
        cases h
        exact px_D_iret rfl rfl ⟨rfl, rfl⟩
    · have hc3 : (x1) = (0) := Decidable.of_not_not (of_decide_eq_false hc)
      rw [if_pos hc3] at h
      refine px_D_st 3 (ip1 := 15) (ls1 := [(0, .inr (.inr 5)), (1, .inl (x1))]) (st1 := [.inl (q1 145 11)]) (h1 := (px_G1, q1)) rfl ?_
      cases h
      exact px_D_iret rfl rfl ⟨rfl, rfl⟩
  · have hc2 : (f_Least_canBe q1 ) = (0) := Decidable.of_not_not (of_decide_eq_false hc)
    rw [if_pos hc2] at h
    refine px_D_st 1 (ip1 := 9) (ls1 := [(0, .inr (.inr 5)), (1, .inl (x1))]) (st1 := [.inl ((-1))]) (h1 := (px_G1, q1)) rfl ?_
    cases h
    exact px_D_iret rfl rfl ⟨rfl, rfl⟩

def l_Orders_count_19 (k49 : px_Z → Int → Int → Option (Int × px_Z)) : Nat → px_Z → Int → Int → Int → Option (Int × px_Z)
  | 0, _, _, _, _ => none
  | n + 1, s, x2, x3, x4 => if (s 6 1) ≤ (x4) then k49 s x2 x3 else (if (px_and ((px_shr (x2) (x4))) (1)) = (0) then (f_World_isReady s x4 x2).bind (fun q5 => if (q5) = (0) then l_Orders_count_19 k49 n s x2 x3 (px_wr (x4 + 1)) else (if 0 ≤ (px_or (x2) ((px_shl (1) (x4)))) ∧ (px_or (x2) ((px_shl (1) (x4)))) < 256 then l_Orders_count_19 k49 n s x2 (px_wr (x3 + (s 144 (px_or (x2) ((px_shl (1) (x4)))).toNat))) (px_wr (x4 + 1)) else none)) else l_Orders_count_19 k49 n s x2 x3 (px_wr (x4 + 1)))
set_option maxHeartbeats 4000000 in
set_option maxRecDepth 100000 in
theorem cl_Orders_count_19 {sc : List Int} {d : Nat} {k49 : px_Z → Int → Int → Option (Int × px_Z)}  (hk49 : ∀ (s : px_Z) (y2 : Int) (y3 : Int) (out : Int × px_Z), k49 s y2 y3 = some out → px_D sc (d + 2) 35 49 [(0, .inr (.inr 143)), (2, .inl (y2)), (3, .inl (y3))] [] (px_G1, s) (px_Qi out)) : ∀ (n : Nat) (s : px_Z) (x2 : Int) (x3 : Int) (x4 : Int) (out : Int × px_Z), l_Orders_count_19 k49 n s x2 x3 x4 = some out → px_D sc (d + 2) 35 19 [(0, .inr (.inr 143)), (2, .inl (x2)), (3, .inl (x3)), (4, .inl (x4))] [] (px_G1, s) (px_Qi out) := by
  intro n
  induction n with
  | zero => intro s x2 x3 x4 out h; cases h
  | succ n ih =>
    intro s x2 x3 x4 out h
    rw [l_Orders_count_19] at h
    refine px_D_st 4 (ip1 := 23) (ls1 := [(0, .inr (.inr 143)), (2, .inl (x2)), (3, .inl (x3)), (4, .inl (x4))]) (st1 := [.inl (s 6 1), .inl (x4)]) (h1 := (px_G1, s)) rfl ?_
    refine px_D_icmp rfl (fun hc => ?_) (fun hc => ?_)
    · have hc3 : (s 6 1) ≤ (x4) := of_decide_eq_true hc
      rw [if_pos hc3] at h
      refine px_D_ls [(0, .inr (.inr 143)), (2, .inl (x2)), (3, .inl (x3))] rfl rfl (List.forall_mem_cons.mpr ⟨rfl, List.forall_mem_cons.mpr ⟨rfl, List.forall_mem_cons.mpr ⟨rfl, fun _ h => absurd h List.not_mem_nil⟩⟩⟩) ?_
      exact hk49 _ _ _ _ h
    · have hc3 : ¬ ((s 6 1) ≤ (x4)) := of_decide_eq_false hc
      rw [if_neg hc3] at h
      refine px_D_st 5 (ip1 := 29) (ls1 := [(0, .inr (.inr 143)), (2, .inl (x2)), (3, .inl (x3)), (4, .inl (x4))]) (st1 := [.inl (px_and ((px_shr (x2) (x4))) (1))]) (h1 := (px_G1, s)) rfl ?_
      refine px_D_ifc rfl (fun hc => ?_) (fun hc => ?_)
      · have hc4 : ¬ ((px_and ((px_shr (x2) (x4))) (1)) = (0)) := of_decide_eq_true hc
        rw [if_neg hc4] at h
        refine px_D_st 2 (ip1 := 19) (ls1 := [(4, .inl (px_wr (x4 + 1))), (0, .inr (.inr 143)), (2, .inl (x2)), (3, .inl (x3))]) (st1 := []) (h1 := (px_G1, s)) rfl ?_
        refine px_D_ls [(0, .inr (.inr 143)), (2, .inl (x2)), (3, .inl (x3)), (4, .inl (px_wr (x4 + 1)))] rfl rfl (List.forall_mem_cons.mpr ⟨rfl, List.forall_mem_cons.mpr ⟨rfl, List.forall_mem_cons.mpr ⟨rfl, List.forall_mem_cons.mpr ⟨rfl, fun _ h => absurd h List.not_mem_nil⟩⟩⟩⟩) ?_
        exact ih _ _ _ _ _ h
      · have hc4 : (px_and ((px_shr (x2) (x4))) (1)) = (0) := Decidable.of_not_not (of_decide_eq_false hc)
        rw [if_pos hc4] at h
        refine px_D_st 4 (ip1 := 34) (ls1 := [(0, .inr (.inr 143)), (2, .inl (x2)), (3, .inl (x3)), (4, .inl (x4))]) (st1 := [.inl (x2), .inl (x4), .inr (.inr 6)]) (h1 := (px_G1, s)) rfl ?_
        refine px_D_call (as := [.inr (.inr 6), .inl (x4), .inl (x2)]) (rest := []) rfl rfl rfl rfl ?_
        obtain ⟨q5, hq5, h⟩ := Option.bind_eq_some_iff.mp h
        refine px_D_mono (c_World_isReady (d := d + 0) hq5) ?_
        rintro _ _ ⟨rfl, rfl⟩
        show px_D sc (d + 2) 35 35 [(0, .inr (.inr 143)), (2, .inl (x2)), (3, .inl (x3)), (4, .inl (x4))] [.inl (q5)] (px_G1, s) _
        refine px_D_ifc rfl (fun hc => ?_) (fun hc => ?_)
        · have hc6 : (q5) = (0) := of_decide_eq_true hc
          rw [if_pos hc6] at h
          refine px_D_st 2 (ip1 := 19) (ls1 := [(4, .inl (px_wr (x4 + 1))), (0, .inr (.inr 143)), (2, .inl (x2)), (3, .inl (x3))]) (st1 := []) (h1 := (px_G1, s)) rfl ?_
          refine px_D_ls [(0, .inr (.inr 143)), (2, .inl (x2)), (3, .inl (x3)), (4, .inl (px_wr (x4 + 1)))] rfl rfl (List.forall_mem_cons.mpr ⟨rfl, List.forall_mem_cons.mpr ⟨rfl, List.forall_mem_cons.mpr ⟨rfl, List.forall_mem_cons.mpr ⟨rfl, fun _ h => absurd h List.not_mem_nil⟩⟩⟩⟩) ?_
          exact ih _ _ _ _ _ h
        · have hc6 : ¬ ((q5) = (0)) := of_decide_eq_false hc
          rw [if_neg hc6] at h
          refine px_D_st 8 (ip1 := 44) (ls1 := [(0, .inr (.inr 143)), (2, .inl (x2)), (3, .inl (x3)), (4, .inl (x4))]) (st1 := [.inl (px_or (x2) ((px_shl (1) (x4)))), .inr (.inr 144), .inl (x3)]) (h1 := (px_G1, s)) rfl ?_
          by_cases hc7 : 0 ≤ (px_or (x2) ((px_shl (1) (x4)))) ∧ (px_or (x2) ((px_shl (1) (x4)))) < 256
          case neg => rw [if_neg hc7] at h; cases h
          rw [if_pos hc7] at h
          refine px_D_iald (k := 139) (n := 256) rfl rfl hc7 ?_
          refine px_D_st 4 (ip1 := 19) (ls1 := [(4, .inl (px_wr (x4 + 1))), (3, .inl (px_wr (x3 + (s 144 (px_or (x2) ((px_shl (1) (x4)))).toNat)))), (0, .inr (.inr 143)), (2, .inl (x2))]) (st1 := []) (h1 := (px_G1, s)) rfl ?_
          refine px_D_ls [(0, .inr (.inr 143)), (2, .inl (x2)), (3, .inl (px_wr (x3 + (s 144 (px_or (x2) ((px_shl (1) (x4)))).toNat)))), (4, .inl (px_wr (x4 + 1)))] rfl rfl (List.forall_mem_cons.mpr ⟨rfl, List.forall_mem_cons.mpr ⟨rfl, List.forall_mem_cons.mpr ⟨rfl, List.forall_mem_cons.mpr ⟨rfl, fun _ h => absurd h List.not_mem_nil⟩⟩⟩⟩) ?_
          exact ih _ _ _ _ _ h
def l_Orders_count_13 (k56 : px_Z → Option (Int × px_Z)) : Nat → px_Z → Int → Option (Int × px_Z)
  | 0, _, _ => none
  | n + 1, s, x2 => if (x2) < (0) then k56 s  else l_Orders_count_19 (fun s x2 x3 => if 0 ≤ (x2) ∧ (x2) < 256 then l_Orders_count_13 k56 n (px_up s 144 x2.toNat x3) (px_wr (x2 + (-1))) else none) px_big s x2 0 0
set_option maxHeartbeats 4000000 in
set_option maxRecDepth 100000 in
theorem cl_Orders_count_13 {sc : List Int} {d : Nat} {k56 : px_Z → Option (Int × px_Z)}  (hk56 : ∀ (s : px_Z) (out : Int × px_Z), k56 s  = some out → px_D sc (d + 2) 35 56 [(0, .inr (.inr 143))] [] (px_G1, s) (px_Qi out)) : ∀ (n : Nat) (s : px_Z) (x2 : Int) (out : Int × px_Z), l_Orders_count_13 k56 n s x2 = some out → px_D sc (d + 2) 35 13 [(0, .inr (.inr 143)), (2, .inl (x2))] [] (px_G1, s) (px_Qi out) := by
  intro n
  induction n with
  | zero => intro s x2 out h; cases h
  | succ n ih =>
    intro s x2 out h
    rw [l_Orders_count_13] at h
    refine px_D_st 1 (ip1 := 14) (ls1 := [(0, .inr (.inr 143)), (2, .inl (x2))]) (st1 := [.inl (x2)]) (h1 := (px_G1, s)) rfl ?_
    refine px_D_ifc rfl (fun hc => ?_) (fun hc => ?_)
    · have hc2 : (x2) < (0) := of_decide_eq_true hc
      rw [if_pos hc2] at h
      refine px_D_ls [(0, .inr (.inr 143))] rfl rfl (List.forall_mem_cons.mpr ⟨rfl, fun _ h => absurd h List.not_mem_nil⟩) ?_
      exact hk56 _ _ h
    · have hc2 : ¬ ((x2) < (0)) := of_decide_eq_false hc
      rw [if_neg hc2] at h
      refine px_D_st 4 (ip1 := 19) (ls1 := [(4, .inl (0)), (3, .inl (0)), (0, .inr (.inr 143)), (2, .inl (x2))]) (st1 := []) (h1 := (px_G1, s)) rfl ?_
      refine px_D_ls [(0, .inr (.inr 143)), (2, .inl (x2)), (3, .inl (0)), (4, .inl (0))] rfl rfl (List.forall_mem_cons.mpr ⟨rfl, List.forall_mem_cons.mpr ⟨rfl, List.forall_mem_cons.mpr ⟨rfl, List.forall_mem_cons.mpr ⟨rfl, fun _ h => absurd h List.not_mem_nil⟩⟩⟩⟩) ?_
      refine cl_Orders_count_19 ?_ px_big _ _ _ _ _ h
      · intro s x2 x3 out h
        refine px_D_st 4 (ip1 := 53) (ls1 := [(0, .inr (.inr 143)), (2, .inl (x2)), (3, .inl (x3))]) (st1 := [.inl (x3), .inl (x2), .inr (.inr 144)]) (h1 := (px_G1, s)) rfl ?_
        by_cases hc8 : 0 ≤ (x2) ∧ (x2) < 256
        case neg => rw [if_neg hc8] at h; cases h
        rw [if_pos hc8] at h
        refine px_D_iast (k := 139) (n := 256) rfl rfl hc8 ?_
        refine px_D_st 2 (ip1 := 13) (ls1 := [(2, .inl (px_wr (x2 + (-1)))), (0, .inr (.inr 143)), (3, .inl (x3))]) (st1 := []) (h1 := (px_G1, px_up s 144 x2.toNat x3)) rfl ?_
        refine px_D_ls [(0, .inr (.inr 143)), (2, .inl (px_wr (x2 + (-1))))] rfl rfl (List.forall_mem_cons.mpr ⟨rfl, List.forall_mem_cons.mpr ⟨rfl, fun _ h => absurd h List.not_mem_nil⟩⟩) ?_
        exact ih _ _ _ h
def f_Orders_count (s : px_Z) : Option (Int × px_Z) := if 0 ≤ (f_World_all s ) ∧ (f_World_all s ) < 256 then l_Orders_count_13 (fun s => (f_World_homeSet s ).bind (fun q9 => if 0 ≤ (q9) ∧ (q9) < 256 then some (s 144 q9.toNat, s) else none)) px_big (px_up s 144 (f_World_all s ).toNat 1) (px_wr ((f_World_all s ) - 1)) else none
set_option maxHeartbeats 4000000 in
set_option maxRecDepth 100000 in
theorem c_Orders_count {sc : List Int} {d : Nat} {s : px_Z} {out : Int × px_Z} (h : f_Orders_count s  = some out) : px_D sc (d + 2) 35 0 [(0, .inr (.inr 143))] [] (px_G1, s) (px_Qi out) := by
  unfold f_Orders_count at h
  refine px_D_st 2 (ip1 := 2) (ls1 := [(0, .inr (.inr 143))]) (st1 := [.inr (.inr 6)]) (h1 := (px_G1, s)) rfl ?_
  refine px_D_call (as := [.inr (.inr 6)]) (rest := []) rfl rfl rfl rfl ?_
  refine px_D_mono (c_World_all (d := d + 1) rfl) ?_
  rintro _ _ ⟨rfl, rfl⟩
  show px_D sc (d + 2) 35 3 [(0, .inr (.inr 143))] [.inl (f_World_all s )] (px_G1, s) _
  refine px_D_st 5 (ip1 := 8) (ls1 := [(1, .inl (f_World_all s )), (0, .inr (.inr 143))]) (st1 := [.inl (1), .inl (f_World_all s ), .inr (.inr 144)]) (h1 := (px_G1, s)) rfl ?_
  by_cases hc1 : 0 ≤ (f_World_all s ) ∧ (f_World_all s ) < 256
  case neg => rw [if_neg hc1] at h; cases h
  rw [if_pos hc1] at h
  refine px_D_iast (k := 139) (n := 256) rfl rfl hc1 ?_
  refine px_D_st 4 (ip1 := 13) (ls1 := [(2, .inl (px_wr ((f_World_all s ) - 1))), (1, .inl (f_World_all s )), (0, .inr (.inr 143))]) (st1 := []) (h1 := (px_G1, px_up s 144 (f_World_all s ).toNat 1)) rfl ?_
  refine px_D_ls [(0, .inr (.inr 143)), (2, .inl (px_wr ((f_World_all s ) - 1)))] rfl rfl (List.forall_mem_cons.mpr ⟨rfl, List.forall_mem_cons.mpr ⟨rfl, fun _ h => absurd h List.not_mem_nil⟩⟩) ?_
  refine cl_Orders_count_13 ?_ px_big _ _ _ h
  · intro s out h
    refine px_D_st 4 (ip1 := 60) (ls1 := [(0, .inr (.inr 143))]) (st1 := [.inr (.inr 6), .inr (.inr 144)]) (h1 := (px_G1, s)) rfl ?_
    refine px_D_call (as := [.inr (.inr 6)]) (rest := [.inr (.inr 144)]) rfl rfl rfl rfl ?_
    obtain ⟨q9, hq9, h⟩ := Option.bind_eq_some_iff.mp h
    refine px_D_mono (c_World_homeSet (d := d + 1) hq9) ?_
    rintro _ _ ⟨rfl, rfl⟩
    show px_D sc (d + 2) 35 61 [(0, .inr (.inr 143))] [.inl (q9), .inr (.inr 144)] (px_G1, s) _
    by_cases hc10 : 0 ≤ (q9) ∧ (q9) < 256
    case neg => rw [if_neg hc10] at h; cases h
    rw [if_pos hc10] at h
    refine px_D_iald (k := 139) (n := 256) rfl rfl hc10 ?_
    cases h
    exact px_D_iret rfl rfl ⟨rfl, rfl⟩

def l_Orders_thingAt_18 (s : px_Z) (k51 : Int → Int → Int → Int → Option (Int)) : Nat → Int → Int → Int → Int → Int → Option (Int)
  | 0, _, _, _, _, _ => none
  | n + 1, x1, x2, x3, x4, x5 => if (s 6 1) ≤ (x5) then k51 x1 x2 x3 x4 else (if (x3) = ((-1)) then (if (px_and ((px_shr (x2) (x5))) (1)) = (0) then (f_World_isReady s x5 x2).bind (fun q7 => if (q7) = (0) then l_Orders_thingAt_18 s k51 n x1 x2 x3 x4 (px_wr (x5 + 1)) else (if 0 ≤ (px_or (x2) ((px_shl (1) (x5)))) ∧ (px_or (x2) ((px_shl (1) (x5)))) < 256 then if (s 144 (px_or (x2) ((px_shl (1) (x5)))).toNat) ≤ (0) then l_Orders_thingAt_18 s k51 n x1 x2 x3 x4 (px_wr (x5 + 1)) else l_Orders_thingAt_18 s k51 n x1 x2 x5 x4 (px_wr (x5 + 1)) else none)) else l_Orders_thingAt_18 s k51 n x1 x2 x3 x4 (px_wr (x5 + 1))) else k51 x1 x2 x3 x4)
set_option maxHeartbeats 4000000 in
set_option maxRecDepth 100000 in
theorem cl_Orders_thingAt_18 {sc : List Int} {d : Nat} {s : px_Z} {k51 : Int → Int → Int → Int → Option (Int)}  (hk51 : ∀ (y1 : Int) (y2 : Int) (y3 : Int) (y4 : Int) (out : Int), k51 y1 y2 y3 y4 = some out → px_D sc (d + 2) 36 51 [(0, .inr (.inr 143)), (1, .inl (y1)), (2, .inl (y2)), (3, .inl (y3)), (4, .inl (y4))] [] (px_G1, s) (px_Qp s out)) : ∀ (n : Nat) (x1 : Int) (x2 : Int) (x3 : Int) (x4 : Int) (x5 : Int) (out : Int), l_Orders_thingAt_18 s k51 n x1 x2 x3 x4 x5 = some out → px_D sc (d + 2) 36 18 [(0, .inr (.inr 143)), (1, .inl (x1)), (2, .inl (x2)), (3, .inl (x3)), (4, .inl (x4)), (5, .inl (x5))] [] (px_G1, s) (px_Qp s out) := by
  intro n
  induction n with
  | zero => intro x1 x2 x3 x4 x5 out h; cases h
  | succ n ih =>
    intro x1 x2 x3 x4 x5 out h
    rw [l_Orders_thingAt_18] at h
    refine px_D_st 4 (ip1 := 22) (ls1 := [(0, .inr (.inr 143)), (1, .inl (x1)), (2, .inl (x2)), (3, .inl (x3)), (4, .inl (x4)), (5, .inl (x5))]) (st1 := [.inl (s 6 1), .inl (x5)]) (h1 := (px_G1, s)) rfl ?_
    refine px_D_icmp rfl (fun hc => ?_) (fun hc => ?_)
    · have hc4 : (s 6 1) ≤ (x5) := of_decide_eq_true hc
      rw [if_pos hc4] at h
      refine px_D_ls [(0, .inr (.inr 143)), (1, .inl (x1)), (2, .inl (x2)), (3, .inl (x3)), (4, .inl (x4))] rfl rfl (List.forall_mem_cons.mpr ⟨rfl, List.forall_mem_cons.mpr ⟨rfl, List.forall_mem_cons.mpr ⟨rfl, List.forall_mem_cons.mpr ⟨rfl, List.forall_mem_cons.mpr ⟨rfl, fun _ h => absurd h List.not_mem_nil⟩⟩⟩⟩⟩) ?_
      exact hk51 _ _ _ _ _ h
    · have hc4 : ¬ ((s 6 1) ≤ (x5)) := of_decide_eq_false hc
      rw [if_neg hc4] at h
      refine px_D_st 2 (ip1 := 25) (ls1 := [(0, .inr (.inr 143)), (1, .inl (x1)), (2, .inl (x2)), (3, .inl (x3)), (4, .inl (x4)), (5, .inl (x5))]) (st1 := [.inl ((-1)), .inl (x3)]) (h1 := (px_G1, s)) rfl ?_
      refine px_D_icmp rfl (fun hc => ?_) (fun hc => ?_)
      · have hc5 : ¬ ((x3) = ((-1))) := of_decide_eq_true hc
        rw [if_neg hc5] at h
        refine px_D_ls [(0, .inr (.inr 143)), (1, .inl (x1)), (2, .inl (x2)), (3, .inl (x3)), (4, .inl (x4))] rfl rfl (List.forall_mem_cons.mpr ⟨rfl, List.forall_mem_cons.mpr ⟨rfl, List.forall_mem_cons.mpr ⟨rfl, List.forall_mem_cons.mpr ⟨rfl, List.forall_mem_cons.mpr ⟨rfl, fun _ h => absurd h List.not_mem_nil⟩⟩⟩⟩⟩) ?_
        exact hk51 _ _ _ _ _ h
      · have hc5 : (x3) = ((-1)) := Decidable.of_not_not (of_decide_eq_false hc)
        rw [if_pos hc5] at h
        refine px_D_st 5 (ip1 := 31) (ls1 := [(0, .inr (.inr 143)), (1, .inl (x1)), (2, .inl (x2)), (3, .inl (x3)), (4, .inl (x4)), (5, .inl (x5))]) (st1 := [.inl (px_and ((px_shr (x2) (x5))) (1))]) (h1 := (px_G1, s)) rfl ?_
        refine px_D_ifc rfl (fun hc => ?_) (fun hc => ?_)
        · have hc6 : ¬ ((px_and ((px_shr (x2) (x5))) (1)) = (0)) := of_decide_eq_true hc
          rw [if_neg hc6] at h
          refine px_D_st 2 (ip1 := 18) (ls1 := [(5, .inl (px_wr (x5 + 1))), (0, .inr (.inr 143)), (1, .inl (x1)), (2, .inl (x2)), (3, .inl (x3)), (4, .inl (x4))]) (st1 := []) (h1 := (px_G1, s)) rfl ?_
          refine px_D_ls [(0, .inr (.inr 143)), (1, .inl (x1)), (2, .inl (x2)), (3, .inl (x3)), (4, .inl (x4)), (5, .inl (px_wr (x5 + 1)))] rfl rfl (List.forall_mem_cons.mpr ⟨rfl, List.forall_mem_cons.mpr ⟨rfl, List.forall_mem_cons.mpr ⟨rfl, List.forall_mem_cons.mpr ⟨rfl, List.forall_mem_cons.mpr ⟨rfl, List.forall_mem_cons.mpr ⟨rfl, fun _ h => absurd h List.not_mem_nil⟩⟩⟩⟩⟩⟩) ?_
          exact ih _ _ _ _ _ _ h
        · have hc6 : (px_and ((px_shr (x2) (x5))) (1)) = (0) := Decidable.of_not_not (of_decide_eq_false hc)
          rw [if_pos hc6] at h
          refine px_D_st 4 (ip1 := 36) (ls1 := [(0, .inr (.inr 143)), (1, .inl (x1)), (2, .inl (x2)), (3, .inl (x3)), (4, .inl (x4)), (5, .inl (x5))]) (st1 := [.inl (x2), .inl (x5), .inr (.inr 6)]) (h1 := (px_G1, s)) rfl ?_
          refine px_D_call (as := [.inr (.inr 6), .inl (x5), .inl (x2)]) (rest := []) rfl rfl rfl rfl ?_
          obtain ⟨q7, hq7, h⟩ := Option.bind_eq_some_iff.mp h
          refine px_D_mono (c_World_isReady (d := d + 0) hq7) ?_
          rintro _ _ ⟨rfl, rfl⟩
          show px_D sc (d + 2) 36 37 [(0, .inr (.inr 143)), (1, .inl (x1)), (2, .inl (x2)), (3, .inl (x3)), (4, .inl (x4)), (5, .inl (x5))] [.inl (q7)] (px_G1, s) _
          refine px_D_ifc rfl (fun hc => ?_) (fun hc => ?_)
          · have hc8 : (q7) = (0) := of_decide_eq_true hc
            rw [if_pos hc8] at h
            refine px_D_st 2 (ip1 := 18) (ls1 := [(5, .inl (px_wr (x5 + 1))), (0, .inr (.inr 143)), (1, .inl (x1)), (2, .inl (x2)), (3, .inl (x3)), (4, .inl (x4))]) (st1 := []) (h1 := (px_G1, s)) rfl ?_
            refine px_D_ls [(0, .inr (.inr 143)), (1, .inl (x1)), (2, .inl (x2)), (3, .inl (x3)), (4, .inl (x4)), (5, .inl (px_wr (x5 + 1)))] rfl rfl (List.forall_mem_cons.mpr ⟨rfl, List.forall_mem_cons.mpr ⟨rfl, List.forall_mem_cons.mpr ⟨rfl, List.forall_mem_cons.mpr ⟨rfl, List.forall_mem_cons.mpr ⟨rfl, List.forall_mem_cons.mpr ⟨rfl, fun _ h => absurd h List.not_mem_nil⟩⟩⟩⟩⟩⟩) ?_
            exact ih _ _ _ _ _ _ h
          · have hc8 : ¬ ((q7) = (0)) := of_decide_eq_false hc
            rw [if_neg hc8] at h
            refine px_D_st 7 (ip1 := 45) (ls1 := [(0, .inr (.inr 143)), (1, .inl (x1)), (2, .inl (x2)), (3, .inl (x3)), (4, .inl (x4)), (5, .inl (x5))]) (st1 := [.inl (px_or (x2) ((px_shl (1) (x5)))), .inr (.inr 144)]) (h1 := (px_G1, s)) rfl ?_
            by_cases hc9 : 0 ≤ (px_or (x2) ((px_shl (1) (x5)))) ∧ (px_or (x2) ((px_shl (1) (x5)))) < 256
            case neg => rw [if_neg hc9] at h; cases h
            rw [if_pos hc9] at h
            refine px_D_iald (k := 139) (n := 256) rfl rfl hc9 ?_
            refine px_D_ifc rfl (fun hc => ?_) (fun hc => ?_)
            · have hc10 : (s 144 (px_or (x2) ((px_shl (1) (x5)))).toNat) ≤ (0) := of_decide_eq_true hc
              rw [if_pos hc10] at h
              refine px_D_st 2 (ip1 := 18) (ls1 := [(5, .inl (px_wr (x5 + 1))), (0, .inr (.inr 143)), (1, .inl (x1)), (2, .inl (x2)), (3, .inl (x3)), (4, .inl (x4))]) (st1 := []) (h1 := (px_G1, s)) rfl ?_
              refine px_D_ls [(0, .inr (.inr 143)), (1, .inl (x1)), (2, .inl (x2)), (3, .inl (x3)), (4, .inl (x4)), (5, .inl (px_wr (x5 + 1)))] rfl rfl (List.forall_mem_cons.mpr ⟨rfl, List.forall_mem_cons.mpr ⟨rfl, List.forall_mem_cons.mpr ⟨rfl, List.forall_mem_cons.mpr ⟨rfl, List.forall_mem_cons.mpr ⟨rfl, List.forall_mem_cons.mpr ⟨rfl, fun _ h => absurd h List.not_mem_nil⟩⟩⟩⟩⟩⟩) ?_
              exact ih _ _ _ _ _ _ h
            · have hc10 : ¬ ((s 144 (px_or (x2) ((px_shl (1) (x5)))).toNat) ≤ (0)) := of_decide_eq_false hc
              rw [if_neg hc10] at h
              refine px_D_st 4 (ip1 := 18) (ls1 := [(5, .inl (px_wr (x5 + 1))), (3, .inl (x5)), (0, .inr (.inr 143)), (1, .inl (x1)), (2, .inl (x2)), (4, .inl (x4))]) (st1 := []) (h1 := (px_G1, s)) rfl ?_
              refine px_D_ls [(0, .inr (.inr 143)), (1, .inl (x1)), (2, .inl (x2)), (3, .inl (x5)), (4, .inl (x4)), (5, .inl (px_wr (x5 + 1)))] rfl rfl (List.forall_mem_cons.mpr ⟨rfl, List.forall_mem_cons.mpr ⟨rfl, List.forall_mem_cons.mpr ⟨rfl, List.forall_mem_cons.mpr ⟨rfl, List.forall_mem_cons.mpr ⟨rfl, List.forall_mem_cons.mpr ⟨rfl, fun _ h => absurd h List.not_mem_nil⟩⟩⟩⟩⟩⟩) ?_
              exact ih _ _ _ _ _ _ h
def l_Orders_thingAt_8 (s : px_Z)  : Nat → Int → Int → Int → Int → Option (Int)
  | 0, _, _, _, _ => none
  | n + 1, x1, x2, x3, x4 => if (x1) < (x4) then some x3 else (if (8) < (x4) then some x3 else l_Orders_thingAt_18 s (fun x1 x2 x3 x4 => if (x3) = ((-1)) then l_Orders_thingAt_8 s  n x1 x2 x3 (px_wr (x4 + 1)) else l_Orders_thingAt_8 s  n x1 (px_or (x2) ((px_shl (1) (x3)))) x3 (px_wr (x4 + 1))) px_big x1 x2 (-1) x4 0)
set_option maxHeartbeats 4000000 in
set_option maxRecDepth 100000 in
theorem cl_Orders_thingAt_8 {sc : List Int} {d : Nat} {s : px_Z}  : ∀ (n : Nat) (x1 : Int) (x2 : Int) (x3 : Int) (x4 : Int) (out : Int), l_Orders_thingAt_8 s  n x1 x2 x3 x4 = some out → px_D sc (d + 2) 36 8 [(0, .inr (.inr 143)), (1, .inl (x1)), (2, .inl (x2)), (3, .inl (x3)), (4, .inl (x4))] [] (px_G1, s) (px_Qp s out) := by
  intro n
  induction n with
  | zero => intro x1 x2 x3 x4 out h; cases h
  | succ n ih =>
    intro x1 x2 x3 x4 out h
    rw [l_Orders_thingAt_8] at h
    refine px_D_st 2 (ip1 := 10) (ls1 := [(0, .inr (.inr 143)), (1, .inl (x1)), (2, .inl (x2)), (3, .inl (x3)), (4, .inl (x4))]) (st1 := [.inl (x1), .inl (x4)]) (h1 := (px_G1, s)) rfl ?_
    refine px_D_icmp rfl (fun hc => ?_) (fun hc => ?_)
    · have hc2 : (x1) < (x4) := of_decide_eq_true hc
      rw [if_pos hc2] at h
      refine px_D_st 1 (ip1 := 63) (ls1 := [(0, .inr (.inr 143)), (1, .inl (x1)), (2, .inl (x2)), (3, .inl (x3)), (4, .inl (x4))]) (st1 := [.inl (x3)]) (h1 := (px_G1, s)) rfl ?_
      cases h
      exact px_D_iret rfl rfl ⟨rfl, rfl⟩
    · have hc2 : ¬ ((x1) < (x4)) := of_decide_eq_false hc
      rw [if_neg hc2] at h
      refine px_D_st 2 (ip1 := 13) (ls1 := [(0, .inr (.inr 143)), (1, .inl (x1)), (2, .inl (x2)), (3, .inl (x3)), (4, .inl (x4))]) (st1 := [.inl (8), .inl (x4)]) (h1 := (px_G1, s)) rfl ?_
      refine px_D_icmp rfl (fun hc => ?_) (fun hc => ?_)
      · have hc3 : (8) < (x4) := of_decide_eq_true hc
        rw [if_pos hc3] at h
        refine px_D_st 1 (ip1 := 63) (ls1 := [(0, .inr (.inr 143)), (1, .inl (x1)), (2, .inl (x2)), (3, .inl (x3)), (4, .inl (x4))]) (st1 := [.inl (x3)]) (h1 := (px_G1, s)) rfl ?_
        cases h
        exact px_D_iret rfl rfl ⟨rfl, rfl⟩
      · have hc3 : ¬ ((8) < (x4)) := of_decide_eq_false hc
        rw [if_neg hc3] at h
        refine px_D_st 4 (ip1 := 18) (ls1 := [(5, .inl (0)), (3, .inl ((-1))), (0, .inr (.inr 143)), (1, .inl (x1)), (2, .inl (x2)), (4, .inl (x4))]) (st1 := []) (h1 := (px_G1, s)) rfl ?_
        refine px_D_ls [(0, .inr (.inr 143)), (1, .inl (x1)), (2, .inl (x2)), (3, .inl ((-1))), (4, .inl (x4)), (5, .inl (0))] rfl rfl (List.forall_mem_cons.mpr ⟨rfl, List.forall_mem_cons.mpr ⟨rfl, List.forall_mem_cons.mpr ⟨rfl, List.forall_mem_cons.mpr ⟨rfl, List.forall_mem_cons.mpr ⟨rfl, List.forall_mem_cons.mpr ⟨rfl, fun _ h => absurd h List.not_mem_nil⟩⟩⟩⟩⟩⟩) ?_
        refine cl_Orders_thingAt_18 ?_ px_big _ _ _ _ _ _ h
        · intro x1 x2 x3 x4 out h
          refine px_D_st 2 (ip1 := 53) (ls1 := [(0, .inr (.inr 143)), (1, .inl (x1)), (2, .inl (x2)), (3, .inl (x3)), (4, .inl (x4))]) (st1 := [.inl ((-1)), .inl (x3)]) (h1 := (px_G1, s)) rfl ?_
          refine px_D_icmp rfl (fun hc => ?_) (fun hc => ?_)
          · have hc11 : (x3) = ((-1)) := of_decide_eq_true hc
            rw [if_pos hc11] at h
            refine px_D_st 2 (ip1 := 8) (ls1 := [(4, .inl (px_wr (x4 + 1))), (0, .inr (.inr 143)), (1, .inl (x1)), (2, .inl (x2)), (3, .inl (x3))]) (st1 := []) (h1 := (px_G1, s)) rfl ?_
            refine px_D_ls [(0, .inr (.inr 143)), (1, .inl (x1)), (2, .inl (x2)), (3, .inl (x3)), (4, .inl (px_wr (x4 + 1)))] rfl rfl (List.forall_mem_cons.mpr ⟨rfl, List.forall_mem_cons.mpr ⟨rfl, List.forall_mem_cons.mpr ⟨rfl, List.forall_mem_cons.mpr ⟨rfl, List.forall_mem_cons.mpr ⟨rfl, fun _ h => absurd h List.not_mem_nil⟩⟩⟩⟩⟩) ?_
            exact ih _ _ _ _ _ h
          · have hc11 : ¬ ((x3) = ((-1))) := of_decide_eq_false hc
            rw [if_neg hc11] at h
            refine px_D_st 8 (ip1 := 8) (ls1 := [(4, .inl (px_wr (x4 + 1))), (2, .inl (px_or (x2) ((px_shl (1) (x3))))), (0, .inr (.inr 143)), (1, .inl (x1)), (3, .inl (x3))]) (st1 := []) (h1 := (px_G1, s)) rfl ?_
            refine px_D_ls [(0, .inr (.inr 143)), (1, .inl (x1)), (2, .inl (px_or (x2) ((px_shl (1) (x3))))), (3, .inl (x3)), (4, .inl (px_wr (x4 + 1)))] rfl rfl (List.forall_mem_cons.mpr ⟨rfl, List.forall_mem_cons.mpr ⟨rfl, List.forall_mem_cons.mpr ⟨rfl, List.forall_mem_cons.mpr ⟨rfl, List.forall_mem_cons.mpr ⟨rfl, fun _ h => absurd h List.not_mem_nil⟩⟩⟩⟩⟩) ?_
            exact ih _ _ _ _ _ h
def f_Orders_thingAt (s : px_Z) (x1 : Int) : Option (Int) := (f_World_homeSet s ).bind (fun q1 => l_Orders_thingAt_8 s  px_big x1 q1 (-1) 0)
set_option maxHeartbeats 4000000 in
set_option maxRecDepth 100000 in
theorem c_Orders_thingAt {sc : List Int} {d : Nat} {s : px_Z} {x1 : Int} {out : Int} (h : f_Orders_thingAt s x1 = some out) : px_D sc (d + 2) 36 0 [(0, .inr (.inr 143)), (1, .inl (x1))] [] (px_G1, s) (px_Qp s out) := by
  unfold f_Orders_thingAt at h
  refine px_D_st 2 (ip1 := 2) (ls1 := [(0, .inr (.inr 143)), (1, .inl (x1))]) (st1 := [.inr (.inr 6)]) (h1 := (px_G1, s)) rfl ?_
  refine px_D_call (as := [.inr (.inr 6)]) (rest := []) rfl rfl rfl rfl ?_
  obtain ⟨q1, hq1, h⟩ := Option.bind_eq_some_iff.mp h
  refine px_D_mono (c_World_homeSet (d := d + 1) hq1) ?_
  rintro _ _ ⟨rfl, rfl⟩
  show px_D sc (d + 2) 36 3 [(0, .inr (.inr 143)), (1, .inl (x1))] [.inl (q1)] (px_G1, s) _
  refine px_D_st 5 (ip1 := 8) (ls1 := [(4, .inl (0)), (3, .inl ((-1))), (2, .inl (q1)), (0, .inr (.inr 143)), (1, .inl (x1))]) (st1 := []) (h1 := (px_G1, s)) rfl ?_
  refine px_D_ls [(0, .inr (.inr 143)), (1, .inl (x1)), (2, .inl (q1)), (3, .inl ((-1))), (4, .inl (0))] rfl rfl (List.forall_mem_cons.mpr ⟨rfl, List.forall_mem_cons.mpr ⟨rfl, List.forall_mem_cons.mpr ⟨rfl, List.forall_mem_cons.mpr ⟨rfl, List.forall_mem_cons.mpr ⟨rfl, fun _ h => absurd h List.not_mem_nil⟩⟩⟩⟩⟩) ?_
  refine cl_Orders_thingAt_8  px_big _ _ _ _ _ h

def f_R_orders (s : px_Z) (x1 : Int) : Option (Int × px_Z) := (f_Orders_count s ).bind (fun q1 => if (x1) = (0) then some (q1.1, q1.2) else (if (x1) < (10) then some (((-1), q1.2)) else (if (q1.1) = (0) then some (((-1), q1.2)) else (f_Orders_thingAt q1.2 (px_wr (x1 - 10))).bind (fun q5 => some (q5, q1.2)))))
set_option maxHeartbeats 4000000 in
set_option maxRecDepth 100000 in
theorem c_R_orders {sc : List Int} {d : Nat} {s : px_Z} {x1 : Int} {out : Int × px_Z} (h : f_R_orders s x1 = some out) : px_D sc (d + 3) 125 0 [(0, .inr (.inr 5)), (1, .inl (x1))] [] (px_G1, s) (px_Qi out) := by
  unfold f_R_orders at h
  refine px_D_st 2 (ip1 := 2) (ls1 := [(0, .inr (.inr 5)), (1, .inl (x1))]) (st1 := [.inr (.inr 143)]) (h1 := (px_G1, s)) rfl ?_
  refine px_D_call (as := [.inr (.inr 143)]) (rest := []) rfl rfl rfl rfl ?_
  obtain ⟨q1, hq1, h⟩ := Option.bind_eq_some_iff.mp h
  refine px_D_mono (c_Orders_count (d := d + 0) hq1) ?_
  rintro _ _ ⟨rfl, rfl⟩
  show px_D sc (d + 3) 125 3 [(0, .inr (.inr 5)), (1, .inl (x1))] [.inl (q1.1)] (px_G1, q1.2) _
  refine px_D_st 2 (ip1 := 5) (ls1 := [(2, .inl (q1.1)), (0, .inr (.inr 5)), (1, .inl (x1))]) (st1 := [.inl (x1)]) (h1 := (px_G1, q1.2)) rfl ?_
  refine px_D_ifc rfl (fun hc => ?_) (fun hc => ?_)
  · have hc2 : ¬ ((x1) = (0)) := of_decide_eq_true hc
    rw [if_neg hc2] at h
    refine px_D_st 2 (ip1 := 10) (ls1 := [(2, .inl (q1.1)), (0, .inr (.inr 5)), (1, .inl (x1))]) (st1 := [.inl (10), .inl (x1)]) (h1 := (px_G1, q1.2)) rfl ?_
    refine px_D_icmp rfl (fun hc => ?_) (fun hc => ?_)
    · have hc3 : (x1) < (10) := of_decide_eq_true hc
      rw [if_pos hc3] at h
      refine px_D_st 2 (ip1 := 21) (ls1 := [(2, .inl (q1.1)), (0, .inr (.inr 5)), (1, .inl (x1))]) (st1 := [.inl ((-1))]) (h1 := (px_G1, q1.2)) rfl ?_
      cases h
      exact px_D_iret rfl rfl ⟨rfl, rfl⟩
    · have hc3 : ¬ ((x1) < (10)) := of_decide_eq_false hc
      rw [if_neg hc3] at h
      refine px_D_st 1 (ip1 := 12) (ls1 := [(2, .inl (q1.1)), (0, .inr (.inr 5)), (1, .inl (x1))]) (st1 := [.inl (q1.1)]) (h1 := (px_G1, q1.2)) rfl ?_
      refine px_D_ifc rfl (fun hc => ?_) (fun hc => ?_)
      · have hc4 : ¬ ((q1.1) = (0)) := of_decide_eq_true hc
        rw [if_neg hc4] at h
        refine px_D_st 5 (ip1 := 20) (ls1 := [(2, .inl (q1.1)), (0, .inr (.inr 5)), (1, .inl (x1))]) (st1 := [.inl (px_wr (x1 - 10)), .inr (.inr 143)]) (h1 := (px_G1, q1.2)) rfl ?_
        refine px_D_call (as := [.inr (.inr 143), .inl (px_wr (x1 - 10))]) (rest := []) rfl rfl rfl rfl ?_
        obtain ⟨q5, hq5, h⟩ := Option.bind_eq_some_iff.mp h
        refine px_D_mono (c_Orders_thingAt (d := d + 0) hq5) ?_
        rintro _ _ ⟨rfl, rfl⟩
        show px_D sc (d + 3) 125 21 [(2, .inl (q1.1)), (0, .inr (.inr 5)), (1, .inl (x1))] [.inl (q5)] (px_G1, q1.2) _
        cases h
        exact px_D_iret rfl rfl ⟨rfl, rfl⟩
      · have hc4 : (q1.1) = (0) := Decidable.of_not_not (of_decide_eq_false hc)
        rw [if_pos hc4] at h
        refine px_D_st 2 (ip1 := 21) (ls1 := [(2, .inl (q1.1)), (0, .inr (.inr 5)), (1, .inl (x1))]) (st1 := [.inl ((-1))]) (h1 := (px_G1, q1.2)) rfl ?_
        cases h
        exact px_D_iret rfl rfl ⟨rfl, rfl⟩
  · have hc2 : (x1) = (0) := Decidable.of_not_not (of_decide_eq_false hc)
    rw [if_pos hc2] at h
    refine px_D_st 1 (ip1 := 7) (ls1 := [(2, .inl (q1.1)), (0, .inr (.inr 5)), (1, .inl (x1))]) (st1 := [.inl (q1.1)]) (h1 := (px_G1, q1.2)) rfl ?_
    cases h
    exact px_D_iret rfl rfl ⟨rfl, rfl⟩

def l_Hills_hasMud_2 (s : px_Z)  : Nat → Int → Int → Int → Option (Int)
  | 0, _, _, _ => none
  | n + 1, x1, x2, x3 => if (6) ≤ (x3) then some 0 else (f_Hills_mudIn s x3 x1).bind (fun q2 => if (q2) = (x2) then some 1 else l_Hills_hasMud_2 s  n x1 x2 (px_wr (x3 + 1)))
set_option maxHeartbeats 4000000 in
set_option maxRecDepth 100000 in
theorem cl_Hills_hasMud_2 {sc : List Int} {d : Nat} {s : px_Z}  : ∀ (n : Nat) (x1 : Int) (x2 : Int) (x3 : Int) (out : Int), l_Hills_hasMud_2 s  n x1 x2 x3 = some out → px_D sc (d + 2) 9 2 [(0, .inr (.inr 28)), (1, .inl (x1)), (2, .inl (x2)), (3, .inl (x3))] [] (px_G1, s) (px_Qp s out) := by
  intro n
  induction n with
  | zero => intro x1 x2 x3 out h; cases h
  | succ n ih =>
    intro x1 x2 x3 out h
    rw [l_Hills_hasMud_2] at h
    refine px_D_st 2 (ip1 := 4) (ls1 := [(0, .inr (.inr 28)), (1, .inl (x1)), (2, .inl (x2)), (3, .inl (x3))]) (st1 := [.inl (6), .inl (x3)]) (h1 := (px_G1, s)) rfl ?_
    refine px_D_icmp rfl (fun hc => ?_) (fun hc => ?_)
    · have hc1 : (6) ≤ (x3) := of_decide_eq_true hc
      rw [if_pos hc1] at h
      refine px_D_st 1 (ip1 := 16) (ls1 := [(0, .inr (.inr 28)), (1, .inl (x1)), (2, .inl (x2)), (3, .inl (x3))]) (st1 := [.inl (0)]) (h1 := (px_G1, s)) rfl ?_
      cases h
      exact px_D_iret rfl rfl ⟨rfl, rfl⟩
    · have hc1 : ¬ ((6) ≤ (x3)) := of_decide_eq_false hc
      rw [if_neg hc1] at h
      refine px_D_st 3 (ip1 := 8) (ls1 := [(0, .inr (.inr 28)), (1, .inl (x1)), (2, .inl (x2)), (3, .inl (x3))]) (st1 := [.inl (x1), .inl (x3), .inr (.inr 28)]) (h1 := (px_G1, s)) rfl ?_
      refine px_D_call (as := [.inr (.inr 28), .inl (x3), .inl (x1)]) (rest := []) rfl rfl rfl rfl ?_
      obtain ⟨q2, hq2, h⟩ := Option.bind_eq_some_iff.mp h
      refine px_D_mono (c_Hills_mudIn (d := d + 0) hq2) ?_
      rintro _ _ ⟨rfl, rfl⟩
      show px_D sc (d + 2) 9 9 [(0, .inr (.inr 28)), (1, .inl (x1)), (2, .inl (x2)), (3, .inl (x3))] [.inl (q2)] (px_G1, s) _
      refine px_D_st 1 (ip1 := 10) (ls1 := [(0, .inr (.inr 28)), (1, .inl (x1)), (2, .inl (x2)), (3, .inl (x3))]) (st1 := [.inl (x2), .inl (q2)]) (h1 := (px_G1, s)) rfl ?_
      refine px_D_icmp rfl (fun hc => ?_) (fun hc => ?_)
      · have hc3 : ¬ ((q2) = (x2)) := of_decide_eq_true hc
        rw [if_neg hc3] at h
        refine px_D_st 2 (ip1 := 2) (ls1 := [(3, .inl (px_wr (x3 + 1))), (0, .inr (.inr 28)), (1, .inl (x1)), (2, .inl (x2))]) (st1 := []) (h1 := (px_G1, s)) rfl ?_
        refine px_D_ls [(0, .inr (.inr 28)), (1, .inl (x1)), (2, .inl (x2)), (3, .inl (px_wr (x3 + 1)))] rfl rfl (List.forall_mem_cons.mpr ⟨rfl, List.forall_mem_cons.mpr ⟨rfl, List.forall_mem_cons.mpr ⟨rfl, List.forall_mem_cons.mpr ⟨rfl, fun _ h => absurd h List.not_mem_nil⟩⟩⟩⟩) ?_
        exact ih _ _ _ _ h
      · have hc3 : (q2) = (x2) := Decidable.of_not_not (of_decide_eq_false hc)
        rw [if_pos hc3] at h
        refine px_D_st 1 (ip1 := 12) (ls1 := [(0, .inr (.inr 28)), (1, .inl (x1)), (2, .inl (x2)), (3, .inl (x3))]) (st1 := [.inl (1)]) (h1 := (px_G1, s)) rfl ?_
        cases h
        exact px_D_iret rfl rfl ⟨rfl, rfl⟩
def f_Hills_hasMud (s : px_Z) (x1 : Int) (x2 : Int) : Option (Int) := l_Hills_hasMud_2 s  px_big x1 x2 0
set_option maxHeartbeats 4000000 in
set_option maxRecDepth 100000 in
theorem c_Hills_hasMud {sc : List Int} {d : Nat} {s : px_Z} {x1 : Int} {x2 : Int} {out : Int} (h : f_Hills_hasMud s x1 x2 = some out) : px_D sc (d + 2) 9 0 [(0, .inr (.inr 28)), (1, .inl (x1)), (2, .inl (x2))] [] (px_G1, s) (px_Qp s out) := by
  unfold f_Hills_hasMud at h
  refine px_D_st 2 (ip1 := 2) (ls1 := [(3, .inl (0)), (0, .inr (.inr 28)), (1, .inl (x1)), (2, .inl (x2))]) (st1 := []) (h1 := (px_G1, s)) rfl ?_
  refine px_D_ls [(0, .inr (.inr 28)), (1, .inl (x1)), (2, .inl (x2)), (3, .inl (0))] rfl rfl (List.forall_mem_cons.mpr ⟨rfl, List.forall_mem_cons.mpr ⟨rfl, List.forall_mem_cons.mpr ⟨rfl, List.forall_mem_cons.mpr ⟨rfl, fun _ h => absurd h List.not_mem_nil⟩⟩⟩⟩) ?_
  refine cl_Hills_hasMud_2  px_big _ _ _ _ h

def l_R_fits_25 (s : px_Z)  : Nat → Int → Int → Int → Int → Option (Int)
  | 0, _, _, _, _ => none
  | n + 1, x1, x2, x5, x6 => if (s 6 1) ≤ (x6) then some x5 else (if 0 ≤ (x6) ∧ (x6) < 8 then if (s 9 x6.toNat) = (1) then l_R_fits_25 s  n x1 x2 x5 (px_wr (x6 + 1)) else (if 0 ≤ (x6) ∧ (x6) < 8 then if (f_R_within s (s 8 x6.toNat) x1 x2) = (0) then l_R_fits_25 s  n x1 x2 x5 (px_wr (x6 + 1)) else l_R_fits_25 s  n x1 x2 (px_or (x5) ((px_shl (1) (x6)))) (px_wr (x6 + 1)) else none) else none)
set_option maxHeartbeats 4000000 in
set_option maxRecDepth 100000 in
theorem cl_R_fits_25 {sc : List Int} {d : Nat} {s : px_Z}  : ∀ (n : Nat) (x1 : Int) (x2 : Int) (x5 : Int) (x6 : Int) (out : Int), l_R_fits_25 s  n x1 x2 x5 x6 = some out → px_D sc (d + 3) 126 25 [(0, .inr (.inr 5)), (1, .inl (x1)), (2, .inl (x2)), (5, .inl (x5)), (6, .inl (x6))] [] (px_G1, s) (px_Qp s out) := by
  intro n
  induction n with
  | zero => intro x1 x2 x5 x6 out h; cases h
  | succ n ih =>
    intro x1 x2 x5 x6 out h
    rw [l_R_fits_25] at h
    refine px_D_st 4 (ip1 := 29) (ls1 := [(0, .inr (.inr 5)), (1, .inl (x1)), (2, .inl (x2)), (5, .inl (x5)), (6, .inl (x6))]) (st1 := [.inl (s 6 1), .inl (x6)]) (h1 := (px_G1, s)) rfl ?_
    refine px_D_icmp rfl (fun hc => ?_) (fun hc => ?_)
    · have hc5 : (s 6 1) ≤ (x6) := of_decide_eq_true hc
      rw [if_pos hc5] at h
      refine px_D_st 1 (ip1 := 57) (ls1 := [(0, .inr (.inr 5)), (1, .inl (x1)), (2, .inl (x2)), (5, .inl (x5)), (6, .inl (x6))]) (st1 := [.inl (x5)]) (h1 := (px_G1, s)) rfl ?_
      cases h
      exact px_D_iret rfl rfl ⟨rfl, rfl⟩
    · have hc5 : ¬ ((s 6 1) ≤ (x6)) := of_decide_eq_false hc
      rw [if_neg hc5] at h
      refine px_D_st 5 (ip1 := 35) (ls1 := [(0, .inr (.inr 5)), (1, .inl (x1)), (2, .inl (x2)), (5, .inl (x5)), (6, .inl (x6))]) (st1 := [.inl (x6), .inr (.inr 9)]) (h1 := (px_G1, s)) rfl ?_
      by_cases hc6 : 0 ≤ (x6) ∧ (x6) < 8
      case neg => rw [if_neg hc6] at h; cases h
      rw [if_pos hc6] at h
      refine px_D_iald (k := 4) (n := 8) rfl rfl hc6 ?_
      refine px_D_st 1 (ip1 := 37) (ls1 := [(0, .inr (.inr 5)), (1, .inl (x1)), (2, .inl (x2)), (5, .inl (x5)), (6, .inl (x6))]) (st1 := [.inl (1), .inl (s 9 x6.toNat)]) (h1 := (px_G1, s)) rfl ?_
      refine px_D_icmp rfl (fun hc => ?_) (fun hc => ?_)
      · have hc7 : (s 9 x6.toNat) = (1) := of_decide_eq_true hc
        rw [if_pos hc7] at h
        refine px_D_st 2 (ip1 := 25) (ls1 := [(6, .inl (px_wr (x6 + 1))), (0, .inr (.inr 5)), (1, .inl (x1)), (2, .inl (x2)), (5, .inl (x5))]) (st1 := []) (h1 := (px_G1, s)) rfl ?_
        refine px_D_ls [(0, .inr (.inr 5)), (1, .inl (x1)), (2, .inl (x2)), (5, .inl (x5)), (6, .inl (px_wr (x6 + 1)))] rfl rfl (List.forall_mem_cons.mpr ⟨rfl, List.forall_mem_cons.mpr ⟨rfl, List.forall_mem_cons.mpr ⟨rfl, List.forall_mem_cons.mpr ⟨rfl, List.forall_mem_cons.mpr ⟨rfl, fun _ h => absurd h List.not_mem_nil⟩⟩⟩⟩⟩) ?_
        exact ih _ _ _ _ _ h
      · have hc7 : ¬ ((s 9 x6.toNat) = (1)) := of_decide_eq_false hc
        rw [if_neg hc7] at h
        refine px_D_st 5 (ip1 := 43) (ls1 := [(0, .inr (.inr 5)), (1, .inl (x1)), (2, .inl (x2)), (5, .inl (x5)), (6, .inl (x6))]) (st1 := [.inl (x6), .inr (.inr 8)]) (h1 := (px_G1, s)) rfl ?_
        by_cases hc8 : 0 ≤ (x6) ∧ (x6) < 8
        case neg => rw [if_neg hc8] at h; cases h
        rw [if_pos hc8] at h
        refine px_D_iald (k := 3) (n := 8) rfl rfl hc8 ?_
        refine px_D_st 2 (ip1 := 46) (ls1 := [(0, .inr (.inr 5)), (1, .inl (x1)), (2, .inl (x2)), (5, .inl (x5)), (6, .inl (x6))]) (st1 := [.inl (x2), .inl (x1), .inl (s 8 x6.toNat)]) (h1 := (px_G1, s)) rfl ?_
        refine px_D_call (as := [.inl (s 8 x6.toNat), .inl (x1), .inl (x2)]) (rest := []) rfl rfl rfl rfl ?_
        refine px_D_mono (c_R_within (d := d + 2) rfl) ?_
        rintro _ _ ⟨rfl, rfl⟩
        show px_D sc (d + 3) 126 47 [(0, .inr (.inr 5)), (1, .inl (x1)), (2, .inl (x2)), (5, .inl (x5)), (6, .inl (x6))] [.inl (f_R_within s (s 8 x6.toNat) x1 x2)] (px_G1, s) _
        refine px_D_ifc rfl (fun hc => ?_) (fun hc => ?_)
        · have hc9 : (f_R_within s (s 8 x6.toNat) x1 x2) = (0) := of_decide_eq_true hc
          rw [if_pos hc9] at h
          refine px_D_st 2 (ip1 := 25) (ls1 := [(6, .inl (px_wr (x6 + 1))), (0, .inr (.inr 5)), (1, .inl (x1)), (2, .inl (x2)), (5, .inl (x5))]) (st1 := []) (h1 := (px_G1, s)) rfl ?_
          refine px_D_ls [(0, .inr (.inr 5)), (1, .inl (x1)), (2, .inl (x2)), (5, .inl (x5)), (6, .inl (px_wr (x6 + 1)))] rfl rfl (List.forall_mem_cons.mpr ⟨rfl, List.forall_mem_cons.mpr ⟨rfl, List.forall_mem_cons.mpr ⟨rfl, List.forall_mem_cons.mpr ⟨rfl, List.forall_mem_cons.mpr ⟨rfl, fun _ h => absurd h List.not_mem_nil⟩⟩⟩⟩⟩) ?_
          exact ih _ _ _ _ _ h
        · have hc9 : ¬ ((f_R_within s (s 8 x6.toNat) x1 x2) = (0)) := of_decide_eq_false hc
          rw [if_neg hc9] at h
          refine px_D_st 8 (ip1 := 25) (ls1 := [(6, .inl (px_wr (x6 + 1))), (5, .inl (px_or (x5) ((px_shl (1) (x6))))), (0, .inr (.inr 5)), (1, .inl (x1)), (2, .inl (x2))]) (st1 := []) (h1 := (px_G1, s)) rfl ?_
          refine px_D_ls [(0, .inr (.inr 5)), (1, .inl (x1)), (2, .inl (x2)), (5, .inl (px_or (x5) ((px_shl (1) (x6))))), (6, .inl (px_wr (x6 + 1)))] rfl rfl (List.forall_mem_cons.mpr ⟨rfl, List.forall_mem_cons.mpr ⟨rfl, List.forall_mem_cons.mpr ⟨rfl, List.forall_mem_cons.mpr ⟨rfl, List.forall_mem_cons.mpr ⟨rfl, fun _ h => absurd h List.not_mem_nil⟩⟩⟩⟩⟩) ?_
          exact ih _ _ _ _ _ h
def f_R_fits (s : px_Z) (x1 : Int) (x2 : Int) (x3 : Int) (x4 : Int) : Option (Int) := if (f_R_within s x3 0 60) = (0) then some (-1) else (if (f_R_within s x4 0 5) = (0) then some (-1) else (f_Hills_hasMud s x3 x4).bind (fun q3 => if (q3) = (0) then some 0 else l_R_fits_25 s  px_big x1 x2 0 0))
set_option maxHeartbeats 4000000 in
set_option maxRecDepth 100000 in
theorem c_R_fits {sc : List Int} {d : Nat} {s : px_Z} {x1 : Int} {x2 : Int} {x3 : Int} {x4 : Int} {out : Int} (h : f_R_fits s x1 x2 x3 x4 = some out) : px_D sc (d + 3) 126 0 [(0, .inr (.inr 5)), (1, .inl (x1)), (2, .inl (x2)), (3, .inl (x3)), (4, .inl (x4))] [] (px_G1, s) (px_Qp s out) := by
  unfold f_R_fits at h
  refine px_D_st 3 (ip1 := 3) (ls1 := [(0, .inr (.inr 5)), (1, .inl (x1)), (2, .inl (x2)), (3, .inl (x3)), (4, .inl (x4))]) (st1 := [.inl (60), .inl (0), .inl (x3)]) (h1 := (px_G1, s)) rfl ?_
  refine px_D_call (as := [.inl (x3), .inl (0), .inl (60)]) (rest := []) rfl rfl rfl rfl ?_
  refine px_D_mono (c_R_within (d := d + 2) rfl) ?_
  rintro _ _ ⟨rfl, rfl⟩
  show px_D sc (d + 3) 126 4 [(0, .inr (.inr 5)), (1, .inl (x1)), (2, .inl (x2)), (3, .inl (x3)), (4, .inl (x4))] [.inl (f_R_within s x3 0 60)] (px_G1, s) _
  refine px_D_ifc rfl (fun hc => ?_) (fun hc => ?_)
  · have hc1 : (f_R_within s x3 0 60) = (0) := of_decide_eq_true hc
    rw [if_pos hc1] at h
    refine px_D_st 1 (ip1 := 11) (ls1 := [(0, .inr (.inr 5)), (1, .inl (x1)), (2, .inl (x2)), (3, .inl (x3)), (4, .inl (x4))]) (st1 := [.inl ((-1))]) (h1 := (px_G1, s)) rfl ?_
    cases h
    exact px_D_iret rfl rfl ⟨rfl, rfl⟩
  · have hc1 : ¬ ((f_R_within s x3 0 60) = (0)) := of_decide_eq_false hc
    rw [if_neg hc1] at h
    refine px_D_st 3 (ip1 := 8) (ls1 := [(0, .inr (.inr 5)), (1, .inl (x1)), (2, .inl (x2)), (3, .inl (x3)), (4, .inl (x4))]) (st1 := [.inl (5), .inl (0), .inl (x4)]) (h1 := (px_G1, s)) rfl ?_
    refine px_D_call (as := [.inl (x4), .inl (0), .inl (5)]) (rest := []) rfl rfl rfl rfl ?_
    refine px_D_mono (c_R_within (d := d + 2) rfl) ?_
    rintro _ _ ⟨rfl, rfl⟩
    show px_D sc (d + 3) 126 9 [(0, .inr (.inr 5)), (1, .inl (x1)), (2, .inl (x2)), (3, .inl (x3)), (4, .inl (x4))] [.inl (f_R_within s x4 0 5)] (px_G1, s) _
    refine px_D_ifc rfl (fun hc => ?_) (fun hc => ?_)
    · have hc2 : ¬ ((f_R_within s x4 0 5) = (0)) := of_decide_eq_true hc
      rw [if_neg hc2] at h
      refine px_D_st 5 (ip1 := 17) (ls1 := [(0, .inr (.inr 5)), (1, .inl (x1)), (2, .inl (x2)), (3, .inl (x3)), (4, .inl (x4))]) (st1 := [.inl (x4), .inl (x3), .inr (.inr 28)]) (h1 := (px_G1, s)) rfl ?_
      refine px_D_call (as := [.inr (.inr 28), .inl (x3), .inl (x4)]) (rest := []) rfl rfl rfl rfl ?_
      obtain ⟨q3, hq3, h⟩ := Option.bind_eq_some_iff.mp h
      refine px_D_mono (c_Hills_hasMud (d := d + 0) hq3) ?_
      rintro _ _ ⟨rfl, rfl⟩
      show px_D sc (d + 3) 126 18 [(0, .inr (.inr 5)), (1, .inl (x1)), (2, .inl (x2)), (3, .inl (x3)), (4, .inl (x4))] [.inl (q3)] (px_G1, s) _
      refine px_D_ifc rfl (fun hc => ?_) (fun hc => ?_)
      · have hc4 : ¬ ((q3) = (0)) := of_decide_eq_true hc
        rw [if_neg hc4] at h
        refine px_D_st 4 (ip1 := 25) (ls1 := [(6, .inl (0)), (5, .inl (0)), (0, .inr (.inr 5)), (1, .inl (x1)), (2, .inl (x2)), (3, .inl (x3)), (4, .inl (x4))]) (st1 := []) (h1 := (px_G1, s)) rfl ?_
        refine px_D_ls [(0, .inr (.inr 5)), (1, .inl (x1)), (2, .inl (x2)), (5, .inl (0)), (6, .inl (0))] rfl rfl (List.forall_mem_cons.mpr ⟨rfl, List.forall_mem_cons.mpr ⟨rfl, List.forall_mem_cons.mpr ⟨rfl, List.forall_mem_cons.mpr ⟨rfl, List.forall_mem_cons.mpr ⟨rfl, fun _ h => absurd h List.not_mem_nil⟩⟩⟩⟩⟩) ?_
        refine cl_R_fits_25  px_big _ _ _ _ _ h
      · have hc4 : (q3) = (0) := Decidable.of_not_not (of_decide_eq_false hc)
        rw [if_pos hc4] at h
        refine px_D_st 1 (ip1 := 20) (ls1 := [(0, .inr (.inr 5)), (1, .inl (x1)), (2, .inl (x2)), (3, .inl (x3)), (4, .inl (x4))]) (st1 := [.inl (0)]) (h1 := (px_G1, s)) rfl ?_
        cases h
        exact px_D_iret rfl rfl ⟨rfl, rfl⟩
    · have hc2 : (f_R_within s x4 0 5) = (0) := Decidable.of_not_not (of_decide_eq_false hc)
      rw [if_pos hc2] at h
      refine px_D_st 1 (ip1 := 11) (ls1 := [(0, .inr (.inr 5)), (1, .inl (x1)), (2, .inl (x2)), (3, .inl (x3)), (4, .inl (x4))]) (st1 := [.inl ((-1))]) (h1 := (px_G1, s)) rfl ?_
      cases h
      exact px_D_iret rfl rfl ⟨rfl, rfl⟩

def l_Hills_cavesBy_4 (s : px_Z)  : Nat → Int → Int → Int → Option (Int)
  | 0, _, _, _ => none
  | n + 1, x1, x2, x3 => if (s 28 0) ≤ (x3) then some x2 else (if 0 ≤ (x3) ∧ (x3) < 24 then if (s 29 x3.toNat) = ((-1)) then l_Hills_cavesBy_4 s  n x1 x2 (px_wr (x3 + 1)) else (if 0 ≤ (x3) ∧ (x3) < 24 then if (s 30 x3.toNat) = (x1) then (if 0 ≤ (x3) ∧ (x3) < 24 then l_Hills_cavesBy_4 s  n x1 (px_or (x2) ((px_shl (1) ((s 29 x3.toNat))))) (px_wr (x3 + 1)) else none) else l_Hills_cavesBy_4 s  n x1 x2 (px_wr (x3 + 1)) else none) else none)
set_option maxHeartbeats 4000000 in
set_option maxRecDepth 100000 in
theorem cl_Hills_cavesBy_4 {sc : List Int} {d : Nat} {s : px_Z}  : ∀ (n : Nat) (x1 : Int) (x2 : Int) (x3 : Int) (out : Int), l_Hills_cavesBy_4 s  n x1 x2 x3 = some out → px_D sc (d + 0) 11 4 [(0, .inr (.inr 28)), (1, .inl (x1)), (2, .inl (x2)), (3, .inl (x3))] [] (px_G1, s) (px_Qp s out) := by
  intro n
  induction n with
  | zero => intro x1 x2 x3 out h; cases h
  | succ n ih =>
    intro x1 x2 x3 out h
    rw [l_Hills_cavesBy_4] at h
    refine px_D_st 3 (ip1 := 7) (ls1 := [(0, .inr (.inr 28)), (1, .inl (x1)), (2, .inl (x2)), (3, .inl (x3))]) (st1 := [.inl (s 28 0), .inl (x3)]) (h1 := (px_G1, s)) rfl ?_
    refine px_D_icmp rfl (fun hc => ?_) (fun hc => ?_)
    · have hc1 : (s 28 0) ≤ (x3) := of_decide_eq_true hc
      rw [if_pos hc1] at h
      refine px_D_st 1 (ip1 := 32) (ls1 := [(0, .inr (.inr 28)), (1, .inl (x1)), (2, .inl (x2)), (3, .inl (x3))]) (st1 := [.inl (x2)]) (h1 := (px_G1, s)) rfl ?_
      cases h
      exact px_D_iret rfl rfl ⟨rfl, rfl⟩
    · have hc1 : ¬ ((s 28 0) ≤ (x3)) := of_decide_eq_false hc
      rw [if_neg hc1] at h
      refine px_D_st 3 (ip1 := 11) (ls1 := [(0, .inr (.inr 28)), (1, .inl (x1)), (2, .inl (x2)), (3, .inl (x3))]) (st1 := [.inl (x3), .inr (.inr 29)]) (h1 := (px_G1, s)) rfl ?_
      by_cases hc2 : 0 ≤ (x3) ∧ (x3) < 24
      case neg => rw [if_neg hc2] at h; cases h
      rw [if_pos hc2] at h
      refine px_D_iald (k := 24) (n := 24) rfl rfl hc2 ?_
      refine px_D_st 1 (ip1 := 13) (ls1 := [(0, .inr (.inr 28)), (1, .inl (x1)), (2, .inl (x2)), (3, .inl (x3))]) (st1 := [.inl ((-1)), .inl (s 29 x3.toNat)]) (h1 := (px_G1, s)) rfl ?_
      refine px_D_icmp rfl (fun hc => ?_) (fun hc => ?_)
      · have hc3 : (s 29 x3.toNat) = ((-1)) := of_decide_eq_true hc
        rw [if_pos hc3] at h
        refine px_D_st 2 (ip1 := 4) (ls1 := [(3, .inl (px_wr (x3 + 1))), (0, .inr (.inr 28)), (1, .inl (x1)), (2, .inl (x2))]) (st1 := []) (h1 := (px_G1, s)) rfl ?_
        refine px_D_ls [(0, .inr (.inr 28)), (1, .inl (x1)), (2, .inl (x2)), (3, .inl (px_wr (x3 + 1)))] rfl rfl (List.forall_mem_cons.mpr ⟨rfl, List.forall_mem_cons.mpr ⟨rfl, List.forall_mem_cons.mpr ⟨rfl, List.forall_mem_cons.mpr ⟨rfl, fun _ h => absurd h List.not_mem_nil⟩⟩⟩⟩) ?_
        exact ih _ _ _ _ h
      · have hc3 : ¬ ((s 29 x3.toNat) = ((-1))) := of_decide_eq_false hc
        rw [if_neg hc3] at h
        refine px_D_st 3 (ip1 := 17) (ls1 := [(0, .inr (.inr 28)), (1, .inl (x1)), (2, .inl (x2)), (3, .inl (x3))]) (st1 := [.inl (x3), .inr (.inr 30)]) (h1 := (px_G1, s)) rfl ?_
        by_cases hc4 : 0 ≤ (x3) ∧ (x3) < 24
        case neg => rw [if_neg hc4] at h; cases h
        rw [if_pos hc4] at h
        refine px_D_iald (k := 25) (n := 24) rfl rfl hc4 ?_
        refine px_D_st 1 (ip1 := 19) (ls1 := [(0, .inr (.inr 28)), (1, .inl (x1)), (2, .inl (x2)), (3, .inl (x3))]) (st1 := [.inl (x1), .inl (s 30 x3.toNat)]) (h1 := (px_G1, s)) rfl ?_
        refine px_D_icmp rfl (fun hc => ?_) (fun hc => ?_)
        · have hc5 : ¬ ((s 30 x3.toNat) = (x1)) := of_decide_eq_true hc
          rw [if_neg hc5] at h
          refine px_D_st 2 (ip1 := 4) (ls1 := [(3, .inl (px_wr (x3 + 1))), (0, .inr (.inr 28)), (1, .inl (x1)), (2, .inl (x2))]) (st1 := []) (h1 := (px_G1, s)) rfl ?_
          refine px_D_ls [(0, .inr (.inr 28)), (1, .inl (x1)), (2, .inl (x2)), (3, .inl (px_wr (x3 + 1)))] rfl rfl (List.forall_mem_cons.mpr ⟨rfl, List.forall_mem_cons.mpr ⟨rfl, List.forall_mem_cons.mpr ⟨rfl, List.forall_mem_cons.mpr ⟨rfl, fun _ h => absurd h List.not_mem_nil⟩⟩⟩⟩) ?_
          exact ih _ _ _ _ h
        · have hc5 : (s 30 x3.toNat) = (x1) := Decidable.of_not_not (of_decide_eq_false hc)
          rw [if_pos hc5] at h
          refine px_D_st 5 (ip1 := 25) (ls1 := [(0, .inr (.inr 28)), (1, .inl (x1)), (2, .inl (x2)), (3, .inl (x3))]) (st1 := [.inl (x3), .inr (.inr 29), .inl (1), .inl (x2)]) (h1 := (px_G1, s)) rfl ?_
          by_cases hc6 : 0 ≤ (x3) ∧ (x3) < 24
          case neg => rw [if_neg hc6] at h; cases h
          rw [if_pos hc6] at h
          refine px_D_iald (k := 24) (n := 24) rfl rfl hc6 ?_
          refine px_D_st 5 (ip1 := 4) (ls1 := [(3, .inl (px_wr (x3 + 1))), (2, .inl (px_or (x2) ((px_shl (1) ((s 29 x3.toNat)))))), (0, .inr (.inr 28)), (1, .inl (x1))]) (st1 := []) (h1 := (px_G1, s)) rfl ?_
          refine px_D_ls [(0, .inr (.inr 28)), (1, .inl (x1)), (2, .inl (px_or (x2) ((px_shl (1) ((s 29 x3.toNat)))))), (3, .inl (px_wr (x3 + 1)))] rfl rfl (List.forall_mem_cons.mpr ⟨rfl, List.forall_mem_cons.mpr ⟨rfl, List.forall_mem_cons.mpr ⟨rfl, List.forall_mem_cons.mpr ⟨rfl, fun _ h => absurd h List.not_mem_nil⟩⟩⟩⟩) ?_
          exact ih _ _ _ _ h
def f_Hills_cavesBy (s : px_Z) (x1 : Int) : Option (Int) := l_Hills_cavesBy_4 s  px_big x1 0 0
set_option maxHeartbeats 4000000 in
set_option maxRecDepth 100000 in
theorem c_Hills_cavesBy {sc : List Int} {d : Nat} {s : px_Z} {x1 : Int} {out : Int} (h : f_Hills_cavesBy s x1 = some out) : px_D sc (d + 0) 11 0 [(0, .inr (.inr 28)), (1, .inl (x1))] [] (px_G1, s) (px_Qp s out) := by
  unfold f_Hills_cavesBy at h
  refine px_D_st 4 (ip1 := 4) (ls1 := [(3, .inl (0)), (2, .inl (0)), (0, .inr (.inr 28)), (1, .inl (x1))]) (st1 := []) (h1 := (px_G1, s)) rfl ?_
  refine px_D_ls [(0, .inr (.inr 28)), (1, .inl (x1)), (2, .inl (0)), (3, .inl (0))] rfl rfl (List.forall_mem_cons.mpr ⟨rfl, List.forall_mem_cons.mpr ⟨rfl, List.forall_mem_cons.mpr ⟨rfl, List.forall_mem_cons.mpr ⟨rfl, fun _ h => absurd h List.not_mem_nil⟩⟩⟩⟩) ?_
  refine cl_Hills_cavesBy_4  px_big _ _ _ _ h

def l_Hills_caves_4 (s : px_Z)  : Nat → Int → Int → Option (Int)
  | 0, _, _ => none
  | n + 1, x1, x2 => if (6) ≤ (x2) then some x1 else (f_Hills_cavesBy s x2).bind (fun q2 => l_Hills_caves_4 s  n (px_or (x1) (q2)) (px_wr (x2 + 1)))
set_option maxHeartbeats 4000000 in
set_option maxRecDepth 100000 in
theorem cl_Hills_caves_4 {sc : List Int} {d : Nat} {s : px_Z}  : ∀ (n : Nat) (x1 : Int) (x2 : Int) (out : Int), l_Hills_caves_4 s  n x1 x2 = some out → px_D sc (d + 1) 10 4 [(0, .inr (.inr 28)), (1, .inl (x1)), (2, .inl (x2))] [] (px_G1, s) (px_Qp s out) := by
  intro n
  induction n with
  | zero => intro x1 x2 out h; cases h
  | succ n ih =>
    intro x1 x2 out h
    rw [l_Hills_caves_4] at h
    refine px_D_st 2 (ip1 := 6) (ls1 := [(0, .inr (.inr 28)), (1, .inl (x1)), (2, .inl (x2))]) (st1 := [.inl (6), .inl (x2)]) (h1 := (px_G1, s)) rfl ?_
    refine px_D_icmp rfl (fun hc => ?_) (fun hc => ?_)
    · have hc1 : (6) ≤ (x2) := of_decide_eq_true hc
      rw [if_pos hc1] at h
      refine px_D_st 1 (ip1 := 16) (ls1 := [(0, .inr (.inr 28)), (1, .inl (x1)), (2, .inl (x2))]) (st1 := [.inl (x1)]) (h1 := (px_G1, s)) rfl ?_
      cases h
      exact px_D_iret rfl rfl ⟨rfl, rfl⟩
    · have hc1 : ¬ ((6) ≤ (x2)) := of_decide_eq_false hc
      rw [if_neg hc1] at h
      refine px_D_st 3 (ip1 := 10) (ls1 := [(0, .inr (.inr 28)), (1, .inl (x1)), (2, .inl (x2))]) (st1 := [.inl (x2), .inr (.inr 28), .inl (x1)]) (h1 := (px_G1, s)) rfl ?_
      refine px_D_call (as := [.inr (.inr 28), .inl (x2)]) (rest := [.inl (x1)]) rfl rfl rfl rfl ?_
      obtain ⟨q2, hq2, h⟩ := Option.bind_eq_some_iff.mp h
      refine px_D_mono (c_Hills_cavesBy (d := d + 0) hq2) ?_
      rintro _ _ ⟨rfl, rfl⟩
      show px_D sc (d + 1) 10 11 [(0, .inr (.inr 28)), (1, .inl (x1)), (2, .inl (x2))] [.inl (q2), .inl (x1)] (px_G1, s) _
      refine px_D_st 4 (ip1 := 4) (ls1 := [(2, .inl (px_wr (x2 + 1))), (1, .inl (px_or (x1) (q2))), (0, .inr (.inr 28))]) (st1 := []) (h1 := (px_G1, s)) rfl ?_
      refine px_D_ls [(0, .inr (.inr 28)), (1, .inl (px_or (x1) (q2))), (2, .inl (px_wr (x2 + 1)))] rfl rfl (List.forall_mem_cons.mpr ⟨rfl, List.forall_mem_cons.mpr ⟨rfl, List.forall_mem_cons.mpr ⟨rfl, fun _ h => absurd h List.not_mem_nil⟩⟩⟩) ?_
      exact ih _ _ _ h
def f_Hills_caves (s : px_Z) : Option (Int) := l_Hills_caves_4 s  px_big 0 0
set_option maxHeartbeats 4000000 in
set_option maxRecDepth 100000 in
theorem c_Hills_caves {sc : List Int} {d : Nat} {s : px_Z} {out : Int} (h : f_Hills_caves s  = some out) : px_D sc (d + 1) 10 0 [(0, .inr (.inr 28))] [] (px_G1, s) (px_Qp s out) := by
  unfold f_Hills_caves at h
  refine px_D_st 4 (ip1 := 4) (ls1 := [(2, .inl (0)), (1, .inl (0)), (0, .inr (.inr 28))]) (st1 := []) (h1 := (px_G1, s)) rfl ?_
  refine px_D_ls [(0, .inr (.inr 28)), (1, .inl (0)), (2, .inl (0))] rfl rfl (List.forall_mem_cons.mpr ⟨rfl, List.forall_mem_cons.mpr ⟨rfl, List.forall_mem_cons.mpr ⟨rfl, fun _ h => absurd h List.not_mem_nil⟩⟩⟩) ?_
  refine cl_Hills_caves_4  px_big _ _ _ h

def l_R_kept_7 (s : px_Z)  : Nat → Int → Int → Option (Int)
  | 0, _, _ => none
  | n + 1, x1, x2 => if (s 6 1) ≤ (x2) then some x1 else (if 0 ≤ (x2) ∧ (x2) < 8 then if (s 9 x2.toNat) = (1) then (if 0 ≤ (x2) ∧ (x2) < 8 then (f_Hills_cavesBy s (s 11 x2.toNat)).bind (fun q6 => l_R_kept_7 s  n (px_and (x1) (q6)) (px_wr (x2 + 1))) else none) else l_R_kept_7 s  n x1 (px_wr (x2 + 1)) else none)
set_option maxHeartbeats 4000000 in
set_option maxRecDepth 100000 in
theorem cl_R_kept_7 {sc : List Int} {d : Nat} {s : px_Z}  : ∀ (n : Nat) (x1 : Int) (x2 : Int) (out : Int), l_R_kept_7 s  n x1 x2 = some out → px_D sc (d + 2) 127 7 [(0, .inr (.inr 5)), (1, .inl (x1)), (2, .inl (x2))] [] (px_G1, s) (px_Qp s out) := by
  intro n
  induction n with
  | zero => intro x1 x2 out h; cases h
  | succ n ih =>
    intro x1 x2 out h
    rw [l_R_kept_7] at h
    refine px_D_st 4 (ip1 := 11) (ls1 := [(0, .inr (.inr 5)), (1, .inl (x1)), (2, .inl (x2))]) (st1 := [.inl (s 6 1), .inl (x2)]) (h1 := (px_G1, s)) rfl ?_
    refine px_D_icmp rfl (fun hc => ?_) (fun hc => ?_)
    · have hc2 : (s 6 1) ≤ (x2) := of_decide_eq_true hc
      rw [if_pos hc2] at h
      refine px_D_st 1 (ip1 := 36) (ls1 := [(0, .inr (.inr 5)), (1, .inl (x1)), (2, .inl (x2))]) (st1 := [.inl (x1)]) (h1 := (px_G1, s)) rfl ?_
      cases h
      exact px_D_iret rfl rfl ⟨rfl, rfl⟩
    · have hc2 : ¬ ((s 6 1) ≤ (x2)) := of_decide_eq_false hc
      rw [if_neg hc2] at h
      refine px_D_st 5 (ip1 := 17) (ls1 := [(0, .inr (.inr 5)), (1, .inl (x1)), (2, .inl (x2))]) (st1 := [.inl (x2), .inr (.inr 9)]) (h1 := (px_G1, s)) rfl ?_
      by_cases hc3 : 0 ≤ (x2) ∧ (x2) < 8
      case neg => rw [if_neg hc3] at h; cases h
      rw [if_pos hc3] at h
      refine px_D_iald (k := 4) (n := 8) rfl rfl hc3 ?_
      refine px_D_st 1 (ip1 := 19) (ls1 := [(0, .inr (.inr 5)), (1, .inl (x1)), (2, .inl (x2))]) (st1 := [.inl (1), .inl (s 9 x2.toNat)]) (h1 := (px_G1, s)) rfl ?_
      refine px_D_icmp rfl (fun hc => ?_) (fun hc => ?_)
      · have hc4 : ¬ ((s 9 x2.toNat) = (1)) := of_decide_eq_true hc
        rw [if_neg hc4] at h
        refine px_D_st 2 (ip1 := 7) (ls1 := [(2, .inl (px_wr (x2 + 1))), (0, .inr (.inr 5)), (1, .inl (x1))]) (st1 := []) (h1 := (px_G1, s)) rfl ?_
        refine px_D_ls [(0, .inr (.inr 5)), (1, .inl (x1)), (2, .inl (px_wr (x2 + 1)))] rfl rfl (List.forall_mem_cons.mpr ⟨rfl, List.forall_mem_cons.mpr ⟨rfl, List.forall_mem_cons.mpr ⟨rfl, fun _ h => absurd h List.not_mem_nil⟩⟩⟩) ?_
        exact ih _ _ _ h
      · have hc4 : (s 9 x2.toNat) = (1) := Decidable.of_not_not (of_decide_eq_false hc)
        rw [if_pos hc4] at h
        refine px_D_st 9 (ip1 := 29) (ls1 := [(0, .inr (.inr 5)), (1, .inl (x1)), (2, .inl (x2))]) (st1 := [.inl (x2), .inr (.inr 11), .inr (.inr 28), .inl (x1)]) (h1 := (px_G1, s)) rfl ?_
        by_cases hc5 : 0 ≤ (x2) ∧ (x2) < 8
        case neg => rw [if_neg hc5] at h; cases h
        rw [if_pos hc5] at h
        refine px_D_iald (k := 6) (n := 8) rfl rfl hc5 ?_
        refine px_D_call (as := [.inr (.inr 28), .inl (s 11 x2.toNat)]) (rest := [.inl (x1)]) rfl rfl rfl rfl ?_
        obtain ⟨q6, hq6, h⟩ := Option.bind_eq_some_iff.mp h
        refine px_D_mono (c_Hills_cavesBy (d := d + 1) hq6) ?_
        rintro _ _ ⟨rfl, rfl⟩
        show px_D sc (d + 2) 127 31 [(0, .inr (.inr 5)), (1, .inl (x1)), (2, .inl (x2))] [.inl (q6), .inl (x1)] (px_G1, s) _
        refine px_D_st 4 (ip1 := 7) (ls1 := [(2, .inl (px_wr (x2 + 1))), (1, .inl (px_and (x1) (q6))), (0, .inr (.inr 5))]) (st1 := []) (h1 := (px_G1, s)) rfl ?_
        refine px_D_ls [(0, .inr (.inr 5)), (1, .inl (px_and (x1) (q6))), (2, .inl (px_wr (x2 + 1)))] rfl rfl (List.forall_mem_cons.mpr ⟨rfl, List.forall_mem_cons.mpr ⟨rfl, List.forall_mem_cons.mpr ⟨rfl, fun _ h => absurd h List.not_mem_nil⟩⟩⟩) ?_
        exact ih _ _ _ h
def f_R_kept (s : px_Z) : Option (Int) := (f_Hills_caves s ).bind (fun q1 => l_R_kept_7 s  px_big q1 0)
set_option maxHeartbeats 4000000 in
set_option maxRecDepth 100000 in
theorem c_R_kept {sc : List Int} {d : Nat} {s : px_Z} {out : Int} (h : f_R_kept s  = some out) : px_D sc (d + 2) 127 0 [(0, .inr (.inr 5))] [] (px_G1, s) (px_Qp s out) := by
  unfold f_R_kept at h
  refine px_D_st 3 (ip1 := 3) (ls1 := [(0, .inr (.inr 5))]) (st1 := [.inr (.inr 28)]) (h1 := (px_G1, s)) rfl ?_
  refine px_D_call (as := [.inr (.inr 28)]) (rest := []) rfl rfl rfl rfl ?_
  obtain ⟨q1, hq1, h⟩ := Option.bind_eq_some_iff.mp h
  refine px_D_mono (c_Hills_caves (d := d + 0) hq1) ?_
  rintro _ _ ⟨rfl, rfl⟩
  show px_D sc (d + 2) 127 4 [(0, .inr (.inr 5))] [.inl (q1)] (px_G1, s) _
  refine px_D_st 3 (ip1 := 7) (ls1 := [(2, .inl (0)), (1, .inl (q1)), (0, .inr (.inr 5))]) (st1 := []) (h1 := (px_G1, s)) rfl ?_
  refine px_D_ls [(0, .inr (.inr 5)), (1, .inl (q1)), (2, .inl (0))] rfl rfl (List.forall_mem_cons.mpr ⟨rfl, List.forall_mem_cons.mpr ⟨rfl, List.forall_mem_cons.mpr ⟨rfl, fun _ h => absurd h List.not_mem_nil⟩⟩⟩) ?_
  refine cl_R_kept_7  px_big _ _ _ h

def f_Told_addLetter (s : px_Z) (x1 : Int) : Option (Int × px_Z) := if (s 38 0) < (8) then (if 0 ≤ (s 38 0) ∧ (s 38 0) < 8 then some ((px_wr (((px_up (px_up s 39 (s 38 0).toNat x1) 38 0 (px_wr (((px_up s 39 (s 38 0).toNat x1) 38 0) + 1))) 38 0) - 1), px_up (px_up s 39 (s 38 0).toNat x1) 38 0 (px_wr (((px_up s 39 (s 38 0).toNat x1) 38 0) + 1)))) else none) else some (((-1), s))
set_option maxHeartbeats 4000000 in
set_option maxRecDepth 100000 in
theorem c_Told_addLetter {sc : List Int} {d : Nat} {s : px_Z} {x1 : Int} {out : Int × px_Z} (h : f_Told_addLetter s x1 = some out) : px_D sc (d + 0) 68 0 [(0, .inr (.inr 38)), (1, .inl (x1))] [] (px_G1, s) (px_Qi out) := by
  unfold f_Told_addLetter at h
  refine px_D_st 3 (ip1 := 3) (ls1 := [(0, .inr (.inr 38)), (1, .inl (x1))]) (st1 := [.inl (8), .inl (s 38 0)]) (h1 := (px_G1, s)) rfl ?_
  refine px_D_icmp rfl (fun hc => ?_) (fun hc => ?_)
  · have hc1 : (s 38 0) < (8) := of_decide_eq_true hc
    rw [if_pos hc1] at h
    refine px_D_st 5 (ip1 := 11) (ls1 := [(0, .inr (.inr 38)), (1, .inl (x1))]) (st1 := [.inl (x1), .inl (s 38 0), .inr (.inr 39)]) (h1 := (px_G1, s)) rfl ?_
    by_cases hc2 : 0 ≤ (s 38 0) ∧ (s 38 0) < 8
    case neg => rw [if_neg hc2] at h; cases h
    rw [if_pos hc2] at h
    refine px_D_iast (k := 34) (n := 8) rfl rfl hc2 ?_
    refine px_D_st 10 (ip1 := 22) (ls1 := [(0, .inr (.inr 38)), (1, .inl (x1))]) (st1 := [.inl (px_wr (((px_up (px_up s 39 (s 38 0).toNat x1) 38 0 (px_wr (((px_up s 39 (s 38 0).toNat x1) 38 0) + 1))) 38 0) - 1))]) (h1 := (px_G1, px_up (px_up s 39 (s 38 0).toNat x1) 38 0 (px_wr (((px_up s 39 (s 38 0).toNat x1) 38 0) + 1)))) rfl ?_
    cases h
    exact px_D_iret rfl rfl ⟨rfl, rfl⟩
  · have hc1 : ¬ ((s 38 0) < (8)) := of_decide_eq_false hc
    rw [if_neg hc1] at h
    refine px_D_st 1 (ip1 := 5) (ls1 := [(0, .inr (.inr 38)), (1, .inl (x1))]) (st1 := [.inl ((-1))]) (h1 := (px_G1, s)) rfl ?_
    cases h
    exact px_D_iret rfl rfl ⟨rfl, rfl⟩

def f_R_letter (s : px_Z) (x1 : Int) : Option (Int × px_Z) := if (f_R_within s x1 0 (f_World_all s )) = (0) then some (((-1), s)) else (f_Told_addLetter s x1).bind (fun q2 => some (q2.1, q2.2))
set_option maxHeartbeats 4000000 in
set_option maxRecDepth 100000 in
theorem c_R_letter {sc : List Int} {d : Nat} {s : px_Z} {x1 : Int} {out : Int × px_Z} (h : f_R_letter s x1 = some out) : px_D sc (d + 1) 128 0 [(0, .inr (.inr 5)), (1, .inl (x1))] [] (px_G1, s) (px_Qi out) := by
  unfold f_R_letter at h
  refine px_D_st 4 (ip1 := 4) (ls1 := [(0, .inr (.inr 5)), (1, .inl (x1))]) (st1 := [.inr (.inr 6), .inl (0), .inl (x1)]) (h1 := (px_G1, s)) rfl ?_
  refine px_D_call (as := [.inr (.inr 6)]) (rest := [.inl (0), .inl (x1)]) rfl rfl rfl rfl ?_
  refine px_D_mono (c_World_all (d := d + 0) rfl) ?_
  rintro _ _ ⟨rfl, rfl⟩
  show px_D sc (d + 1) 128 5 [(0, .inr (.inr 5)), (1, .inl (x1))] [.inl (f_World_all s ), .inl (0), .inl (x1)] (px_G1, s) _
  refine px_D_call (as := [.inl (x1), .inl (0), .inl (f_World_all s )]) (rest := []) rfl rfl rfl rfl ?_
  refine px_D_mono (c_R_within (d := d + 0) rfl) ?_
  rintro _ _ ⟨rfl, rfl⟩
  show px_D sc (d + 1) 128 6 [(0, .inr (.inr 5)), (1, .inl (x1))] [.inl (f_R_within s x1 0 (f_World_all s ))] (px_G1, s) _
  refine px_D_ifc rfl (fun hc => ?_) (fun hc => ?_)
  · have hc1 : ¬ ((f_R_within s x1 0 (f_World_all s )) = (0)) := of_decide_eq_true hc
    rw [if_neg hc1] at h
    refine px_D_st 4 (ip1 := 13) (ls1 := [(0, .inr (.inr 5)), (1, .inl (x1))]) (st1 := [.inl (x1), .inr (.inr 38)]) (h1 := (px_G1, s)) rfl ?_
    refine px_D_call (as := [.inr (.inr 38), .inl (x1)]) (rest := []) rfl rfl rfl rfl ?_
    obtain ⟨q2, hq2, h⟩ := Option.bind_eq_some_iff.mp h
    refine px_D_mono (c_Told_addLetter (d := d + 0) hq2) ?_
    rintro _ _ ⟨rfl, rfl⟩
    show px_D sc (d + 1) 128 14 [(0, .inr (.inr 5)), (1, .inl (x1))] [.inl (q2.1)] (px_G1, q2.2) _
    cases h
    exact px_D_iret rfl rfl ⟨rfl, rfl⟩
  · have hc1 : (f_R_within s x1 0 (f_World_all s )) = (0) := Decidable.of_not_not (of_decide_eq_false hc)
    rw [if_pos hc1] at h
    refine px_D_st 1 (ip1 := 8) (ls1 := [(0, .inr (.inr 5)), (1, .inl (x1))]) (st1 := [.inl ((-1))]) (h1 := (px_G1, s)) rfl ?_
    cases h
    exact px_D_iret rfl rfl ⟨rfl, rfl⟩

def l_Told_letterOrders_12 (s : px_Z) (k51 : Int → Int → Int → Option (Int)) : Nat → Int → Int → Int → Int → Option (Int)
  | 0, _, _, _, _ => none
  | n + 1, x1, x2, x3, x4 => if (x2) ≤ (x4) then k51 x1 x2 x3 else (if 0 ≤ (x2) ∧ (x2) < 8 then if 0 ≤ (x4) ∧ (x4) < 8 then if 0 ≤ (x2) ∧ (x2) < 8 then if (px_and ((s 39 x2.toNat)) ((s 39 x4.toNat))) = (s 39 x2.toNat) then (if 0 ≤ (x2) ∧ (x2) < 8 then if 0 ≤ (x4) ∧ (x4) < 8 then if (s 39 x2.toNat) = (s 39 x4.toNat) then l_Told_letterOrders_12 s k51 n x1 x2 (px_wr (x3 + 1)) (px_wr (x4 + 1)) else l_Told_letterOrders_12 s k51 n x1 x2 x3 (px_wr (x4 + 1)) else none else none) else (if 0 ≤ (x4) ∧ (x4) < 8 then if (px_and ((s 39 x2.toNat)) ((s 39 x4.toNat))) = (s 39 x4.toNat) then (if 0 ≤ (x2) ∧ (x2) < 8 then if 0 ≤ (x4) ∧ (x4) < 8 then if (s 39 x2.toNat) = (s 39 x4.toNat) then l_Told_letterOrders_12 s k51 n x1 x2 (px_wr (x3 + 1)) (px_wr (x4 + 1)) else l_Told_letterOrders_12 s k51 n x1 x2 x3 (px_wr (x4 + 1)) else none else none) else some 0 else none) else none else none else none)
set_option maxHeartbeats 4000000 in
set_option maxRecDepth 100000 in
theorem cl_Told_letterOrders_12 {sc : List Int} {d : Nat} {s : px_Z} {k51 : Int → Int → Int → Option (Int)}  (hk51 : ∀ (y1 : Int) (y2 : Int) (y3 : Int) (out : Int), k51 y1 y2 y3 = some out → px_D sc (d + 0) 71 51 [(0, .inr (.inr 38)), (1, .inl (y1)), (2, .inl (y2)), (3, .inl (y3))] [] (px_G1, s) (px_Qp s out)) : ∀ (n : Nat) (x1 : Int) (x2 : Int) (x3 : Int) (x4 : Int) (out : Int), l_Told_letterOrders_12 s k51 n x1 x2 x3 x4 = some out → px_D sc (d + 0) 71 12 [(0, .inr (.inr 38)), (1, .inl (x1)), (2, .inl (x2)), (3, .inl (x3)), (4, .inl (x4))] [] (px_G1, s) (px_Qp s out) := by
  intro n
  induction n with
  | zero => intro x1 x2 x3 x4 out h; cases h
  | succ n ih =>
    intro x1 x2 x3 x4 out h
    rw [l_Told_letterOrders_12] at h
    refine px_D_st 2 (ip1 := 14) (ls1 := [(0, .inr (.inr 38)), (1, .inl (x1)), (2, .inl (x2)), (3, .inl (x3)), (4, .inl (x4))]) (st1 := [.inl (x2), .inl (x4)]) (h1 := (px_G1, s)) rfl ?_
    refine px_D_icmp rfl (fun hc => ?_) (fun hc => ?_)
    · have hc2 : (x2) ≤ (x4) := of_decide_eq_true hc
      rw [if_pos hc2] at h
      refine px_D_ls [(0, .inr (.inr 38)), (1, .inl (x1)), (2, .inl (x2)), (3, .inl (x3))] rfl rfl (List.forall_mem_cons.mpr ⟨rfl, List.forall_mem_cons.mpr ⟨rfl, List.forall_mem_cons.mpr ⟨rfl, List.forall_mem_cons.mpr ⟨rfl, fun _ h => absurd h List.not_mem_nil⟩⟩⟩⟩) ?_
      exact hk51 _ _ _ _ h
    · have hc2 : ¬ ((x2) ≤ (x4)) := of_decide_eq_false hc
      rw [if_neg hc2] at h
      refine px_D_st 3 (ip1 := 18) (ls1 := [(0, .inr (.inr 38)), (1, .inl (x1)), (2, .inl (x2)), (3, .inl (x3)), (4, .inl (x4))]) (st1 := [.inl (x2), .inr (.inr 39)]) (h1 := (px_G1, s)) rfl ?_
      by_cases hc3 : 0 ≤ (x2) ∧ (x2) < 8
      case neg => rw [if_neg hc3] at h; cases h
      rw [if_pos hc3] at h
      refine px_D_iald (k := 34) (n := 8) rfl rfl hc3 ?_
      refine px_D_st 3 (ip1 := 22) (ls1 := [(0, .inr (.inr 38)), (1, .inl (x1)), (2, .inl (x2)), (3, .inl (x3)), (4, .inl (x4))]) (st1 := [.inl (x4), .inr (.inr 39), .inl (s 39 x2.toNat)]) (h1 := (px_G1, s)) rfl ?_
      by_cases hc4 : 0 ≤ (x4) ∧ (x4) < 8
      case neg => rw [if_neg hc4] at h; cases h
      rw [if_pos hc4] at h
      refine px_D_iald (k := 34) (n := 8) rfl rfl hc4 ?_
      refine px_D_st 6 (ip1 := 29) (ls1 := [(5, .inl (px_and ((s 39 x2.toNat)) ((s 39 x4.toNat)))), (0, .inr (.inr 38)), (1, .inl (x1)), (2, .inl (x2)), (3, .inl (x3)), (4, .inl (x4))]) (st1 := [.inl (x2), .inr (.inr 39), .inl (px_and ((s 39 x2.toNat)) ((s 39 x4.toNat)))]) (h1 := (px_G1, s)) rfl ?_
      by_cases hc5 : 0 ≤ (x2) ∧ (x2) < 8
      case neg => rw [if_neg hc5] at h; cases h
      rw [if_pos hc5] at h
      refine px_D_iald (k := 34) (n := 8) rfl rfl hc5 ?_
      refine px_D_icmp rfl (fun hc => ?_) (fun hc => ?_)
      · have hc6 : (px_and ((s 39 x2.toNat)) ((s 39 x4.toNat))) = (s 39 x2.toNat) := of_decide_eq_true hc
        rw [if_pos hc6] at h
        refine px_D_st 3 (ip1 := 42) (ls1 := [(5, .inl (px_and ((s 39 x2.toNat)) ((s 39 x4.toNat)))), (0, .inr (.inr 38)), (1, .inl (x1)), (2, .inl (x2)), (3, .inl (x3)), (4, .inl (x4))]) (st1 := [.inl (x2), .inr (.inr 39)]) (h1 := (px_G1, s)) rfl ?_
        by_cases hc7 : 0 ≤ (x2) ∧ (x2) < 8
        case neg => rw [if_neg hc7] at h; cases h
        rw [if_pos hc7] at h
        refine px_D_iald (k := 34) (n := 8) rfl rfl hc7 ?_
        refine px_D_st 3 (ip1 := 46) (ls1 := [(5, .inl (px_and ((s 39 x2.toNat)) ((s 39 x4.toNat)))), (0, .inr (.inr 38)), (1, .inl (x1)), (2, .inl (x2)), (3, .inl (x3)), (4, .inl (x4))]) (st1 := [.inl (x4), .inr (.inr 39), .inl (s 39 x2.toNat)]) (h1 := (px_G1, s)) rfl ?_
        by_cases hc8 : 0 ≤ (x4) ∧ (x4) < 8
        case neg => rw [if_neg hc8] at h; cases h
        rw [if_pos hc8] at h
        refine px_D_iald (k := 34) (n := 8) rfl rfl hc8 ?_
        refine px_D_icmp rfl (fun hc => ?_) (fun hc => ?_)
        · have hc9 : ¬ ((s 39 x2.toNat) = (s 39 x4.toNat)) := of_decide_eq_true hc
          rw [if_neg hc9] at h
          refine px_D_st 2 (ip1 := 12) (ls1 := [(4, .inl (px_wr (x4 + 1))), (5, .inl (px_and ((s 39 x2.toNat)) ((s 39 x4.toNat)))), (0, .inr (.inr 38)), (1, .inl (x1)), (2, .inl (x2)), (3, .inl (x3))]) (st1 := []) (h1 := (px_G1, s)) rfl ?_
          refine px_D_ls [(0, .inr (.inr 38)), (1, .inl (x1)), (2, .inl (x2)), (3, .inl (x3)), (4, .inl (px_wr (x4 + 1)))] rfl rfl (List.forall_mem_cons.mpr ⟨rfl, List.forall_mem_cons.mpr ⟨rfl, List.forall_mem_cons.mpr ⟨rfl, List.forall_mem_cons.mpr ⟨rfl, List.forall_mem_cons.mpr ⟨rfl, fun _ h => absurd h List.not_mem_nil⟩⟩⟩⟩⟩) ?_
          exact ih _ _ _ _ _ h
        · have hc9 : (s 39 x2.toNat) = (s 39 x4.toNat) := Decidable.of_not_not (of_decide_eq_false hc)
          rw [if_pos hc9] at h
          refine px_D_st 3 (ip1 := 12) (ls1 := [(4, .inl (px_wr (x4 + 1))), (3, .inl (px_wr (x3 + 1))), (5, .inl (px_and ((s 39 x2.toNat)) ((s 39 x4.toNat)))), (0, .inr (.inr 38)), (1, .inl (x1)), (2, .inl (x2))]) (st1 := []) (h1 := (px_G1, s)) rfl ?_
          refine px_D_ls [(0, .inr (.inr 38)), (1, .inl (x1)), (2, .inl (x2)), (3, .inl (px_wr (x3 + 1))), (4, .inl (px_wr (x4 + 1)))] rfl rfl (List.forall_mem_cons.mpr ⟨rfl, List.forall_mem_cons.mpr ⟨rfl, List.forall_mem_cons.mpr ⟨rfl, List.forall_mem_cons.mpr ⟨rfl, List.forall_mem_cons.mpr ⟨rfl, fun _ h => absurd h List.not_mem_nil⟩⟩⟩⟩⟩) ?_
          exact ih _ _ _ _ _ h
      · have hc6 : ¬ ((px_and ((s 39 x2.toNat)) ((s 39 x4.toNat))) = (s 39 x2.toNat)) := of_decide_eq_false hc
        rw [if_neg hc6] at h
        refine px_D_st 4 (ip1 := 35) (ls1 := [(5, .inl (px_and ((s 39 x2.toNat)) ((s 39 x4.toNat)))), (0, .inr (.inr 38)), (1, .inl (x1)), (2, .inl (x2)), (3, .inl (x3)), (4, .inl (x4))]) (st1 := [.inl (x4), .inr (.inr 39), .inl (px_and ((s 39 x2.toNat)) ((s 39 x4.toNat)))]) (h1 := (px_G1, s)) rfl ?_
        by_cases hc10 : 0 ≤ (x4) ∧ (x4) < 8
        case neg => rw [if_neg hc10] at h; cases h
        rw [if_pos hc10] at h
        refine px_D_iald (k := 34) (n := 8) rfl rfl hc10 ?_
        refine px_D_icmp rfl (fun hc => ?_) (fun hc => ?_)
        · have hc11 : (px_and ((s 39 x2.toNat)) ((s 39 x4.toNat))) = (s 39 x4.toNat) := of_decide_eq_true hc
          rw [if_pos hc11] at h
          refine px_D_st 3 (ip1 := 42) (ls1 := [(5, .inl (px_and ((s 39 x2.toNat)) ((s 39 x4.toNat)))), (0, .inr (.inr 38)), (1, .inl (x1)), (2, .inl (x2)), (3, .inl (x3)), (4, .inl (x4))]) (st1 := [.inl (x2), .inr (.inr 39)]) (h1 := (px_G1, s)) rfl ?_
          by_cases hc12 : 0 ≤ (x2) ∧ (x2) < 8
          case neg => rw [if_neg hc12] at h; cases h
          rw [if_pos hc12] at h
          refine px_D_iald (k := 34) (n := 8) rfl rfl hc12 ?_
          refine px_D_st 3 (ip1 := 46) (ls1 := [(5, .inl (px_and ((s 39 x2.toNat)) ((s 39 x4.toNat)))), (0, .inr (.inr 38)), (1, .inl (x1)), (2, .inl (x2)), (3, .inl (x3)), (4, .inl (x4))]) (st1 := [.inl (x4), .inr (.inr 39), .inl (s 39 x2.toNat)]) (h1 := (px_G1, s)) rfl ?_
          by_cases hc13 : 0 ≤ (x4) ∧ (x4) < 8
          case neg => rw [if_neg hc13] at h; cases h
          rw [if_pos hc13] at h
          refine px_D_iald (k := 34) (n := 8) rfl rfl hc13 ?_
          refine px_D_icmp rfl (fun hc => ?_) (fun hc => ?_)
          · have hc14 : ¬ ((s 39 x2.toNat) = (s 39 x4.toNat)) := of_decide_eq_true hc
            rw [if_neg hc14] at h
            refine px_D_st 2 (ip1 := 12) (ls1 := [(4, .inl (px_wr (x4 + 1))), (5, .inl (px_and ((s 39 x2.toNat)) ((s 39 x4.toNat)))), (0, .inr (.inr 38)), (1, .inl (x1)), (2, .inl (x2)), (3, .inl (x3))]) (st1 := []) (h1 := (px_G1, s)) rfl ?_
            refine px_D_ls [(0, .inr (.inr 38)), (1, .inl (x1)), (2, .inl (x2)), (3, .inl (x3)), (4, .inl (px_wr (x4 + 1)))] rfl rfl (List.forall_mem_cons.mpr ⟨rfl, List.forall_mem_cons.mpr ⟨rfl, List.forall_mem_cons.mpr ⟨rfl, List.forall_mem_cons.mpr ⟨rfl, List.forall_mem_cons.mpr ⟨rfl, fun _ h => absurd h List.not_mem_nil⟩⟩⟩⟩⟩) ?_
            exact ih _ _ _ _ _ h
          · have hc14 : (s 39 x2.toNat) = (s 39 x4.toNat) := Decidable.of_not_not (of_decide_eq_false hc)
            rw [if_pos hc14] at h
            refine px_D_st 3 (ip1 := 12) (ls1 := [(4, .inl (px_wr (x4 + 1))), (3, .inl (px_wr (x3 + 1))), (5, .inl (px_and ((s 39 x2.toNat)) ((s 39 x4.toNat)))), (0, .inr (.inr 38)), (1, .inl (x1)), (2, .inl (x2))]) (st1 := []) (h1 := (px_G1, s)) rfl ?_
            refine px_D_ls [(0, .inr (.inr 38)), (1, .inl (x1)), (2, .inl (x2)), (3, .inl (px_wr (x3 + 1))), (4, .inl (px_wr (x4 + 1)))] rfl rfl (List.forall_mem_cons.mpr ⟨rfl, List.forall_mem_cons.mpr ⟨rfl, List.forall_mem_cons.mpr ⟨rfl, List.forall_mem_cons.mpr ⟨rfl, List.forall_mem_cons.mpr ⟨rfl, fun _ h => absurd h List.not_mem_nil⟩⟩⟩⟩⟩) ?_
            exact ih _ _ _ _ _ h
        · have hc11 : ¬ ((px_and ((s 39 x2.toNat)) ((s 39 x4.toNat))) = (s 39 x4.toNat)) := of_decide_eq_false hc
          rw [if_neg hc11] at h
          refine px_D_st 1 (ip1 := 38) (ls1 := [(5, .inl (px_and ((s 39 x2.toNat)) ((s 39 x4.toNat)))), (0, .inr (.inr 38)), (1, .inl (x1)), (2, .inl (x2)), (3, .inl (x3)), (4, .inl (x4))]) (st1 := [.inl (0)]) (h1 := (px_G1, s)) rfl ?_
          cases h
          exact px_D_iret rfl rfl ⟨rfl, rfl⟩
def l_Told_letterOrders_4 (s : px_Z)  : Nat → Int → Int → Option (Int)
  | 0, _, _ => none
  | n + 1, x1, x2 => if (s 38 0) ≤ (x2) then some x1 else l_Told_letterOrders_12 s (fun x1 x2 x3 => l_Told_letterOrders_4 s  n (px_wr (x1 * x3)) (px_wr (x2 + 1))) px_big x1 x2 1 0
set_option maxHeartbeats 4000000 in
set_option maxRecDepth 100000 in
theorem cl_Told_letterOrders_4 {sc : List Int} {d : Nat} {s : px_Z}  : ∀ (n : Nat) (x1 : Int) (x2 : Int) (out : Int), l_Told_letterOrders_4 s  n x1 x2 = some out → px_D sc (d + 0) 71 4 [(0, .inr (.inr 38)), (1, .inl (x1)), (2, .inl (x2))] [] (px_G1, s) (px_Qp s out) := by
  intro n
  induction n with
  | zero => intro x1 x2 out h; cases h
  | succ n ih =>
    intro x1 x2 out h
    rw [l_Told_letterOrders_4] at h
    refine px_D_st 3 (ip1 := 7) (ls1 := [(0, .inr (.inr 38)), (1, .inl (x1)), (2, .inl (x2))]) (st1 := [.inl (s 38 0), .inl (x2)]) (h1 := (px_G1, s)) rfl ?_
    refine px_D_icmp rfl (fun hc => ?_) (fun hc => ?_)
    · have hc1 : (s 38 0) ≤ (x2) := of_decide_eq_true hc
      rw [if_pos hc1] at h
      refine px_D_st 1 (ip1 := 58) (ls1 := [(0, .inr (.inr 38)), (1, .inl (x1)), (2, .inl (x2))]) (st1 := [.inl (x1)]) (h1 := (px_G1, s)) rfl ?_
      cases h
      exact px_D_iret rfl rfl ⟨rfl, rfl⟩
    · have hc1 : ¬ ((s 38 0) ≤ (x2)) := of_decide_eq_false hc
      rw [if_neg hc1] at h
      refine px_D_st 4 (ip1 := 12) (ls1 := [(4, .inl (0)), (3, .inl (1)), (0, .inr (.inr 38)), (1, .inl (x1)), (2, .inl (x2))]) (st1 := []) (h1 := (px_G1, s)) rfl ?_
      refine px_D_ls [(0, .inr (.inr 38)), (1, .inl (x1)), (2, .inl (x2)), (3, .inl (1)), (4, .inl (0))] rfl rfl (List.forall_mem_cons.mpr ⟨rfl, List.forall_mem_cons.mpr ⟨rfl, List.forall_mem_cons.mpr ⟨rfl, List.forall_mem_cons.mpr ⟨rfl, List.forall_mem_cons.mpr ⟨rfl, fun _ h => absurd h List.not_mem_nil⟩⟩⟩⟩⟩) ?_
      refine cl_Told_letterOrders_12 ?_ px_big _ _ _ _ _ h
      · intro x1 x2 x3 out h
        refine px_D_st 6 (ip1 := 4) (ls1 := [(2, .inl (px_wr (x2 + 1))), (1, .inl (px_wr (x1 * x3))), (0, .inr (.inr 38)), (3, .inl (x3))]) (st1 := []) (h1 := (px_G1, s)) rfl ?_
        refine px_D_ls [(0, .inr (.inr 38)), (1, .inl (px_wr (x1 * x3))), (2, .inl (px_wr (x2 + 1)))] rfl rfl (List.forall_mem_cons.mpr ⟨rfl, List.forall_mem_cons.mpr ⟨rfl, List.forall_mem_cons.mpr ⟨rfl, fun _ h => absurd h List.not_mem_nil⟩⟩⟩) ?_
        exact ih _ _ _ h
def f_Told_letterOrders (s : px_Z) : Option (Int) := l_Told_letterOrders_4 s  px_big 1 0
set_option maxHeartbeats 4000000 in
set_option maxRecDepth 100000 in
theorem c_Told_letterOrders {sc : List Int} {d : Nat} {s : px_Z} {out : Int} (h : f_Told_letterOrders s  = some out) : px_D sc (d + 0) 71 0 [(0, .inr (.inr 38))] [] (px_G1, s) (px_Qp s out) := by
  unfold f_Told_letterOrders at h
  refine px_D_st 4 (ip1 := 4) (ls1 := [(2, .inl (0)), (1, .inl (1)), (0, .inr (.inr 38))]) (st1 := []) (h1 := (px_G1, s)) rfl ?_
  refine px_D_ls [(0, .inr (.inr 38)), (1, .inl (1)), (2, .inl (0))] rfl rfl (List.forall_mem_cons.mpr ⟨rfl, List.forall_mem_cons.mpr ⟨rfl, List.forall_mem_cons.mpr ⟨rfl, fun _ h => absurd h List.not_mem_nil⟩⟩⟩) ?_
  refine cl_Told_letterOrders_4  px_big _ _ _ h

def l_Told_letterAt_10 (s : px_Z) (k36 : Int → Int → Int → Option (Int)) : Nat → Int → Int → Int → Int → Option (Int)
  | 0, _, _, _, _ => none
  | n + 1, x1, x2, x3, x4 => if (s 38 0) ≤ (x4) then k36 x1 x2 x3 else (if 0 ≤ (x4) ∧ (x4) < 8 then if 0 ≤ (x2) ∧ (x2) < 8 then if (0) < (px_wr ((f_Integer_bitCount s (s 39 x4.toNat)) - (f_Integer_bitCount s (s 39 x2.toNat)))) then l_Told_letterAt_10 s k36 n x1 x2 (px_wr (x3 + 1)) (px_wr (x4 + 1)) else (if (px_wr ((f_Integer_bitCount s (s 39 x4.toNat)) - (f_Integer_bitCount s (s 39 x2.toNat)))) = (0) then (if (x2) ≤ (x4) then l_Told_letterAt_10 s k36 n x1 x2 x3 (px_wr (x4 + 1)) else l_Told_letterAt_10 s k36 n x1 x2 (px_wr (x3 + 1)) (px_wr (x4 + 1))) else l_Told_letterAt_10 s k36 n x1 x2 x3 (px_wr (x4 + 1))) else none else none)
set_option maxHeartbeats 4000000 in
set_option maxRecDepth 100000 in
theorem cl_Told_letterAt_10 {sc : List Int} {d : Nat} {s : px_Z} {k36 : Int → Int → Int → Option (Int)}  (hk36 : ∀ (y1 : Int) (y2 : Int) (y3 : Int) (out : Int), k36 y1 y2 y3 = some out → px_D sc (d + 1) 72 36 [(0, .inr (.inr 38)), (1, .inl (y1)), (2, .inl (y2)), (3, .inl (y3))] [] (px_G1, s) (px_Qp s out)) : ∀ (n : Nat) (x1 : Int) (x2 : Int) (x3 : Int) (x4 : Int) (out : Int), l_Told_letterAt_10 s k36 n x1 x2 x3 x4 = some out → px_D sc (d + 1) 72 10 [(0, .inr (.inr 38)), (1, .inl (x1)), (2, .inl (x2)), (3, .inl (x3)), (4, .inl (x4))] [] (px_G1, s) (px_Qp s out) := by
  intro n
  induction n with
  | zero => intro x1 x2 x3 x4 out h; cases h
  | succ n ih =>
    intro x1 x2 x3 x4 out h
    rw [l_Told_letterAt_10] at h
    refine px_D_st 3 (ip1 := 13) (ls1 := [(0, .inr (.inr 38)), (1, .inl (x1)), (2, .inl (x2)), (3, .inl (x3)), (4, .inl (x4))]) (st1 := [.inl (s 38 0), .inl (x4)]) (h1 := (px_G1, s)) rfl ?_
    refine px_D_icmp rfl (fun hc => ?_) (fun hc => ?_)
    · have hc2 : (s 38 0) ≤ (x4) := of_decide_eq_true hc
      rw [if_pos hc2] at h
      refine px_D_ls [(0, .inr (.inr 38)), (1, .inl (x1)), (2, .inl (x2)), (3, .inl (x3))] rfl rfl (List.forall_mem_cons.mpr ⟨rfl, List.forall_mem_cons.mpr ⟨rfl, List.forall_mem_cons.mpr ⟨rfl, List.forall_mem_cons.mpr ⟨rfl, fun _ h => absurd h List.not_mem_nil⟩⟩⟩⟩) ?_
      exact hk36 _ _ _ _ h
    · have hc2 : ¬ ((s 38 0) ≤ (x4)) := of_decide_eq_false hc
      rw [if_neg hc2] at h
      refine px_D_st 3 (ip1 := 17) (ls1 := [(0, .inr (.inr 38)), (1, .inl (x1)), (2, .inl (x2)), (3, .inl (x3)), (4, .inl (x4))]) (st1 := [.inl (x4), .inr (.inr 39)]) (h1 := (px_G1, s)) rfl ?_
      by_cases hc3 : 0 ≤ (x4) ∧ (x4) < 8
      case neg => rw [if_neg hc3] at h; cases h
      rw [if_pos hc3] at h
      refine px_D_iald (k := 34) (n := 8) rfl rfl hc3 ?_
      refine px_D_call (as := [.inl (s 39 x4.toNat)]) (rest := []) rfl rfl rfl rfl ?_
      refine px_D_mono (c_Integer_bitCount (d := d + 0) rfl) ?_
      rintro _ _ ⟨rfl, rfl⟩
      show px_D sc (d + 1) 72 19 [(0, .inr (.inr 38)), (1, .inl (x1)), (2, .inl (x2)), (3, .inl (x3)), (4, .inl (x4))] [.inl (f_Integer_bitCount s (s 39 x4.toNat))] (px_G1, s) _
      refine px_D_st 3 (ip1 := 22) (ls1 := [(0, .inr (.inr 38)), (1, .inl (x1)), (2, .inl (x2)), (3, .inl (x3)), (4, .inl (x4))]) (st1 := [.inl (x2), .inr (.inr 39), .inl (f_Integer_bitCount s (s 39 x4.toNat))]) (h1 := (px_G1, s)) rfl ?_
      by_cases hc4 : 0 ≤ (x2) ∧ (x2) < 8
      case neg => rw [if_neg hc4] at h; cases h
      rw [if_pos hc4] at h
      refine px_D_iald (k := 34) (n := 8) rfl rfl hc4 ?_
      refine px_D_call (as := [.inl (s 39 x2.toNat)]) (rest := [.inl (f_Integer_bitCount s (s 39 x4.toNat))]) rfl rfl rfl rfl ?_
      refine px_D_mono (c_Integer_bitCount (d := d + 0) rfl) ?_
      rintro _ _ ⟨rfl, rfl⟩
      show px_D sc (d + 1) 72 24 [(0, .inr (.inr 38)), (1, .inl (x1)), (2, .inl (x2)), (3, .inl (x3)), (4, .inl (x4))] [.inl (f_Integer_bitCount s (s 39 x2.toNat)), .inl (f_Integer_bitCount s (s 39 x4.toNat))] (px_G1, s) _
      refine px_D_st 3 (ip1 := 27) (ls1 := [(5, .inl (px_wr ((f_Integer_bitCount s (s 39 x4.toNat)) - (f_Integer_bitCount s (s 39 x2.toNat))))), (0, .inr (.inr 38)), (1, .inl (x1)), (2, .inl (x2)), (3, .inl (x3)), (4, .inl (x4))]) (st1 := [.inl (px_wr ((f_Integer_bitCount s (s 39 x4.toNat)) - (f_Integer_bitCount s (s 39 x2.toNat))))]) (h1 := (px_G1, s)) rfl ?_
      refine px_D_ifc rfl (fun hc => ?_) (fun hc => ?_)
      · have hc5 : (0) < (px_wr ((f_Integer_bitCount s (s 39 x4.toNat)) - (f_Integer_bitCount s (s 39 x2.toNat)))) := of_decide_eq_true hc
        rw [if_pos hc5] at h
        refine px_D_st 3 (ip1 := 10) (ls1 := [(4, .inl (px_wr (x4 + 1))), (3, .inl (px_wr (x3 + 1))), (5, .inl (px_wr ((f_Integer_bitCount s (s 39 x4.toNat)) - (f_Integer_bitCount s (s 39 x2.toNat))))), (0, .inr (.inr 38)), (1, .inl (x1)), (2, .inl (x2))]) (st1 := []) (h1 := (px_G1, s)) rfl ?_
        refine px_D_ls [(0, .inr (.inr 38)), (1, .inl (x1)), (2, .inl (x2)), (3, .inl (px_wr (x3 + 1))), (4, .inl (px_wr (x4 + 1)))] rfl rfl (List.forall_mem_cons.mpr ⟨rfl, List.forall_mem_cons.mpr ⟨rfl, List.forall_mem_cons.mpr ⟨rfl, List.forall_mem_cons.mpr ⟨rfl, List.forall_mem_cons.mpr ⟨rfl, fun _ h => absurd h List.not_mem_nil⟩⟩⟩⟩⟩) ?_
        exact ih _ _ _ _ _ h
      · have hc5 : ¬ ((0) < (px_wr ((f_Integer_bitCount s (s 39 x4.toNat)) - (f_Integer_bitCount s (s 39 x2.toNat))))) := of_decide_eq_false hc
        rw [if_neg hc5] at h
        refine px_D_st 1 (ip1 := 29) (ls1 := [(5, .inl (px_wr ((f_Integer_bitCount s (s 39 x4.toNat)) - (f_Integer_bitCount s (s 39 x2.toNat))))), (0, .inr (.inr 38)), (1, .inl (x1)), (2, .inl (x2)), (3, .inl (x3)), (4, .inl (x4))]) (st1 := [.inl (px_wr ((f_Integer_bitCount s (s 39 x4.toNat)) - (f_Integer_bitCount s (s 39 x2.toNat))))]) (h1 := (px_G1, s)) rfl ?_
        refine px_D_ifc rfl (fun hc => ?_) (fun hc => ?_)
        · have hc6 : ¬ ((px_wr ((f_Integer_bitCount s (s 39 x4.toNat)) - (f_Integer_bitCount s (s 39 x2.toNat)))) = (0)) := of_decide_eq_true hc
          rw [if_neg hc6] at h
          refine px_D_st 2 (ip1 := 10) (ls1 := [(4, .inl (px_wr (x4 + 1))), (5, .inl (px_wr ((f_Integer_bitCount s (s 39 x4.toNat)) - (f_Integer_bitCount s (s 39 x2.toNat))))), (0, .inr (.inr 38)), (1, .inl (x1)), (2, .inl (x2)), (3, .inl (x3))]) (st1 := []) (h1 := (px_G1, s)) rfl ?_
          refine px_D_ls [(0, .inr (.inr 38)), (1, .inl (x1)), (2, .inl (x2)), (3, .inl (x3)), (4, .inl (px_wr (x4 + 1)))] rfl rfl (List.forall_mem_cons.mpr ⟨rfl, List.forall_mem_cons.mpr ⟨rfl, List.forall_mem_cons.mpr ⟨rfl, List.forall_mem_cons.mpr ⟨rfl, List.forall_mem_cons.mpr ⟨rfl, fun _ h => absurd h List.not_mem_nil⟩⟩⟩⟩⟩) ?_
          exact ih _ _ _ _ _ h
        · have hc6 : (px_wr ((f_Integer_bitCount s (s 39 x4.toNat)) - (f_Integer_bitCount s (s 39 x2.toNat)))) = (0) := Decidable.of_not_not (of_decide_eq_false hc)
          rw [if_pos hc6] at h
          refine px_D_st 2 (ip1 := 32) (ls1 := [(5, .inl (px_wr ((f_Integer_bitCount s (s 39 x4.toNat)) - (f_Integer_bitCount s (s 39 x2.toNat))))), (0, .inr (.inr 38)), (1, .inl (x1)), (2, .inl (x2)), (3, .inl (x3)), (4, .inl (x4))]) (st1 := [.inl (x2), .inl (x4)]) (h1 := (px_G1, s)) rfl ?_
          refine px_D_icmp rfl (fun hc => ?_) (fun hc => ?_)
          · have hc7 : (x2) ≤ (x4) := of_decide_eq_true hc
            rw [if_pos hc7] at h
            refine px_D_st 2 (ip1 := 10) (ls1 := [(4, .inl (px_wr (x4 + 1))), (5, .inl (px_wr ((f_Integer_bitCount s (s 39 x4.toNat)) - (f_Integer_bitCount s (s 39 x2.toNat))))), (0, .inr (.inr 38)), (1, .inl (x1)), (2, .inl (x2)), (3, .inl (x3))]) (st1 := []) (h1 := (px_G1, s)) rfl ?_
            refine px_D_ls [(0, .inr (.inr 38)), (1, .inl (x1)), (2, .inl (x2)), (3, .inl (x3)), (4, .inl (px_wr (x4 + 1)))] rfl rfl (List.forall_mem_cons.mpr ⟨rfl, List.forall_mem_cons.mpr ⟨rfl, List.forall_mem_cons.mpr ⟨rfl, List.forall_mem_cons.mpr ⟨rfl, List.forall_mem_cons.mpr ⟨rfl, fun _ h => absurd h List.not_mem_nil⟩⟩⟩⟩⟩) ?_
            exact ih _ _ _ _ _ h
          · have hc7 : ¬ ((x2) ≤ (x4)) := of_decide_eq_false hc
            rw [if_neg hc7] at h
            refine px_D_st 3 (ip1 := 10) (ls1 := [(4, .inl (px_wr (x4 + 1))), (3, .inl (px_wr (x3 + 1))), (5, .inl (px_wr ((f_Integer_bitCount s (s 39 x4.toNat)) - (f_Integer_bitCount s (s 39 x2.toNat))))), (0, .inr (.inr 38)), (1, .inl (x1)), (2, .inl (x2))]) (st1 := []) (h1 := (px_G1, s)) rfl ?_
            refine px_D_ls [(0, .inr (.inr 38)), (1, .inl (x1)), (2, .inl (x2)), (3, .inl (px_wr (x3 + 1))), (4, .inl (px_wr (x4 + 1)))] rfl rfl (List.forall_mem_cons.mpr ⟨rfl, List.forall_mem_cons.mpr ⟨rfl, List.forall_mem_cons.mpr ⟨rfl, List.forall_mem_cons.mpr ⟨rfl, List.forall_mem_cons.mpr ⟨rfl, fun _ h => absurd h List.not_mem_nil⟩⟩⟩⟩⟩) ?_
            exact ih _ _ _ _ _ h
def l_Told_letterAt_2 (s : px_Z)  : Nat → Int → Int → Option (Int)
  | 0, _, _ => none
  | n + 1, x1, x2 => if (s 38 0) ≤ (x2) then some (-1) else l_Told_letterAt_10 s (fun x1 x2 x3 => if (x3) = (x1) then some x2 else l_Told_letterAt_2 s  n x1 (px_wr (x2 + 1))) px_big x1 x2 0 0
set_option maxHeartbeats 4000000 in
set_option maxRecDepth 100000 in
theorem cl_Told_letterAt_2 {sc : List Int} {d : Nat} {s : px_Z}  : ∀ (n : Nat) (x1 : Int) (x2 : Int) (out : Int), l_Told_letterAt_2 s  n x1 x2 = some out → px_D sc (d + 1) 72 2 [(0, .inr (.inr 38)), (1, .inl (x1)), (2, .inl (x2))] [] (px_G1, s) (px_Qp s out) := by
  intro n
  induction n with
  | zero => intro x1 x2 out h; cases h
  | succ n ih =>
    intro x1 x2 out h
    rw [l_Told_letterAt_2] at h
    refine px_D_st 3 (ip1 := 5) (ls1 := [(0, .inr (.inr 38)), (1, .inl (x1)), (2, .inl (x2))]) (st1 := [.inl (s 38 0), .inl (x2)]) (h1 := (px_G1, s)) rfl ?_
    refine px_D_icmp rfl (fun hc => ?_) (fun hc => ?_)
    · have hc1 : (s 38 0) ≤ (x2) := of_decide_eq_true hc
      rw [if_pos hc1] at h
      refine px_D_st 1 (ip1 := 44) (ls1 := [(0, .inr (.inr 38)), (1, .inl (x1)), (2, .inl (x2))]) (st1 := [.inl ((-1))]) (h1 := (px_G1, s)) rfl ?_
      cases h
      exact px_D_iret rfl rfl ⟨rfl, rfl⟩
    · have hc1 : ¬ ((s 38 0) ≤ (x2)) := of_decide_eq_false hc
      rw [if_neg hc1] at h
      refine px_D_st 4 (ip1 := 10) (ls1 := [(4, .inl (0)), (3, .inl (0)), (0, .inr (.inr 38)), (1, .inl (x1)), (2, .inl (x2))]) (st1 := []) (h1 := (px_G1, s)) rfl ?_
      refine px_D_ls [(0, .inr (.inr 38)), (1, .inl (x1)), (2, .inl (x2)), (3, .inl (0)), (4, .inl (0))] rfl rfl (List.forall_mem_cons.mpr ⟨rfl, List.forall_mem_cons.mpr ⟨rfl, List.forall_mem_cons.mpr ⟨rfl, List.forall_mem_cons.mpr ⟨rfl, List.forall_mem_cons.mpr ⟨rfl, fun _ h => absurd h List.not_mem_nil⟩⟩⟩⟩⟩) ?_
      refine cl_Told_letterAt_10 ?_ px_big _ _ _ _ _ h
      · intro x1 x2 x3 out h
        refine px_D_st 2 (ip1 := 38) (ls1 := [(0, .inr (.inr 38)), (1, .inl (x1)), (2, .inl (x2)), (3, .inl (x3))]) (st1 := [.inl (x1), .inl (x3)]) (h1 := (px_G1, s)) rfl ?_
        refine px_D_icmp rfl (fun hc => ?_) (fun hc => ?_)
        · have hc8 : ¬ ((x3) = (x1)) := of_decide_eq_true hc
          rw [if_neg hc8] at h
          refine px_D_st 2 (ip1 := 2) (ls1 := [(2, .inl (px_wr (x2 + 1))), (0, .inr (.inr 38)), (1, .inl (x1)), (3, .inl (x3))]) (st1 := []) (h1 := (px_G1, s)) rfl ?_
          refine px_D_ls [(0, .inr (.inr 38)), (1, .inl (x1)), (2, .inl (px_wr (x2 + 1)))] rfl rfl (List.forall_mem_cons.mpr ⟨rfl, List.forall_mem_cons.mpr ⟨rfl, List.forall_mem_cons.mpr ⟨rfl, fun _ h => absurd h List.not_mem_nil⟩⟩⟩) ?_
          exact ih _ _ _ h
        · have hc8 : (x3) = (x1) := Decidable.of_not_not (of_decide_eq_false hc)
          rw [if_pos hc8] at h
          refine px_D_st 1 (ip1 := 40) (ls1 := [(0, .inr (.inr 38)), (1, .inl (x1)), (2, .inl (x2)), (3, .inl (x3))]) (st1 := [.inl (x2)]) (h1 := (px_G1, s)) rfl ?_
          cases h
          exact px_D_iret rfl rfl ⟨rfl, rfl⟩
def f_Told_letterAt (s : px_Z) (x1 : Int) : Option (Int) := l_Told_letterAt_2 s  px_big x1 0
set_option maxHeartbeats 4000000 in
set_option maxRecDepth 100000 in
theorem c_Told_letterAt {sc : List Int} {d : Nat} {s : px_Z} {x1 : Int} {out : Int} (h : f_Told_letterAt s x1 = some out) : px_D sc (d + 1) 72 0 [(0, .inr (.inr 38)), (1, .inl (x1))] [] (px_G1, s) (px_Qp s out) := by
  unfold f_Told_letterAt at h
  refine px_D_st 2 (ip1 := 2) (ls1 := [(2, .inl (0)), (0, .inr (.inr 38)), (1, .inl (x1))]) (st1 := []) (h1 := (px_G1, s)) rfl ?_
  refine px_D_ls [(0, .inr (.inr 38)), (1, .inl (x1)), (2, .inl (0))] rfl rfl (List.forall_mem_cons.mpr ⟨rfl, List.forall_mem_cons.mpr ⟨rfl, List.forall_mem_cons.mpr ⟨rfl, fun _ h => absurd h List.not_mem_nil⟩⟩⟩) ?_
  refine cl_Told_letterAt_2  px_big _ _ _ h

def f_R_letters (s : px_Z) (x1 : Int) : Option (Int) := (f_Told_letterOrders s ).bind (fun q1 => if (x1) = (0) then some q1 else (if (x1) < (10) then some (-1) else (if (q1) = (0) then some (-1) else (f_Told_letterAt s (px_wr (x1 - 10))).bind (fun q5 => some q5))))
set_option maxHeartbeats 4000000 in
set_option maxRecDepth 100000 in
theorem c_R_letters {sc : List Int} {d : Nat} {s : px_Z} {x1 : Int} {out : Int} (h : f_R_letters s x1 = some out) : px_D sc (d + 2) 129 0 [(0, .inr (.inr 5)), (1, .inl (x1))] [] (px_G1, s) (px_Qp s out) := by
  unfold f_R_letters at h
  refine px_D_st 3 (ip1 := 3) (ls1 := [(0, .inr (.inr 5)), (1, .inl (x1))]) (st1 := [.inr (.inr 38)]) (h1 := (px_G1, s)) rfl ?_
  refine px_D_call (as := [.inr (.inr 38)]) (rest := []) rfl rfl rfl rfl ?_
  obtain ⟨q1, hq1, h⟩ := Option.bind_eq_some_iff.mp h
  refine px_D_mono (c_Told_letterOrders (d := d + 1) hq1) ?_
  rintro _ _ ⟨rfl, rfl⟩
  show px_D sc (d + 2) 129 4 [(0, .inr (.inr 5)), (1, .inl (x1))] [.inl (q1)] (px_G1, s) _
  refine px_D_st 2 (ip1 := 6) (ls1 := [(2, .inl (q1)), (0, .inr (.inr 5)), (1, .inl (x1))]) (st1 := [.inl (x1)]) (h1 := (px_G1, s)) rfl ?_
  refine px_D_ifc rfl (fun hc => ?_) (fun hc => ?_)
  · have hc2 : ¬ ((x1) = (0)) := of_decide_eq_true hc
    rw [if_neg hc2] at h
    refine px_D_st 2 (ip1 := 11) (ls1 := [(2, .inl (q1)), (0, .inr (.inr 5)), (1, .inl (x1))]) (st1 := [.inl (10), .inl (x1)]) (h1 := (px_G1, s)) rfl ?_
    refine px_D_icmp rfl (fun hc => ?_) (fun hc => ?_)
    · have hc3 : (x1) < (10) := of_decide_eq_true hc
      rw [if_pos hc3] at h
      refine px_D_st 2 (ip1 := 23) (ls1 := [(2, .inl (q1)), (0, .inr (.inr 5)), (1, .inl (x1))]) (st1 := [.inl ((-1))]) (h1 := (px_G1, s)) rfl ?_
      cases h
      exact px_D_iret rfl rfl ⟨rfl, rfl⟩
    · have hc3 : ¬ ((x1) < (10)) := of_decide_eq_false hc
      rw [if_neg hc3] at h
      refine px_D_st 1 (ip1 := 13) (ls1 := [(2, .inl (q1)), (0, .inr (.inr 5)), (1, .inl (x1))]) (st1 := [.inl (q1)]) (h1 := (px_G1, s)) rfl ?_
      refine px_D_ifc rfl (fun hc => ?_) (fun hc => ?_)
      · have hc4 : ¬ ((q1) = (0)) := of_decide_eq_true hc
        rw [if_neg hc4] at h
        refine px_D_st 6 (ip1 := 22) (ls1 := [(2, .inl (q1)), (0, .inr (.inr 5)), (1, .inl (x1))]) (st1 := [.inl (px_wr (x1 - 10)), .inr (.inr 38)]) (h1 := (px_G1, s)) rfl ?_
        refine px_D_call (as := [.inr (.inr 38), .inl (px_wr (x1 - 10))]) (rest := []) rfl rfl rfl rfl ?_
        obtain ⟨q5, hq5, h⟩ := Option.bind_eq_some_iff.mp h
        refine px_D_mono (c_Told_letterAt (d := d + 0) hq5) ?_
        rintro _ _ ⟨rfl, rfl⟩
        show px_D sc (d + 2) 129 23 [(2, .inl (q1)), (0, .inr (.inr 5)), (1, .inl (x1))] [.inl (q5)] (px_G1, s) _
        cases h
        exact px_D_iret rfl rfl ⟨rfl, rfl⟩
      · have hc4 : (q1) = (0) := Decidable.of_not_not (of_decide_eq_false hc)
        rw [if_pos hc4] at h
        refine px_D_st 2 (ip1 := 23) (ls1 := [(2, .inl (q1)), (0, .inr (.inr 5)), (1, .inl (x1))]) (st1 := [.inl ((-1))]) (h1 := (px_G1, s)) rfl ?_
        cases h
        exact px_D_iret rfl rfl ⟨rfl, rfl⟩
  · have hc2 : (x1) = (0) := Decidable.of_not_not (of_decide_eq_false hc)
    rw [if_pos hc2] at h
    refine px_D_st 1 (ip1 := 8) (ls1 := [(2, .inl (q1)), (0, .inr (.inr 5)), (1, .inl (x1))]) (st1 := [.inl (q1)]) (h1 := (px_G1, s)) rfl ?_
    cases h
    exact px_D_iret rfl rfl ⟨rfl, rfl⟩

def f_Told_addSight (s : px_Z) (x1 : Int) (x2 : Int) (x3 : Int) : Option (Int × px_Z) := if (s 38 1) < (12) then (if 0 ≤ (s 38 1) ∧ (s 38 1) < 12 then if 0 ≤ ((px_up s 40 (s 38 1).toNat x1) 38 1) ∧ ((px_up s 40 (s 38 1).toNat x1) 38 1) < 12 then if 0 ≤ ((px_up (px_up s 40 (s 38 1).toNat x1) 41 ((px_up s 40 (s 38 1).toNat x1) 38 1).toNat x2) 38 1) ∧ ((px_up (px_up s 40 (s 38 1).toNat x1) 41 ((px_up s 40 (s 38 1).toNat x1) 38 1).toNat x2) 38 1) < 12 then some (((px_up (px_up (px_up (px_up s 40 (s 38 1).toNat x1) 41 ((px_up s 40 (s 38 1).toNat x1) 38 1).toNat x2) 42 ((px_up (px_up s 40 (s 38 1).toNat x1) 41 ((px_up s 40 (s 38 1).toNat x1) 38 1).toNat x2) 38 1).toNat x3) 38 1 (px_wr (((px_up (px_up (px_up s 40 (s 38 1).toNat x1) 41 ((px_up s 40 (s 38 1).toNat x1) 38 1).toNat x2) 42 ((px_up (px_up s 40 (s 38 1).toNat x1) 41 ((px_up s 40 (s 38 1).toNat x1) 38 1).toNat x2) 38 1).toNat x3) 38 1) + 1))) 38 1, px_up (px_up (px_up (px_up s 40 (s 38 1).toNat x1) 41 ((px_up s 40 (s 38 1).toNat x1) 38 1).toNat x2) 42 ((px_up (px_up s 40 (s 38 1).toNat x1) 41 ((px_up s 40 (s 38 1).toNat x1) 38 1).toNat x2) 38 1).toNat x3) 38 1 (px_wr (((px_up (px_up (px_up s 40 (s 38 1).toNat x1) 41 ((px_up s 40 (s 38 1).toNat x1) 38 1).toNat x2) 42 ((px_up (px_up s 40 (s 38 1).toNat x1) 41 ((px_up s 40 (s 38 1).toNat x1) 38 1).toNat x2) 38 1).toNat x3) 38 1) + 1)))) else none else none else none) else some (((-1), s))
set_option maxHeartbeats 4000000 in
set_option maxRecDepth 100000 in
theorem c_Told_addSight {sc : List Int} {d : Nat} {s : px_Z} {x1 : Int} {x2 : Int} {x3 : Int} {out : Int × px_Z} (h : f_Told_addSight s x1 x2 x3 = some out) : px_D sc (d + 0) 69 0 [(0, .inr (.inr 38)), (1, .inl (x1)), (2, .inl (x2)), (3, .inl (x3))] [] (px_G1, s) (px_Qi out) := by
  unfold f_Told_addSight at h
  refine px_D_st 3 (ip1 := 3) (ls1 := [(0, .inr (.inr 38)), (1, .inl (x1)), (2, .inl (x2)), (3, .inl (x3))]) (st1 := [.inl (12), .inl (s 38 1)]) (h1 := (px_G1, s)) rfl ?_
  refine px_D_icmp rfl (fun hc => ?_) (fun hc => ?_)
  · have hc1 : (s 38 1) < (12) := of_decide_eq_true hc
    rw [if_pos hc1] at h
    refine px_D_st 5 (ip1 := 11) (ls1 := [(0, .inr (.inr 38)), (1, .inl (x1)), (2, .inl (x2)), (3, .inl (x3))]) (st1 := [.inl (x1), .inl (s 38 1), .inr (.inr 40)]) (h1 := (px_G1, s)) rfl ?_
    by_cases hc2 : 0 ≤ (s 38 1) ∧ (s 38 1) < 12
    case neg => rw [if_neg hc2] at h; cases h
    rw [if_pos hc2] at h
    refine px_D_iast (k := 35) (n := 12) rfl rfl hc2 ?_
    refine px_D_st 5 (ip1 := 17) (ls1 := [(0, .inr (.inr 38)), (1, .inl (x1)), (2, .inl (x2)), (3, .inl (x3))]) (st1 := [.inl (x2), .inl ((px_up s 40 (s 38 1).toNat x1) 38 1), .inr (.inr 41)]) (h1 := (px_G1, px_up s 40 (s 38 1).toNat x1)) rfl ?_
    by_cases hc3 : 0 ≤ ((px_up s 40 (s 38 1).toNat x1) 38 1) ∧ ((px_up s 40 (s 38 1).toNat x1) 38 1) < 12
    case neg => rw [if_neg hc3] at h; cases h
    rw [if_pos hc3] at h
    refine px_D_iast (k := 36) (n := 12) rfl rfl hc3 ?_
    refine px_D_st 5 (ip1 := 23) (ls1 := [(0, .inr (.inr 38)), (1, .inl (x1)), (2, .inl (x2)), (3, .inl (x3))]) (st1 := [.inl (x3), .inl ((px_up (px_up s 40 (s 38 1).toNat x1) 41 ((px_up s 40 (s 38 1).toNat x1) 38 1).toNat x2) 38 1), .inr (.inr 42)]) (h1 := (px_G1, px_up (px_up s 40 (s 38 1).toNat x1) 41 ((px_up s 40 (s 38 1).toNat x1) 38 1).toNat x2)) rfl ?_
    by_cases hc4 : 0 ≤ ((px_up (px_up s 40 (s 38 1).toNat x1) 41 ((px_up s 40 (s 38 1).toNat x1) 38 1).toNat x2) 38 1) ∧ ((px_up (px_up s 40 (s 38 1).toNat x1) 41 ((px_up s 40 (s 38 1).toNat x1) 38 1).toNat x2) 38 1) < 12
    case neg => rw [if_neg hc4] at h; cases h
    rw [if_pos hc4] at h
    refine px_D_iast (k := 37) (n := 12) rfl rfl hc4 ?_
    refine px_D_st 8 (ip1 := 32) (ls1 := [(0, .inr (.inr 38)), (1, .inl (x1)), (2, .inl (x2)), (3, .inl (x3))]) (st1 := [.inl ((px_up (px_up (px_up (px_up s 40 (s 38 1).toNat x1) 41 ((px_up s 40 (s 38 1).toNat x1) 38 1).toNat x2) 42 ((px_up (px_up s 40 (s 38 1).toNat x1) 41 ((px_up s 40 (s 38 1).toNat x1) 38 1).toNat x2) 38 1).toNat x3) 38 1 (px_wr (((px_up (px_up (px_up s 40 (s 38 1).toNat x1) 41 ((px_up s 40 (s 38 1).toNat x1) 38 1).toNat x2) 42 ((px_up (px_up s 40 (s 38 1).toNat x1) 41 ((px_up s 40 (s 38 1).toNat x1) 38 1).toNat x2) 38 1).toNat x3) 38 1) + 1))) 38 1)]) (h1 := (px_G1, px_up (px_up (px_up (px_up s 40 (s 38 1).toNat x1) 41 ((px_up s 40 (s 38 1).toNat x1) 38 1).toNat x2) 42 ((px_up (px_up s 40 (s 38 1).toNat x1) 41 ((px_up s 40 (s 38 1).toNat x1) 38 1).toNat x2) 38 1).toNat x3) 38 1 (px_wr (((px_up (px_up (px_up s 40 (s 38 1).toNat x1) 41 ((px_up s 40 (s 38 1).toNat x1) 38 1).toNat x2) 42 ((px_up (px_up s 40 (s 38 1).toNat x1) 41 ((px_up s 40 (s 38 1).toNat x1) 38 1).toNat x2) 38 1).toNat x3) 38 1) + 1)))) rfl ?_
    cases h
    exact px_D_iret rfl rfl ⟨rfl, rfl⟩
  · have hc1 : ¬ ((s 38 1) < (12)) := of_decide_eq_false hc
    rw [if_neg hc1] at h
    refine px_D_st 1 (ip1 := 5) (ls1 := [(0, .inr (.inr 38)), (1, .inl (x1)), (2, .inl (x2)), (3, .inl (x3))]) (st1 := [.inl ((-1))]) (h1 := (px_G1, s)) rfl ?_
    cases h
    exact px_D_iret rfl rfl ⟨rfl, rfl⟩

def f_R_sight (s : px_Z) (x1 : Int) (x2 : Int) (x3 : Int) : Option (Int × px_Z) := if (x1) = ((-1)) then some (0, px_up s 38 1 0) else (if (f_R_within s x1 0 (px_wr ((s 6 1) - 1))) = (0) then some (((-1), s)) else (if (f_R_within s x2 0 60) = (0) then some (((-1), s)) else (if (f_R_within s x3 0 99) = (0) then some (((-1), s)) else (f_Told_addSight s x1 x2 x3).bind (fun q5 => some (q5.1, q5.2)))))
set_option maxHeartbeats 4000000 in
set_option maxRecDepth 100000 in
theorem c_R_sight {sc : List Int} {d : Nat} {s : px_Z} {x1 : Int} {x2 : Int} {x3 : Int} {out : Int × px_Z} (h : f_R_sight s x1 x2 x3 = some out) : px_D sc (d + 1) 130 0 [(0, .inr (.inr 5)), (1, .inl (x1)), (2, .inl (x2)), (3, .inl (x3))] [] (px_G1, s) (px_Qi out) := by
  unfold f_R_sight at h
  refine px_D_st 2 (ip1 := 2) (ls1 := [(0, .inr (.inr 5)), (1, .inl (x1)), (2, .inl (x2)), (3, .inl (x3))]) (st1 := [.inl ((-1)), .inl (x1)]) (h1 := (px_G1, s)) rfl ?_
  refine px_D_icmp rfl (fun hc => ?_) (fun hc => ?_)
  · have hc1 : ¬ ((x1) = ((-1))) := of_decide_eq_true hc
    rw [if_neg hc1] at h
    refine px_D_st 7 (ip1 := 17) (ls1 := [(0, .inr (.inr 5)), (1, .inl (x1)), (2, .inl (x2)), (3, .inl (x3))]) (st1 := [.inl (px_wr ((s 6 1) - 1)), .inl (0), .inl (x1)]) (h1 := (px_G1, s)) rfl ?_
    refine px_D_call (as := [.inl (x1), .inl (0), .inl (px_wr ((s 6 1) - 1))]) (rest := []) rfl rfl rfl rfl ?_
    refine px_D_mono (c_R_within (d := d + 0) rfl) ?_
    rintro _ _ ⟨rfl, rfl⟩
    show px_D sc (d + 1) 130 18 [(0, .inr (.inr 5)), (1, .inl (x1)), (2, .inl (x2)), (3, .inl (x3))] [.inl (f_R_within s x1 0 (px_wr ((s 6 1) - 1)))] (px_G1, s) _
    refine px_D_ifc rfl (fun hc => ?_) (fun hc => ?_)
    · have hc2 : (f_R_within s x1 0 (px_wr ((s 6 1) - 1))) = (0) := of_decide_eq_true hc
      rw [if_pos hc2] at h
      refine px_D_st 1 (ip1 := 30) (ls1 := [(0, .inr (.inr 5)), (1, .inl (x1)), (2, .inl (x2)), (3, .inl (x3))]) (st1 := [.inl ((-1))]) (h1 := (px_G1, s)) rfl ?_
      cases h
      exact px_D_iret rfl rfl ⟨rfl, rfl⟩
    · have hc2 : ¬ ((f_R_within s x1 0 (px_wr ((s 6 1) - 1))) = (0)) := of_decide_eq_false hc
      rw [if_neg hc2] at h
      refine px_D_st 3 (ip1 := 22) (ls1 := [(0, .inr (.inr 5)), (1, .inl (x1)), (2, .inl (x2)), (3, .inl (x3))]) (st1 := [.inl (60), .inl (0), .inl (x2)]) (h1 := (px_G1, s)) rfl ?_
      refine px_D_call (as := [.inl (x2), .inl (0), .inl (60)]) (rest := []) rfl rfl rfl rfl ?_
      refine px_D_mono (c_R_within (d := d + 0) rfl) ?_
      rintro _ _ ⟨rfl, rfl⟩
      show px_D sc (d + 1) 130 23 [(0, .inr (.inr 5)), (1, .inl (x1)), (2, .inl (x2)), (3, .inl (x3))] [.inl (f_R_within s x2 0 60)] (px_G1, s) _
      refine px_D_ifc rfl (fun hc => ?_) (fun hc => ?_)
      · have hc3 : (f_R_within s x2 0 60) = (0) := of_decide_eq_true hc
        rw [if_pos hc3] at h
        refine px_D_st 1 (ip1 := 30) (ls1 := [(0, .inr (.inr 5)), (1, .inl (x1)), (2, .inl (x2)), (3, .inl (x3))]) (st1 := [.inl ((-1))]) (h1 := (px_G1, s)) rfl ?_
        cases h
        exact px_D_iret rfl rfl ⟨rfl, rfl⟩
      · have hc3 : ¬ ((f_R_within s x2 0 60) = (0)) := of_decide_eq_false hc
        rw [if_neg hc3] at h
        refine px_D_st 3 (ip1 := 27) (ls1 := [(0, .inr (.inr 5)), (1, .inl (x1)), (2, .inl (x2)), (3, .inl (x3))]) (st1 := [.inl (99), .inl (0), .inl (x3)]) (h1 := (px_G1, s)) rfl ?_
        refine px_D_call (as := [.inl (x3), .inl (0), .inl (99)]) (rest := []) rfl rfl rfl rfl ?_
        refine px_D_mono (c_R_within (d := d + 0) rfl) ?_
        rintro _ _ ⟨rfl, rfl⟩
        show px_D sc (d + 1) 130 28 [(0, .inr (.inr 5)), (1, .inl (x1)), (2, .inl (x2)), (3, .inl (x3))] [.inl (f_R_within s x3 0 99)] (px_G1, s) _
        refine px_D_ifc rfl (fun hc => ?_) (fun hc => ?_)
        · have hc4 : ¬ ((f_R_within s x3 0 99) = (0)) := of_decide_eq_true hc
          rw [if_neg hc4] at h
          refine px_D_st 6 (ip1 := 37) (ls1 := [(0, .inr (.inr 5)), (1, .inl (x1)), (2, .inl (x2)), (3, .inl (x3))]) (st1 := [.inl (x3), .inl (x2), .inl (x1), .inr (.inr 38)]) (h1 := (px_G1, s)) rfl ?_
          refine px_D_call (as := [.inr (.inr 38), .inl (x1), .inl (x2), .inl (x3)]) (rest := []) rfl rfl rfl rfl ?_
          obtain ⟨q5, hq5, h⟩ := Option.bind_eq_some_iff.mp h
          refine px_D_mono (c_Told_addSight (d := d + 0) hq5) ?_
          rintro _ _ ⟨rfl, rfl⟩
          show px_D sc (d + 1) 130 38 [(0, .inr (.inr 5)), (1, .inl (x1)), (2, .inl (x2)), (3, .inl (x3))] [.inl (q5.1)] (px_G1, q5.2) _
          cases h
          exact px_D_iret rfl rfl ⟨rfl, rfl⟩
        · have hc4 : (f_R_within s x3 0 99) = (0) := Decidable.of_not_not (of_decide_eq_false hc)
          rw [if_pos hc4] at h
          refine px_D_st 1 (ip1 := 30) (ls1 := [(0, .inr (.inr 5)), (1, .inl (x1)), (2, .inl (x2)), (3, .inl (x3))]) (st1 := [.inl ((-1))]) (h1 := (px_G1, s)) rfl ?_
          cases h
          exact px_D_iret rfl rfl ⟨rfl, rfl⟩
  · have hc1 : (x1) = ((-1)) := Decidable.of_not_not (of_decide_eq_false hc)
    rw [if_pos hc1] at h
    refine px_D_st 6 (ip1 := 9) (ls1 := [(0, .inr (.inr 5)), (1, .inl (x1)), (2, .inl (x2)), (3, .inl (x3))]) (st1 := [.inl (0)]) (h1 := (px_G1, px_up s 38 1 0)) rfl ?_
    cases h
    exact px_D_iret rfl rfl ⟨rfl, rfl⟩

def j_Told_gainsay_j18 (s : px_Z) (x1 : Int) (x2 : Int) : Option (Int) := if 0 ≤ (x1) ∧ (x1) < 12 then if 0 ≤ (x2) ∧ (x2) < 12 then if (s 41 x1.toNat) = (s 41 x2.toNat) then (if 0 ≤ (x1) ∧ (x1) < 12 then if 0 ≤ (x2) ∧ (x2) < 12 then if (s 42 x1.toNat) = (s 42 x2.toNat) then some 0 else some 1 else none else none) else some 0 else none else none
set_option maxHeartbeats 4000000 in
set_option maxRecDepth 100000 in
theorem cj_Told_gainsay_j18 {sc : List Int} {d : Nat} {s : px_Z} {x1 : Int} {x2 : Int} {out : Int} (h : j_Told_gainsay_j18 s x1 x2 = some out) : px_D sc (d + 0) 74 18 [(0, .inr (.inr 38)), (1, .inl (x1)), (2, .inl (x2))] [] (px_G1, s) (px_Qp s out) := by
  unfold j_Told_gainsay_j18 at h
  refine px_D_st 3 (ip1 := 21) (ls1 := [(0, .inr (.inr 38)), (1, .inl (x1)), (2, .inl (x2))]) (st1 := [.inl (x1), .inr (.inr 41)]) (h1 := (px_G1, s)) rfl ?_
  by_cases hc4 : 0 ≤ (x1) ∧ (x1) < 12
  case neg => rw [if_neg hc4] at h; cases h
  rw [if_pos hc4] at h
  refine px_D_iald (k := 36) (n := 12) rfl rfl hc4 ?_
  refine px_D_st 3 (ip1 := 25) (ls1 := [(0, .inr (.inr 38)), (1, .inl (x1)), (2, .inl (x2))]) (st1 := [.inl (x2), .inr (.inr 41), .inl (s 41 x1.toNat)]) (h1 := (px_G1, s)) rfl ?_
  by_cases hc5 : 0 ≤ (x2) ∧ (x2) < 12
  case neg => rw [if_neg hc5] at h; cases h
  rw [if_pos hc5] at h
  refine px_D_iald (k := 36) (n := 12) rfl rfl hc5 ?_
  refine px_D_icmp rfl (fun hc => ?_) (fun hc => ?_)
  · have hc6 : ¬ ((s 41 x1.toNat) = (s 41 x2.toNat)) := of_decide_eq_true hc
    rw [if_neg hc6] at h
    refine px_D_st 1 (ip1 := 39) (ls1 := [(0, .inr (.inr 38)), (1, .inl (x1)), (2, .inl (x2))]) (st1 := [.inl (0)]) (h1 := (px_G1, s)) rfl ?_
    cases h
    exact px_D_iret rfl rfl ⟨rfl, rfl⟩
  · have hc6 : (s 41 x1.toNat) = (s 41 x2.toNat) := Decidable.of_not_not (of_decide_eq_false hc)
    rw [if_pos hc6] at h
    refine px_D_st 3 (ip1 := 30) (ls1 := [(0, .inr (.inr 38)), (1, .inl (x1)), (2, .inl (x2))]) (st1 := [.inl (x1), .inr (.inr 42)]) (h1 := (px_G1, s)) rfl ?_
    by_cases hc7 : 0 ≤ (x1) ∧ (x1) < 12
    case neg => rw [if_neg hc7] at h; cases h
    rw [if_pos hc7] at h
    refine px_D_iald (k := 37) (n := 12) rfl rfl hc7 ?_
    refine px_D_st 3 (ip1 := 34) (ls1 := [(0, .inr (.inr 38)), (1, .inl (x1)), (2, .inl (x2))]) (st1 := [.inl (x2), .inr (.inr 42), .inl (s 42 x1.toNat)]) (h1 := (px_G1, s)) rfl ?_
    by_cases hc8 : 0 ≤ (x2) ∧ (x2) < 12
    case neg => rw [if_neg hc8] at h; cases h
    rw [if_pos hc8] at h
    refine px_D_iald (k := 37) (n := 12) rfl rfl hc8 ?_
    refine px_D_icmp rfl (fun hc => ?_) (fun hc => ?_)
    · have hc9 : (s 42 x1.toNat) = (s 42 x2.toNat) := of_decide_eq_true hc
      rw [if_pos hc9] at h
      refine px_D_st 1 (ip1 := 39) (ls1 := [(0, .inr (.inr 38)), (1, .inl (x1)), (2, .inl (x2))]) (st1 := [.inl (0)]) (h1 := (px_G1, s)) rfl ?_
      cases h
      exact px_D_iret rfl rfl ⟨rfl, rfl⟩
    · have hc9 : ¬ ((s 42 x1.toNat) = (s 42 x2.toNat)) := of_decide_eq_false hc
      rw [if_neg hc9] at h
      refine px_D_st 2 (ip1 := 39) (ls1 := [(0, .inr (.inr 38)), (1, .inl (x1)), (2, .inl (x2))]) (st1 := [.inl (1)]) (h1 := (px_G1, s)) rfl ?_
      cases h
      exact px_D_iret rfl rfl ⟨rfl, rfl⟩
def f_Told_gainsay (s : px_Z) (x1 : Int) (x2 : Int) : Option (Int) := if 0 ≤ (x1) ∧ (x1) < 12 then if 0 ≤ (x2) ∧ (x2) < 12 then if (s 41 x2.toNat) ≤ (s 41 x1.toNat) then j_Told_gainsay_j18 s x1 x2 else (if 0 ≤ (x1) ∧ (x1) < 12 then if 0 ≤ (x2) ∧ (x2) < 12 then if (s 42 x2.toNat) < (s 42 x1.toNat) then some 1 else j_Told_gainsay_j18 s x1 x2 else none else none) else none else none
set_option maxHeartbeats 4000000 in
set_option maxRecDepth 100000 in
theorem c_Told_gainsay {sc : List Int} {d : Nat} {s : px_Z} {x1 : Int} {x2 : Int} {out : Int} (h : f_Told_gainsay s x1 x2 = some out) : px_D sc (d + 0) 74 0 [(0, .inr (.inr 38)), (1, .inl (x1)), (2, .inl (x2))] [] (px_G1, s) (px_Qp s out) := by
  unfold f_Told_gainsay at h
  refine px_D_st 3 (ip1 := 3) (ls1 := [(0, .inr (.inr 38)), (1, .inl (x1)), (2, .inl (x2))]) (st1 := [.inl (x1), .inr (.inr 41)]) (h1 := (px_G1, s)) rfl ?_
  by_cases hc1 : 0 ≤ (x1) ∧ (x1) < 12
  case neg => rw [if_neg hc1] at h; cases h
  rw [if_pos hc1] at h
  refine px_D_iald (k := 36) (n := 12) rfl rfl hc1 ?_
  refine px_D_st 3 (ip1 := 7) (ls1 := [(0, .inr (.inr 38)), (1, .inl (x1)), (2, .inl (x2))]) (st1 := [.inl (x2), .inr (.inr 41), .inl (s 41 x1.toNat)]) (h1 := (px_G1, s)) rfl ?_
  by_cases hc2 : 0 ≤ (x2) ∧ (x2) < 12
  case neg => rw [if_neg hc2] at h; cases h
  rw [if_pos hc2] at h
  refine px_D_iald (k := 36) (n := 12) rfl rfl hc2 ?_
  refine px_D_icmp rfl (fun hc => ?_) (fun hc => ?_)
  · have hc3 : (s 41 x2.toNat) ≤ (s 41 x1.toNat) := of_decide_eq_true hc
    rw [if_pos hc3] at h
    refine px_D_ls [(0, .inr (.inr 38)), (1, .inl (x1)), (2, .inl (x2))] rfl rfl (List.forall_mem_cons.mpr ⟨rfl, List.forall_mem_cons.mpr ⟨rfl, List.forall_mem_cons.mpr ⟨rfl, fun _ h => absurd h List.not_mem_nil⟩⟩⟩) ?_
    exact cj_Told_gainsay_j18 h
  · have hc3 : ¬ ((s 41 x2.toNat) ≤ (s 41 x1.toNat)) := of_decide_eq_false hc
    rw [if_neg hc3] at h
    refine px_D_st 3 (ip1 := 12) (ls1 := [(0, .inr (.inr 38)), (1, .inl (x1)), (2, .inl (x2))]) (st1 := [.inl (x1), .inr (.inr 42)]) (h1 := (px_G1, s)) rfl ?_
    by_cases hc10 : 0 ≤ (x1) ∧ (x1) < 12
    case neg => rw [if_neg hc10] at h; cases h
    rw [if_pos hc10] at h
    refine px_D_iald (k := 37) (n := 12) rfl rfl hc10 ?_
    refine px_D_st 3 (ip1 := 16) (ls1 := [(0, .inr (.inr 38)), (1, .inl (x1)), (2, .inl (x2))]) (st1 := [.inl (x2), .inr (.inr 42), .inl (s 42 x1.toNat)]) (h1 := (px_G1, s)) rfl ?_
    by_cases hc11 : 0 ≤ (x2) ∧ (x2) < 12
    case neg => rw [if_neg hc11] at h; cases h
    rw [if_pos hc11] at h
    refine px_D_iald (k := 37) (n := 12) rfl rfl hc11 ?_
    refine px_D_icmp rfl (fun hc => ?_) (fun hc => ?_)
    · have hc12 : (s 42 x2.toNat) < (s 42 x1.toNat) := of_decide_eq_true hc
      rw [if_pos hc12] at h
      refine px_D_st 2 (ip1 := 39) (ls1 := [(0, .inr (.inr 38)), (1, .inl (x1)), (2, .inl (x2))]) (st1 := [.inl (1)]) (h1 := (px_G1, s)) rfl ?_
      cases h
      exact px_D_iret rfl rfl ⟨rfl, rfl⟩
    · have hc12 : ¬ ((s 42 x2.toNat) < (s 42 x1.toNat)) := of_decide_eq_false hc
      rw [if_neg hc12] at h
      refine px_D_ls [(0, .inr (.inr 38)), (1, .inl (x1)), (2, .inl (x2))] rfl rfl (List.forall_mem_cons.mpr ⟨rfl, List.forall_mem_cons.mpr ⟨rfl, List.forall_mem_cons.mpr ⟨rfl, fun _ h => absurd h List.not_mem_nil⟩⟩⟩) ?_
      exact cj_Told_gainsay_j18 h

def l_Told_falseThings_42 (s : px_Z) (k65 : Int → Int → Option (Int)) : Nat → Int → Int → Int → Int → Option (Int)
  | 0, _, _, _, _ => none
  | n + 1, x2, x3, x4, x5 => if (s 38 1) ≤ (x5) then k65 x2 x3 else (if 0 ≤ (x5) ∧ (x5) < 12 then if (s 40 x5.toNat) = (x4) then (f_Told_gainsay s x3 x5).bind (fun q8 => if (q8) = (0) then l_Told_falseThings_42 s k65 n x2 x3 x4 (px_wr (x5 + 1)) else l_Told_falseThings_42 s k65 n (px_or (x2) ((px_shl (1) (x4)))) x3 x4 (px_wr (x5 + 1))) else l_Told_falseThings_42 s k65 n x2 x3 x4 (px_wr (x5 + 1)) else none)
set_option maxHeartbeats 4000000 in
set_option maxRecDepth 100000 in
theorem cl_Told_falseThings_42 {sc : List Int} {d : Nat} {s : px_Z} {k65 : Int → Int → Option (Int)}  (hk65 : ∀ (y2 : Int) (y3 : Int) (out : Int), k65 y2 y3 = some out → px_D sc (d + 1) 73 65 [(0, .inr (.inr 38)), (1, .inr (.inr 7)), (2, .inl (y2)), (3, .inl (y3))] [] (px_G1, s) (px_Qp s out)) : ∀ (n : Nat) (x2 : Int) (x3 : Int) (x4 : Int) (x5 : Int) (out : Int), l_Told_falseThings_42 s k65 n x2 x3 x4 x5 = some out → px_D sc (d + 1) 73 42 [(0, .inr (.inr 38)), (1, .inr (.inr 7)), (2, .inl (x2)), (3, .inl (x3)), (4, .inl (x4)), (5, .inl (x5))] [] (px_G1, s) (px_Qp s out) := by
  intro n
  induction n with
  | zero => intro x2 x3 x4 x5 out h; cases h
  | succ n ih =>
    intro x2 x3 x4 x5 out h
    rw [l_Told_falseThings_42] at h
    refine px_D_st 3 (ip1 := 45) (ls1 := [(0, .inr (.inr 38)), (1, .inr (.inr 7)), (2, .inl (x2)), (3, .inl (x3)), (4, .inl (x4)), (5, .inl (x5))]) (st1 := [.inl (s 38 1), .inl (x5)]) (h1 := (px_G1, s)) rfl ?_
    refine px_D_icmp rfl (fun hc => ?_) (fun hc => ?_)
    · have hc5 : (s 38 1) ≤ (x5) := of_decide_eq_true hc
      rw [if_pos hc5] at h
      refine px_D_ls [(0, .inr (.inr 38)), (1, .inr (.inr 7)), (2, .inl (x2)), (3, .inl (x3))] rfl rfl (List.forall_mem_cons.mpr ⟨rfl, List.forall_mem_cons.mpr ⟨rfl, List.forall_mem_cons.mpr ⟨rfl, List.forall_mem_cons.mpr ⟨rfl, fun _ h => absurd h List.not_mem_nil⟩⟩⟩⟩) ?_
      exact hk65 _ _ _ h
    · have hc5 : ¬ ((s 38 1) ≤ (x5)) := of_decide_eq_false hc
      rw [if_neg hc5] at h
      refine px_D_st 3 (ip1 := 49) (ls1 := [(0, .inr (.inr 38)), (1, .inr (.inr 7)), (2, .inl (x2)), (3, .inl (x3)), (4, .inl (x4)), (5, .inl (x5))]) (st1 := [.inl (x5), .inr (.inr 40)]) (h1 := (px_G1, s)) rfl ?_
      by_cases hc6 : 0 ≤ (x5) ∧ (x5) < 12
      case neg => rw [if_neg hc6] at h; cases h
      rw [if_pos hc6] at h
      refine px_D_iald (k := 35) (n := 12) rfl rfl hc6 ?_
      refine px_D_st 1 (ip1 := 51) (ls1 := [(0, .inr (.inr 38)), (1, .inr (.inr 7)), (2, .inl (x2)), (3, .inl (x3)), (4, .inl (x4)), (5, .inl (x5))]) (st1 := [.inl (x4), .inl (s 40 x5.toNat)]) (h1 := (px_G1, s)) rfl ?_
      refine px_D_icmp rfl (fun hc => ?_) (fun hc => ?_)
      · have hc7 : ¬ ((s 40 x5.toNat) = (x4)) := of_decide_eq_true hc
        rw [if_neg hc7] at h
        refine px_D_st 2 (ip1 := 42) (ls1 := [(5, .inl (px_wr (x5 + 1))), (0, .inr (.inr 38)), (1, .inr (.inr 7)), (2, .inl (x2)), (3, .inl (x3)), (4, .inl (x4))]) (st1 := []) (h1 := (px_G1, s)) rfl ?_
        refine px_D_ls [(0, .inr (.inr 38)), (1, .inr (.inr 7)), (2, .inl (x2)), (3, .inl (x3)), (4, .inl (x4)), (5, .inl (px_wr (x5 + 1)))] rfl rfl (List.forall_mem_cons.mpr ⟨rfl, List.forall_mem_cons.mpr ⟨rfl, List.forall_mem_cons.mpr ⟨rfl, List.forall_mem_cons.mpr ⟨rfl, List.forall_mem_cons.mpr ⟨rfl, List.forall_mem_cons.mpr ⟨rfl, fun _ h => absurd h List.not_mem_nil⟩⟩⟩⟩⟩⟩) ?_
        exact ih _ _ _ _ _ h
      · have hc7 : (s 40 x5.toNat) = (x4) := Decidable.of_not_not (of_decide_eq_false hc)
        rw [if_pos hc7] at h
        refine px_D_st 3 (ip1 := 55) (ls1 := [(0, .inr (.inr 38)), (1, .inr (.inr 7)), (2, .inl (x2)), (3, .inl (x3)), (4, .inl (x4)), (5, .inl (x5))]) (st1 := [.inl (x5), .inl (x3), .inr (.inr 38)]) (h1 := (px_G1, s)) rfl ?_
        refine px_D_call (as := [.inr (.inr 38), .inl (x3), .inl (x5)]) (rest := []) rfl rfl rfl rfl ?_
        obtain ⟨q8, hq8, h⟩ := Option.bind_eq_some_iff.mp h
        refine px_D_mono (c_Told_gainsay (d := d + 0) hq8) ?_
        rintro _ _ ⟨rfl, rfl⟩
        show px_D sc (d + 1) 73 56 [(0, .inr (.inr 38)), (1, .inr (.inr 7)), (2, .inl (x2)), (3, .inl (x3)), (4, .inl (x4)), (5, .inl (x5))] [.inl (q8)] (px_G1, s) _
        refine px_D_ifc rfl (fun hc => ?_) (fun hc => ?_)
        · have hc9 : (q8) = (0) := of_decide_eq_true hc
          rw [if_pos hc9] at h
          refine px_D_st 2 (ip1 := 42) (ls1 := [(5, .inl (px_wr (x5 + 1))), (0, .inr (.inr 38)), (1, .inr (.inr 7)), (2, .inl (x2)), (3, .inl (x3)), (4, .inl (x4))]) (st1 := []) (h1 := (px_G1, s)) rfl ?_
          refine px_D_ls [(0, .inr (.inr 38)), (1, .inr (.inr 7)), (2, .inl (x2)), (3, .inl (x3)), (4, .inl (x4)), (5, .inl (px_wr (x5 + 1)))] rfl rfl (List.forall_mem_cons.mpr ⟨rfl, List.forall_mem_cons.mpr ⟨rfl, List.forall_mem_cons.mpr ⟨rfl, List.forall_mem_cons.mpr ⟨rfl, List.forall_mem_cons.mpr ⟨rfl, List.forall_mem_cons.mpr ⟨rfl, fun _ h => absurd h List.not_mem_nil⟩⟩⟩⟩⟩⟩) ?_
          exact ih _ _ _ _ _ h
        · have hc9 : ¬ ((q8) = (0)) := of_decide_eq_false hc
          rw [if_neg hc9] at h
          refine px_D_st 8 (ip1 := 42) (ls1 := [(5, .inl (px_wr (x5 + 1))), (2, .inl (px_or (x2) ((px_shl (1) (x4))))), (0, .inr (.inr 38)), (1, .inr (.inr 7)), (3, .inl (x3)), (4, .inl (x4))]) (st1 := []) (h1 := (px_G1, s)) rfl ?_
          refine px_D_ls [(0, .inr (.inr 38)), (1, .inr (.inr 7)), (2, .inl (px_or (x2) ((px_shl (1) (x4))))), (3, .inl (x3)), (4, .inl (x4)), (5, .inl (px_wr (x5 + 1)))] rfl rfl (List.forall_mem_cons.mpr ⟨rfl, List.forall_mem_cons.mpr ⟨rfl, List.forall_mem_cons.mpr ⟨rfl, List.forall_mem_cons.mpr ⟨rfl, List.forall_mem_cons.mpr ⟨rfl, List.forall_mem_cons.mpr ⟨rfl, fun _ h => absurd h List.not_mem_nil⟩⟩⟩⟩⟩⟩) ?_
          exact ih _ _ _ _ _ h
def l_Told_falseThings_4 (s : px_Z)  : Nat → Int → Int → Option (Int)
  | 0, _, _ => none
  | n + 1, x2, x3 => if (s 38 1) ≤ (x3) then some x2 else (if 0 ≤ (x3) ∧ (x3) < 12 then if 0 ≤ (x3) ∧ (x3) < 12 then if (s 7 4) < (s 41 x3.toNat) then l_Told_falseThings_42 s (fun x2 x3 => l_Told_falseThings_4 s  n x2 (px_wr (x3 + 1))) px_big x2 x3 (s 40 x3.toNat) 0 else (if (f_R_within s (s 40 x3.toNat) 0 7) = (0) then l_Told_falseThings_42 s (fun x2 x3 => l_Told_falseThings_4 s  n x2 (px_wr (x3 + 1))) px_big x2 x3 (s 40 x3.toNat) 0 else (if 0 ≤ (x3) ∧ (x3) < 12 then if 0 ≤ (s 40 x3.toNat) ∧ (s 40 x3.toNat) < 8 then if (s 42 x3.toNat) ≤ (s 8 (s 40 x3.toNat).toNat) then l_Told_falseThings_42 s (fun x2 x3 => l_Told_falseThings_4 s  n x2 (px_wr (x3 + 1))) px_big x2 x3 (s 40 x3.toNat) 0 else l_Told_falseThings_42 s (fun x2 x3 => l_Told_falseThings_4 s  n x2 (px_wr (x3 + 1))) px_big (px_or (x2) ((px_shl (1) ((s 40 x3.toNat))))) x3 (s 40 x3.toNat) 0 else none else none)) else none else none)
set_option maxHeartbeats 4000000 in
set_option maxRecDepth 100000 in
theorem cl_Told_falseThings_4 {sc : List Int} {d : Nat} {s : px_Z}  : ∀ (n : Nat) (x2 : Int) (x3 : Int) (out : Int), l_Told_falseThings_4 s  n x2 x3 = some out → px_D sc (d + 1) 73 4 [(0, .inr (.inr 38)), (1, .inr (.inr 7)), (2, .inl (x2)), (3, .inl (x3))] [] (px_G1, s) (px_Qp s out) := by
  intro n
  induction n with
  | zero => intro x2 x3 out h; cases h
  | succ n ih =>
    intro x2 x3 out h
    rw [l_Told_falseThings_4] at h
    refine px_D_st 3 (ip1 := 7) (ls1 := [(0, .inr (.inr 38)), (1, .inr (.inr 7)), (2, .inl (x2)), (3, .inl (x3))]) (st1 := [.inl (s 38 1), .inl (x3)]) (h1 := (px_G1, s)) rfl ?_
    refine px_D_icmp rfl (fun hc => ?_) (fun hc => ?_)
    · have hc1 : (s 38 1) ≤ (x3) := of_decide_eq_true hc
      rw [if_pos hc1] at h
      refine px_D_st 1 (ip1 := 68) (ls1 := [(0, .inr (.inr 38)), (1, .inr (.inr 7)), (2, .inl (x2)), (3, .inl (x3))]) (st1 := [.inl (x2)]) (h1 := (px_G1, s)) rfl ?_
      cases h
      exact px_D_iret rfl rfl ⟨rfl, rfl⟩
    · have hc1 : ¬ ((s 38 1) ≤ (x3)) := of_decide_eq_false hc
      rw [if_neg hc1] at h
      refine px_D_st 3 (ip1 := 11) (ls1 := [(0, .inr (.inr 38)), (1, .inr (.inr 7)), (2, .inl (x2)), (3, .inl (x3))]) (st1 := [.inl (x3), .inr (.inr 40)]) (h1 := (px_G1, s)) rfl ?_
      by_cases hc2 : 0 ≤ (x3) ∧ (x3) < 12
      case neg => rw [if_neg hc2] at h; cases h
      rw [if_pos hc2] at h
      refine px_D_iald (k := 35) (n := 12) rfl rfl hc2 ?_
      refine px_D_st 4 (ip1 := 16) (ls1 := [(4, .inl (s 40 x3.toNat)), (0, .inr (.inr 38)), (1, .inr (.inr 7)), (2, .inl (x2)), (3, .inl (x3))]) (st1 := [.inl (x3), .inr (.inr 41)]) (h1 := (px_G1, s)) rfl ?_
      by_cases hc3 : 0 ≤ (x3) ∧ (x3) < 12
      case neg => rw [if_neg hc3] at h; cases h
      rw [if_pos hc3] at h
      refine px_D_iald (k := 36) (n := 12) rfl rfl hc3 ?_
      refine px_D_st 2 (ip1 := 19) (ls1 := [(4, .inl (s 40 x3.toNat)), (0, .inr (.inr 38)), (1, .inr (.inr 7)), (2, .inl (x2)), (3, .inl (x3))]) (st1 := [.inl (s 7 4), .inl (s 41 x3.toNat)]) (h1 := (px_G1, s)) rfl ?_
      refine px_D_icmp rfl (fun hc => ?_) (fun hc => ?_)
      · have hc4 : (s 7 4) < (s 41 x3.toNat) := of_decide_eq_true hc
        rw [if_pos hc4] at h
        refine px_D_st 2 (ip1 := 42) (ls1 := [(5, .inl (0)), (4, .inl (s 40 x3.toNat)), (0, .inr (.inr 38)), (1, .inr (.inr 7)), (2, .inl (x2)), (3, .inl (x3))]) (st1 := []) (h1 := (px_G1, s)) rfl ?_
        refine px_D_ls [(0, .inr (.inr 38)), (1, .inr (.inr 7)), (2, .inl (x2)), (3, .inl (x3)), (4, .inl (s 40 x3.toNat)), (5, .inl (0))] rfl rfl (List.forall_mem_cons.mpr ⟨rfl, List.forall_mem_cons.mpr ⟨rfl, List.forall_mem_cons.mpr ⟨rfl, List.forall_mem_cons.mpr ⟨rfl, List.forall_mem_cons.mpr ⟨rfl, List.forall_mem_cons.mpr ⟨rfl, fun _ h => absurd h List.not_mem_nil⟩⟩⟩⟩⟩⟩) ?_
        refine cl_Told_falseThings_42 ?_ px_big _ _ _ _ _ h
        · intro x2 x3 out h
          refine px_D_st 2 (ip1 := 4) (ls1 := [(3, .inl (px_wr (x3 + 1))), (0, .inr (.inr 38)), (1, .inr (.inr 7)), (2, .inl (x2))]) (st1 := []) (h1 := (px_G1, s)) rfl ?_
          refine px_D_ls [(0, .inr (.inr 38)), (1, .inr (.inr 7)), (2, .inl (x2)), (3, .inl (px_wr (x3 + 1)))] rfl rfl (List.forall_mem_cons.mpr ⟨rfl, List.forall_mem_cons.mpr ⟨rfl, List.forall_mem_cons.mpr ⟨rfl, List.forall_mem_cons.mpr ⟨rfl, fun _ h => absurd h List.not_mem_nil⟩⟩⟩⟩) ?_
          exact ih _ _ _ h
      · have hc4 : ¬ ((s 7 4) < (s 41 x3.toNat)) := of_decide_eq_false hc
        rw [if_neg hc4] at h
        refine px_D_st 3 (ip1 := 23) (ls1 := [(4, .inl (s 40 x3.toNat)), (0, .inr (.inr 38)), (1, .inr (.inr 7)), (2, .inl (x2)), (3, .inl (x3))]) (st1 := [.inl (7), .inl (0), .inl (s 40 x3.toNat)]) (h1 := (px_G1, s)) rfl ?_
        refine px_D_call (as := [.inl (s 40 x3.toNat), .inl (0), .inl (7)]) (rest := []) rfl rfl rfl rfl ?_
        refine px_D_mono (c_R_within (d := d + 0) rfl) ?_
        rintro _ _ ⟨rfl, rfl⟩
        show px_D sc (d + 1) 73 24 [(4, .inl (s 40 x3.toNat)), (0, .inr (.inr 38)), (1, .inr (.inr 7)), (2, .inl (x2)), (3, .inl (x3))] [.inl (f_R_within s (s 40 x3.toNat) 0 7)] (px_G1, s) _
        refine px_D_ifc rfl (fun hc => ?_) (fun hc => ?_)
        · have hc10 : (f_R_within s (s 40 x3.toNat) 0 7) = (0) := of_decide_eq_true hc
          rw [if_pos hc10] at h
          refine px_D_st 2 (ip1 := 42) (ls1 := [(5, .inl (0)), (4, .inl (s 40 x3.toNat)), (0, .inr (.inr 38)), (1, .inr (.inr 7)), (2, .inl (x2)), (3, .inl (x3))]) (st1 := []) (h1 := (px_G1, s)) rfl ?_
          refine px_D_ls [(0, .inr (.inr 38)), (1, .inr (.inr 7)), (2, .inl (x2)), (3, .inl (x3)), (4, .inl (s 40 x3.toNat)), (5, .inl (0))] rfl rfl (List.forall_mem_cons.mpr ⟨rfl, List.forall_mem_cons.mpr ⟨rfl, List.forall_mem_cons.mpr ⟨rfl, List.forall_mem_cons.mpr ⟨rfl, List.forall_mem_cons.mpr ⟨rfl, List.forall_mem_cons.mpr ⟨rfl, fun _ h => absurd h List.not_mem_nil⟩⟩⟩⟩⟩⟩) ?_
          refine cl_Told_falseThings_42 ?_ px_big _ _ _ _ _ h
          · intro x2 x3 out h
            refine px_D_st 2 (ip1 := 4) (ls1 := [(3, .inl (px_wr (x3 + 1))), (0, .inr (.inr 38)), (1, .inr (.inr 7)), (2, .inl (x2))]) (st1 := []) (h1 := (px_G1, s)) rfl ?_
            refine px_D_ls [(0, .inr (.inr 38)), (1, .inr (.inr 7)), (2, .inl (x2)), (3, .inl (px_wr (x3 + 1)))] rfl rfl (List.forall_mem_cons.mpr ⟨rfl, List.forall_mem_cons.mpr ⟨rfl, List.forall_mem_cons.mpr ⟨rfl, List.forall_mem_cons.mpr ⟨rfl, fun _ h => absurd h List.not_mem_nil⟩⟩⟩⟩) ?_
            exact ih _ _ _ h
        · have hc10 : ¬ ((f_R_within s (s 40 x3.toNat) 0 7) = (0)) := of_decide_eq_false hc
          rw [if_neg hc10] at h
          refine px_D_st 3 (ip1 := 28) (ls1 := [(4, .inl (s 40 x3.toNat)), (0, .inr (.inr 38)), (1, .inr (.inr 7)), (2, .inl (x2)), (3, .inl (x3))]) (st1 := [.inl (x3), .inr (.inr 42)]) (h1 := (px_G1, s)) rfl ?_
          by_cases hc11 : 0 ≤ (x3) ∧ (x3) < 12
          case neg => rw [if_neg hc11] at h; cases h
          rw [if_pos hc11] at h
          refine px_D_iald (k := 37) (n := 12) rfl rfl hc11 ?_
          refine px_D_st 3 (ip1 := 32) (ls1 := [(4, .inl (s 40 x3.toNat)), (0, .inr (.inr 38)), (1, .inr (.inr 7)), (2, .inl (x2)), (3, .inl (x3))]) (st1 := [.inl (s 40 x3.toNat), .inr (.inr 8), .inl (s 42 x3.toNat)]) (h1 := (px_G1, s)) rfl ?_
          by_cases hc12 : 0 ≤ (s 40 x3.toNat) ∧ (s 40 x3.toNat) < 8
          case neg => rw [if_neg hc12] at h; cases h
          rw [if_pos hc12] at h
          refine px_D_iald (k := 3) (n := 8) rfl rfl hc12 ?_
          refine px_D_icmp rfl (fun hc => ?_) (fun hc => ?_)
          · have hc13 : (s 42 x3.toNat) ≤ (s 8 (s 40 x3.toNat).toNat) := of_decide_eq_true hc
            rw [if_pos hc13] at h
            refine px_D_st 2 (ip1 := 42) (ls1 := [(5, .inl (0)), (4, .inl (s 40 x3.toNat)), (0, .inr (.inr 38)), (1, .inr (.inr 7)), (2, .inl (x2)), (3, .inl (x3))]) (st1 := []) (h1 := (px_G1, s)) rfl ?_
            refine px_D_ls [(0, .inr (.inr 38)), (1, .inr (.inr 7)), (2, .inl (x2)), (3, .inl (x3)), (4, .inl (s 40 x3.toNat)), (5, .inl (0))] rfl rfl (List.forall_mem_cons.mpr ⟨rfl, List.forall_mem_cons.mpr ⟨rfl, List.forall_mem_cons.mpr ⟨rfl, List.forall_mem_cons.mpr ⟨rfl, List.forall_mem_cons.mpr ⟨rfl, List.forall_mem_cons.mpr ⟨rfl, fun _ h => absurd h List.not_mem_nil⟩⟩⟩⟩⟩⟩) ?_
            refine cl_Told_falseThings_42 ?_ px_big _ _ _ _ _ h
            · intro x2 x3 out h
              refine px_D_st 2 (ip1 := 4) (ls1 := [(3, .inl (px_wr (x3 + 1))), (0, .inr (.inr 38)), (1, .inr (.inr 7)), (2, .inl (x2))]) (st1 := []) (h1 := (px_G1, s)) rfl ?_
              refine px_D_ls [(0, .inr (.inr 38)), (1, .inr (.inr 7)), (2, .inl (x2)), (3, .inl (px_wr (x3 + 1)))] rfl rfl (List.forall_mem_cons.mpr ⟨rfl, List.forall_mem_cons.mpr ⟨rfl, List.forall_mem_cons.mpr ⟨rfl, List.forall_mem_cons.mpr ⟨rfl, fun _ h => absurd h List.not_mem_nil⟩⟩⟩⟩) ?_
              exact ih _ _ _ h
          · have hc13 : ¬ ((s 42 x3.toNat) ≤ (s 8 (s 40 x3.toNat).toNat)) := of_decide_eq_false hc
            rw [if_neg hc13] at h
            refine px_D_st 8 (ip1 := 42) (ls1 := [(5, .inl (0)), (2, .inl (px_or (x2) ((px_shl (1) ((s 40 x3.toNat)))))), (4, .inl (s 40 x3.toNat)), (0, .inr (.inr 38)), (1, .inr (.inr 7)), (3, .inl (x3))]) (st1 := []) (h1 := (px_G1, s)) rfl ?_
            refine px_D_ls [(0, .inr (.inr 38)), (1, .inr (.inr 7)), (2, .inl (px_or (x2) ((px_shl (1) ((s 40 x3.toNat)))))), (3, .inl (x3)), (4, .inl (s 40 x3.toNat)), (5, .inl (0))] rfl rfl (List.forall_mem_cons.mpr ⟨rfl, List.forall_mem_cons.mpr ⟨rfl, List.forall_mem_cons.mpr ⟨rfl, List.forall_mem_cons.mpr ⟨rfl, List.forall_mem_cons.mpr ⟨rfl, List.forall_mem_cons.mpr ⟨rfl, fun _ h => absurd h List.not_mem_nil⟩⟩⟩⟩⟩⟩) ?_
            refine cl_Told_falseThings_42 ?_ px_big _ _ _ _ _ h
            · intro x2 x3 out h
              refine px_D_st 2 (ip1 := 4) (ls1 := [(3, .inl (px_wr (x3 + 1))), (0, .inr (.inr 38)), (1, .inr (.inr 7)), (2, .inl (x2))]) (st1 := []) (h1 := (px_G1, s)) rfl ?_
              refine px_D_ls [(0, .inr (.inr 38)), (1, .inr (.inr 7)), (2, .inl (x2)), (3, .inl (px_wr (x3 + 1)))] rfl rfl (List.forall_mem_cons.mpr ⟨rfl, List.forall_mem_cons.mpr ⟨rfl, List.forall_mem_cons.mpr ⟨rfl, List.forall_mem_cons.mpr ⟨rfl, fun _ h => absurd h List.not_mem_nil⟩⟩⟩⟩) ?_
              exact ih _ _ _ h
def f_Told_falseThings (s : px_Z) : Option (Int) := l_Told_falseThings_4 s  px_big 0 0
set_option maxHeartbeats 4000000 in
set_option maxRecDepth 100000 in
theorem c_Told_falseThings {sc : List Int} {d : Nat} {s : px_Z} {out : Int} (h : f_Told_falseThings s  = some out) : px_D sc (d + 1) 73 0 [(0, .inr (.inr 38)), (1, .inr (.inr 7))] [] (px_G1, s) (px_Qp s out) := by
  unfold f_Told_falseThings at h
  refine px_D_st 4 (ip1 := 4) (ls1 := [(3, .inl (0)), (2, .inl (0)), (0, .inr (.inr 38)), (1, .inr (.inr 7))]) (st1 := []) (h1 := (px_G1, s)) rfl ?_
  refine px_D_ls [(0, .inr (.inr 38)), (1, .inr (.inr 7)), (2, .inl (0)), (3, .inl (0))] rfl rfl (List.forall_mem_cons.mpr ⟨rfl, List.forall_mem_cons.mpr ⟨rfl, List.forall_mem_cons.mpr ⟨rfl, List.forall_mem_cons.mpr ⟨rfl, fun _ h => absurd h List.not_mem_nil⟩⟩⟩⟩) ?_
  refine cl_Told_falseThings_4  px_big _ _ _ h

def f_R_wrong (s : px_Z) : Option (Int) := (f_Told_falseThings s ).bind (fun q1 => some q1)
set_option maxHeartbeats 4000000 in
set_option maxRecDepth 100000 in
theorem c_R_wrong {sc : List Int} {d : Nat} {s : px_Z} {out : Int} (h : f_R_wrong s  = some out) : px_D sc (d + 2) 131 0 [(0, .inr (.inr 5))] [] (px_G1, s) (px_Qp s out) := by
  unfold f_R_wrong at h
  refine px_D_st 6 (ip1 := 6) (ls1 := [(0, .inr (.inr 5))]) (st1 := [.inr (.inr 7), .inr (.inr 38)]) (h1 := (px_G1, s)) rfl ?_
  refine px_D_call (as := [.inr (.inr 38), .inr (.inr 7)]) (rest := []) rfl rfl rfl rfl ?_
  obtain ⟨q1, hq1, h⟩ := Option.bind_eq_some_iff.mp h
  refine px_D_mono (c_Told_falseThings (d := d + 0) hq1) ?_
  rintro _ _ ⟨rfl, rfl⟩
  show px_D sc (d + 2) 131 7 [(0, .inr (.inr 5))] [.inl (q1)] (px_G1, s) _
  cases h
  exact px_D_iret rfl rfl ⟨rfl, rfl⟩

def l_World_creditLasts_6  : Nat → px_Z → Int → Int → Option (Int × px_Z)
  | 0, _, _, _ => none
  | n + 1, s, x1, x2 => if (60) < (x2) then some (((-1), s)) else (if (x1) = (0) then some (x2, s) else (f_World_eaten s (px_wr ((s 7 4) + x2)) (f_Math_max s 0 (px_wr ((s 7 3) - x2))) x1).bind (fun q3 => l_World_creditLasts_6  n q3.2 (f_Math_max q3.2 0 (px_wr (x1 - q3.1))) (px_wr (x2 + 1))))
set_option maxHeartbeats 4000000 in
set_option maxRecDepth 100000 in
theorem cl_World_creditLasts_6 {sc : List Int} {d : Nat}  : ∀ (n : Nat) (s : px_Z) (x1 : Int) (x2 : Int) (out : Int × px_Z), l_World_creditLasts_6  n s x1 x2 = some out → px_D sc (d + 4) 105 6 [(0, .inr (.inr 6)), (1, .inl (x1)), (2, .inl (x2))] [] (px_G1, s) (px_Qi out) := by
  intro n
  induction n with
  | zero => intro s x1 x2 out h; cases h
  | succ n ih =>
    intro s x1 x2 out h
    rw [l_World_creditLasts_6] at h
    refine px_D_st 2 (ip1 := 8) (ls1 := [(0, .inr (.inr 6)), (1, .inl (x1)), (2, .inl (x2))]) (st1 := [.inl (60), .inl (x2)]) (h1 := (px_G1, s)) rfl ?_
    refine px_D_icmp rfl (fun hc => ?_) (fun hc => ?_)
    · have hc1 : (60) < (x2) := of_decide_eq_true hc
      rw [if_pos hc1] at h
      refine px_D_st 1 (ip1 := 36) (ls1 := [(0, .inr (.inr 6)), (1, .inl (x1)), (2, .inl (x2))]) (st1 := [.inl ((-1))]) (h1 := (px_G1, s)) rfl ?_
      cases h
      exact px_D_iret rfl rfl ⟨rfl, rfl⟩
    · have hc1 : ¬ ((60) < (x2)) := of_decide_eq_false hc
      rw [if_neg hc1] at h
      refine px_D_st 1 (ip1 := 10) (ls1 := [(0, .inr (.inr 6)), (1, .inl (x1)), (2, .inl (x2))]) (st1 := [.inl (x1)]) (h1 := (px_G1, s)) rfl ?_
      refine px_D_ifc rfl (fun hc => ?_) (fun hc => ?_)
      · have hc2 : ¬ ((x1) = (0)) := of_decide_eq_true hc
        rw [if_neg hc2] at h
        refine px_D_st 14 (ip1 := 27) (ls1 := [(0, .inr (.inr 6)), (1, .inl (x1)), (2, .inl (x2))]) (st1 := [.inl (px_wr ((s 7 3) - x2)), .inl (0), .inl (px_wr ((s 7 4) + x2)), .inr (.inr 6), .inl (x1), .inl (0)]) (h1 := (px_G1, s)) rfl ?_
        refine px_D_call (as := [.inl (0), .inl (px_wr ((s 7 3) - x2))]) (rest := [.inl (px_wr ((s 7 4) + x2)), .inr (.inr 6), .inl (x1), .inl (0)]) rfl rfl rfl rfl ?_
        refine px_D_mono (c_Math_max (d := d + 3) rfl) ?_
        rintro _ _ ⟨rfl, rfl⟩
        show px_D sc (d + 4) 105 28 [(0, .inr (.inr 6)), (1, .inl (x1)), (2, .inl (x2))] [.inl (f_Math_max s 0 (px_wr ((s 7 3) - x2))), .inl (px_wr ((s 7 4) + x2)), .inr (.inr 6), .inl (x1), .inl (0)] (px_G1, s) _
        refine px_D_st 1 (ip1 := 29) (ls1 := [(0, .inr (.inr 6)), (1, .inl (x1)), (2, .inl (x2))]) (st1 := [.inl (x1), .inl (f_Math_max s 0 (px_wr ((s 7 3) - x2))), .inl (px_wr ((s 7 4) + x2)), .inr (.inr 6), .inl (x1), .inl (0)]) (h1 := (px_G1, s)) rfl ?_
        refine px_D_call (as := [.inr (.inr 6), .inl (px_wr ((s 7 4) + x2)), .inl (f_Math_max s 0 (px_wr ((s 7 3) - x2))), .inl (x1)]) (rest := [.inl (x1), .inl (0)]) rfl rfl rfl rfl ?_
        obtain ⟨q3, hq3, h⟩ := Option.bind_eq_some_iff.mp h
        refine px_D_mono (c_World_eaten (d := d + 0) hq3) ?_
        rintro _ _ ⟨rfl, rfl⟩
        show px_D sc (d + 4) 105 30 [(0, .inr (.inr 6)), (1, .inl (x1)), (2, .inl (x2))] [.inl (q3.1), .inl (x1), .inl (0)] (px_G1, q3.2) _
        refine px_D_st 1 (ip1 := 31) (ls1 := [(0, .inr (.inr 6)), (1, .inl (x1)), (2, .inl (x2))]) (st1 := [.inl (px_wr (x1 - q3.1)), .inl (0)]) (h1 := (px_G1, q3.2)) rfl ?_
        refine px_D_call (as := [.inl (0), .inl (px_wr (x1 - q3.1))]) (rest := []) rfl rfl rfl rfl ?_
        refine px_D_mono (c_Math_max (d := d + 3) rfl) ?_
        rintro _ _ ⟨rfl, rfl⟩
        show px_D sc (d + 4) 105 32 [(0, .inr (.inr 6)), (1, .inl (x1)), (2, .inl (x2))] [.inl (f_Math_max q3.2 0 (px_wr (x1 - q3.1)))] (px_G1, q3.2) _
        refine px_D_st 3 (ip1 := 6) (ls1 := [(2, .inl (px_wr (x2 + 1))), (1, .inl (f_Math_max q3.2 0 (px_wr (x1 - q3.1)))), (0, .inr (.inr 6))]) (st1 := []) (h1 := (px_G1, q3.2)) rfl ?_
        refine px_D_ls [(0, .inr (.inr 6)), (1, .inl (f_Math_max q3.2 0 (px_wr (x1 - q3.1)))), (2, .inl (px_wr (x2 + 1)))] rfl rfl (List.forall_mem_cons.mpr ⟨rfl, List.forall_mem_cons.mpr ⟨rfl, List.forall_mem_cons.mpr ⟨rfl, fun _ h => absurd h List.not_mem_nil⟩⟩⟩) ?_
        exact ih _ _ _ _ h
      · have hc2 : (x1) = (0) := Decidable.of_not_not (of_decide_eq_false hc)
        rw [if_pos hc2] at h
        refine px_D_st 1 (ip1 := 12) (ls1 := [(0, .inr (.inr 6)), (1, .inl (x1)), (2, .inl (x2))]) (st1 := [.inl (x2)]) (h1 := (px_G1, s)) rfl ?_
        cases h
        exact px_D_iret rfl rfl ⟨rfl, rfl⟩
def f_World_creditLasts (s : px_Z) : Option (Int × px_Z) := l_World_creditLasts_6  px_big s (s 7 2) 0
set_option maxHeartbeats 4000000 in
set_option maxRecDepth 100000 in
theorem c_World_creditLasts {sc : List Int} {d : Nat} {s : px_Z} {out : Int × px_Z} (h : f_World_creditLasts s  = some out) : px_D sc (d + 4) 105 0 [(0, .inr (.inr 6))] [] (px_G1, s) (px_Qi out) := by
  unfold f_World_creditLasts at h
  refine px_D_st 6 (ip1 := 6) (ls1 := [(2, .inl (0)), (1, .inl (s 7 2)), (0, .inr (.inr 6))]) (st1 := []) (h1 := (px_G1, s)) rfl ?_
  refine px_D_ls [(0, .inr (.inr 6)), (1, .inl (s 7 2)), (2, .inl (0))] rfl rfl (List.forall_mem_cons.mpr ⟨rfl, List.forall_mem_cons.mpr ⟨rfl, List.forall_mem_cons.mpr ⟨rfl, fun _ h => absurd h List.not_mem_nil⟩⟩⟩) ?_
  refine cl_World_creditLasts_6  px_big _ _ _ _ h

def f_R_lasts (s : px_Z) : Option (Int × px_Z) := (f_World_creditLasts s ).bind (fun q1 => some (q1.1, q1.2))
set_option maxHeartbeats 4000000 in
set_option maxRecDepth 100000 in
theorem c_R_lasts {sc : List Int} {d : Nat} {s : px_Z} {out : Int × px_Z} (h : f_R_lasts s  = some out) : px_D sc (d + 5) 132 0 [(0, .inr (.inr 5))] [] (px_G1, s) (px_Qi out) := by
  unfold f_R_lasts at h
  refine px_D_st 2 (ip1 := 2) (ls1 := [(0, .inr (.inr 5))]) (st1 := [.inr (.inr 6)]) (h1 := (px_G1, s)) rfl ?_
  refine px_D_call (as := [.inr (.inr 6)]) (rest := []) rfl rfl rfl rfl ?_
  obtain ⟨q1, hq1, h⟩ := Option.bind_eq_some_iff.mp h
  refine px_D_mono (c_World_creditLasts (d := d + 0) hq1) ?_
  rintro _ _ ⟨rfl, rfl⟩
  show px_D sc (d + 5) 132 3 [(0, .inr (.inr 5))] [.inl (q1.1)] (px_G1, q1.2) _
  cases h
  exact px_D_iret rfl rfl ⟨rfl, rfl⟩

def l_R_power_4 (s : px_Z)  : Nat → Int → Int → Int → Int → Option (Int)
  | 0, _, _, _, _ => none
  | n + 1, x0, x1, x2, x4 => if (x1) ≤ (x4) then some x2 else l_R_power_4 s  n x0 x1 (px_wl (x2 * x0)) (px_wr (x4 + 1))
set_option maxHeartbeats 4000000 in
set_option maxRecDepth 100000 in
theorem cl_R_power_4 {sc : List Int} {d : Nat} {s : px_Z}  : ∀ (n : Nat) (x0 : Int) (x1 : Int) (x2 : Int) (x4 : Int) (out : Int), l_R_power_4 s  n x0 x1 x2 x4 = some out → px_D sc (d + 0) 146 4 [(0, .inl (x0)), (1, .inl (x1)), (2, .inr (.inl (x2))), (4, .inl (x4))] [] (px_G1, s) (px_Qlp s out) := by
  intro n
  induction n with
  | zero => intro x0 x1 x2 x4 out h; cases h
  | succ n ih =>
    intro x0 x1 x2 x4 out h
    rw [l_R_power_4] at h
    refine px_D_st 2 (ip1 := 6) (ls1 := [(0, .inl (x0)), (1, .inl (x1)), (2, .inr (.inl (x2))), (4, .inl (x4))]) (st1 := [.inl (x1), .inl (x4)]) (h1 := (px_G1, s)) rfl ?_
    refine px_D_icmp rfl (fun hc => ?_) (fun hc => ?_)
    · have hc1 : (x1) ≤ (x4) := of_decide_eq_true hc
      rw [if_pos hc1] at h
      refine px_D_st 1 (ip1 := 15) (ls1 := [(0, .inl (x0)), (1, .inl (x1)), (2, .inr (.inl (x2))), (4, .inl (x4))]) (st1 := [.inr (.inl (x2))]) (h1 := (px_G1, s)) rfl ?_
      cases h
      exact px_D_lret rfl ⟨rfl, rfl⟩
    · have hc1 : ¬ ((x1) ≤ (x4)) := of_decide_eq_false hc
      rw [if_neg hc1] at h
      refine px_D_st 7 (ip1 := 4) (ls1 := [(4, .inl (px_wr (x4 + 1))), (2, .inr (.inl (px_wl (x2 * x0)))), (0, .inl (x0)), (1, .inl (x1))]) (st1 := []) (h1 := (px_G1, s)) rfl ?_
      refine px_D_ls [(0, .inl (x0)), (1, .inl (x1)), (2, .inr (.inl (px_wl (x2 * x0)))), (4, .inl (px_wr (x4 + 1)))] rfl rfl (List.forall_mem_cons.mpr ⟨rfl, List.forall_mem_cons.mpr ⟨rfl, List.forall_mem_cons.mpr ⟨rfl, List.forall_mem_cons.mpr ⟨rfl, fun _ h => absurd h List.not_mem_nil⟩⟩⟩⟩) ?_
      exact ih _ _ _ _ _ h
def f_R_power (s : px_Z) (x0 : Int) (x1 : Int) : Option (Int) := l_R_power_4 s  px_big x0 x1 1 0
set_option maxHeartbeats 4000000 in
set_option maxRecDepth 100000 in
theorem c_R_power {sc : List Int} {d : Nat} {s : px_Z} {x0 : Int} {x1 : Int} {out : Int} (h : f_R_power s x0 x1 = some out) : px_D sc (d + 0) 146 0 [(0, .inl (x0)), (1, .inl (x1))] [] (px_G1, s) (px_Qlp s out) := by
  unfold f_R_power at h
  refine px_D_st 4 (ip1 := 4) (ls1 := [(4, .inl (0)), (2, .inr (.inl (1))), (0, .inl (x0)), (1, .inl (x1))]) (st1 := []) (h1 := (px_G1, s)) rfl ?_
  refine px_D_ls [(0, .inl (x0)), (1, .inl (x1)), (2, .inr (.inl (1))), (4, .inl (0))] rfl rfl (List.forall_mem_cons.mpr ⟨rfl, List.forall_mem_cons.mpr ⟨rfl, List.forall_mem_cons.mpr ⟨rfl, List.forall_mem_cons.mpr ⟨rfl, fun _ h => absurd h List.not_mem_nil⟩⟩⟩⟩) ?_
  refine cl_R_power_4  px_big _ _ _ _ _ h

def l_R_commonPart_6 (s : px_Z)  : Nat → Int → Int → Int → Option (Int)
  | 0, _, _, _ => none
  | n + 1, x4, x6, x8 => if (200) ≤ (x8) then some x4 else (if ((if (x6) < (0) then -1 else if (x6) = (0) then 0 else 1)) = (0) then some x4 else (if (x6) = 0 then none else l_R_commonPart_6 s  n x6 (x4.tmod x6) (px_wr (x8 + 1))))
set_option maxHeartbeats 4000000 in
set_option maxRecDepth 100000 in
theorem cl_R_commonPart_6 {sc : List Int} {d : Nat} {s : px_Z}  : ∀ (n : Nat) (x4 : Int) (x6 : Int) (x8 : Int) (out : Int), l_R_commonPart_6 s  n x4 x6 x8 = some out → px_D sc (d + 0) 147 6 [(4, .inr (.inl (x4))), (6, .inr (.inl (x6))), (8, .inl (x8))] [] (px_G1, s) (px_Qlp s out) := by
  intro n
  induction n with
  | zero => intro x4 x6 x8 out h; cases h
  | succ n ih =>
    intro x4 x6 x8 out h
    rw [l_R_commonPart_6] at h
    refine px_D_st 2 (ip1 := 8) (ls1 := [(4, .inr (.inl (x4))), (6, .inr (.inl (x6))), (8, .inl (x8))]) (st1 := [.inl (200), .inl (x8)]) (h1 := (px_G1, s)) rfl ?_
    refine px_D_icmp rfl (fun hc => ?_) (fun hc => ?_)
    · have hc1 : (200) ≤ (x8) := of_decide_eq_true hc
      rw [if_pos hc1] at h
      refine px_D_st 1 (ip1 := 24) (ls1 := [(4, .inr (.inl (x4))), (6, .inr (.inl (x6))), (8, .inl (x8))]) (st1 := [.inr (.inl (x4))]) (h1 := (px_G1, s)) rfl ?_
      cases h
      exact px_D_lret rfl ⟨rfl, rfl⟩
    · have hc1 : ¬ ((200) ≤ (x8)) := of_decide_eq_false hc
      rw [if_neg hc1] at h
      refine px_D_st 3 (ip1 := 12) (ls1 := [(4, .inr (.inl (x4))), (6, .inr (.inl (x6))), (8, .inl (x8))]) (st1 := [.inl ((if (x6) < (0) then -1 else if (x6) = (0) then 0 else 1))]) (h1 := (px_G1, s)) rfl ?_
      refine px_D_ifc rfl (fun hc => ?_) (fun hc => ?_)
      · have hc2 : ((if (x6) < (0) then -1 else if (x6) = (0) then 0 else 1)) = (0) := of_decide_eq_true hc
        rw [if_pos hc2] at h
        refine px_D_st 1 (ip1 := 24) (ls1 := [(4, .inr (.inl (x4))), (6, .inr (.inl (x6))), (8, .inl (x8))]) (st1 := [.inr (.inl (x4))]) (h1 := (px_G1, s)) rfl ?_
        cases h
        exact px_D_lret rfl ⟨rfl, rfl⟩
      · have hc2 : ¬ (((if (x6) < (0) then -1 else if (x6) = (0) then 0 else 1)) = (0)) := of_decide_eq_false hc
        rw [if_neg hc2] at h
        refine px_D_st 2 (ip1 := 15) (ls1 := [(4, .inr (.inl (x4))), (6, .inr (.inl (x6))), (8, .inl (x8))]) (st1 := [.inr (.inl (x6)), .inr (.inl (x4))]) (h1 := (px_G1, s)) rfl ?_
        by_cases hc3 : (x6) = 0
        · rw [if_pos hc3] at h; cases h
        rw [if_neg hc3] at h
        refine px_D_lrem rfl hc3 ?_
        refine px_D_st 7 (ip1 := 6) (ls1 := [(8, .inl (px_wr (x8 + 1))), (6, .inr (.inl (x4.tmod x6))), (4, .inr (.inl (x6))), (9, .inr (.inl (x4.tmod x6)))]) (st1 := []) (h1 := (px_G1, s)) rfl ?_
        refine px_D_ls [(4, .inr (.inl (x6))), (6, .inr (.inl (x4.tmod x6))), (8, .inl (px_wr (x8 + 1)))] rfl rfl (List.forall_mem_cons.mpr ⟨rfl, List.forall_mem_cons.mpr ⟨rfl, List.forall_mem_cons.mpr ⟨rfl, fun _ h => absurd h List.not_mem_nil⟩⟩⟩) ?_
        exact ih _ _ _ _ h
def f_R_commonPart (s : px_Z) (x0 : Int) (x2 : Int) : Option (Int) := l_R_commonPart_6 s  px_big x0 x2 0
set_option maxHeartbeats 4000000 in
set_option maxRecDepth 100000 in
theorem c_R_commonPart {sc : List Int} {d : Nat} {s : px_Z} {x0 : Int} {x2 : Int} {out : Int} (h : f_R_commonPart s x0 x2 = some out) : px_D sc (d + 0) 147 0 [(0, .inr (.inl (x0))), (2, .inr (.inl (x2)))] [] (px_G1, s) (px_Qlp s out) := by
  unfold f_R_commonPart at h
  refine px_D_st 6 (ip1 := 6) (ls1 := [(8, .inl (0)), (6, .inr (.inl (x2))), (4, .inr (.inl (x0))), (0, .inr (.inl (x0))), (2, .inr (.inl (x2)))]) (st1 := []) (h1 := (px_G1, s)) rfl ?_
  refine px_D_ls [(4, .inr (.inl (x0))), (6, .inr (.inl (x2))), (8, .inl (0))] rfl rfl (List.forall_mem_cons.mpr ⟨rfl, List.forall_mem_cons.mpr ⟨rfl, List.forall_mem_cons.mpr ⟨rfl, fun _ h => absurd h List.not_mem_nil⟩⟩⟩) ?_
  refine cl_R_commonPart_6  px_big _ _ _ _ h
