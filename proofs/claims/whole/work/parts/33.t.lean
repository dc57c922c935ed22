def f_M_isIn (s : px_Z) (x1 : Int) (x2 : Int) (x3 : Int) : Int := if (x1) < (x2) then 0 else (if (x3) < (x1) then 0 else 1)
set_option maxHeartbeats 4000000 in
set_option maxRecDepth 100000 in
theorem c_M_isIn {sc : List Int} {d : Nat} {s : px_Z} {x1 : Int} {x2 : Int} {x3 : Int} {out : Int} (h : f_M_isIn s x1 x2 x3 = out) : px_D sc (d + 0) 146 0 [(0, .inr (.inr 149)), (1, .inl (x1)), (2, .inl (x2)), (3, .inl (x3))] [] (px_G1, s) (px_Qp s out) := by
  unfold f_M_isIn at h
  refine px_D_st 2 (ip1 := 2) (ls1 := [(0, .inr (.inr 149)), (1, .inl (x1)), (2, .inl (x2)), (3, .inl (x3))]) (st1 := [.inl (x2), .inl (x1)]) (h1 := (px_G1, s)) rfl ?_
  refine px_D_icmp rfl (fun hc => ?_) (fun hc => ?_)
  · have hc1 : (x1) < (x2) := of_decide_eq_true hc
    rw [if_pos hc1] at h
    refine px_D_st 1 (ip1 := 9) (ls1 := [(0, .inr (.inr 149)), (1, .inl (x1)), (2, .inl (x2)), (3, .inl (x3))]) (st1 := [.inl (0)]) (h1 := (px_G1, s)) rfl ?_
    subst h
    exact px_D_iret rfl rfl ⟨rfl, rfl⟩
  · have hc1 : ¬ ((x1) < (x2)) := of_decide_eq_false hc
    rw [if_neg hc1] at h
    refine px_D_st 2 (ip1 := 5) (ls1 := [(0, .inr (.inr 149)), (1, .inl (x1)), (2, .inl (x2)), (3, .inl (x3))]) (st1 := [.inl (x3), .inl (x1)]) (h1 := (px_G1, s)) rfl ?_
    refine px_D_icmp rfl (fun hc => ?_) (fun hc => ?_)
    · have hc2 : (x3) < (x1) := of_decide_eq_true hc
      rw [if_pos hc2] at h
      refine px_D_st 1 (ip1 := 9) (ls1 := [(0, .inr (.inr 149)), (1, .inl (x1)), (2, .inl (x2)), (3, .inl (x3))]) (st1 := [.inl (0)]) (h1 := (px_G1, s)) rfl ?_
      subst h
      exact px_D_iret rfl rfl ⟨rfl, rfl⟩
    · have hc2 : ¬ ((x3) < (x1)) := of_decide_eq_false hc
      rw [if_neg hc2] at h
      refine px_D_st 2 (ip1 := 9) (ls1 := [(0, .inr (.inr 149)), (1, .inl (x1)), (2, .inl (x2)), (3, .inl (x3))]) (st1 := [.inl (1)]) (h1 := (px_G1, s)) rfl ?_
      subst h
      exact px_D_iret rfl rfl ⟨rfl, rfl⟩
set_option maxHeartbeats 4000000 in
set_option maxRecDepth 100000 in
theorem bz_M_isIn {s : px_Z} {x1 : Int} {x2 : Int} {x3 : Int} : f_M_isIn s x1 x2 x3 = 0 ∨ f_M_isIn s x1 x2 x3 = 1 := by
  unfold f_M_isIn
  repeat' split
  all_goals first | exact Or.inl rfl | exact Or.inr rfl | exact bz_isx

def f_M_held (s : px_Z) (x1 : Int) (x2 : Int) (x3 : Int) : Int := if (x2) ≤ (x1) then (if (x1) ≤ (x3) then x1 else x3) else x2
set_option maxHeartbeats 4000000 in
set_option maxRecDepth 100000 in
theorem c_M_held {sc : List Int} {d : Nat} {s : px_Z} {x1 : Int} {x2 : Int} {x3 : Int} {out : Int} (h : f_M_held s x1 x2 x3 = out) : px_D sc (d + 0) 147 0 [(0, .inr (.inr 149)), (1, .inl (x1)), (2, .inl (x2)), (3, .inl (x3))] [] (px_G1, s) (px_Qp s out) := by
  unfold f_M_held at h
  refine px_D_st 2 (ip1 := 2) (ls1 := [(0, .inr (.inr 149)), (1, .inl (x1)), (2, .inl (x2)), (3, .inl (x3))]) (st1 := [.inl (x2), .inl (x1)]) (h1 := (px_G1, s)) rfl ?_
  refine px_D_icmp rfl (fun hc => ?_) (fun hc => ?_)
  · have hc1 : (x2) ≤ (x1) := of_decide_eq_true hc
    rw [if_pos hc1] at h
    refine px_D_st 2 (ip1 := 7) (ls1 := [(0, .inr (.inr 149)), (1, .inl (x1)), (2, .inl (x2)), (3, .inl (x3))]) (st1 := [.inl (x3), .inl (x1)]) (h1 := (px_G1, s)) rfl ?_
    refine px_D_icmp rfl (fun hc => ?_) (fun hc => ?_)
    · have hc2 : (x1) ≤ (x3) := of_decide_eq_true hc
      rw [if_pos hc2] at h
      refine px_D_st 1 (ip1 := 11) (ls1 := [(0, .inr (.inr 149)), (1, .inl (x1)), (2, .inl (x2)), (3, .inl (x3))]) (st1 := [.inl (x1)]) (h1 := (px_G1, s)) rfl ?_
      subst h
      exact px_D_iret rfl rfl ⟨rfl, rfl⟩
    · have hc2 : ¬ ((x1) ≤ (x3)) := of_decide_eq_false hc
      rw [if_neg hc2] at h
      refine px_D_st 2 (ip1 := 11) (ls1 := [(0, .inr (.inr 149)), (1, .inl (x1)), (2, .inl (x2)), (3, .inl (x3))]) (st1 := [.inl (x3)]) (h1 := (px_G1, s)) rfl ?_
      subst h
      exact px_D_iret rfl rfl ⟨rfl, rfl⟩
  · have hc1 : ¬ ((x2) ≤ (x1)) := of_decide_eq_false hc
    rw [if_neg hc1] at h
    refine px_D_st 2 (ip1 := 11) (ls1 := [(0, .inr (.inr 149)), (1, .inl (x1)), (2, .inl (x2)), (3, .inl (x3))]) (st1 := [.inl (x2)]) (h1 := (px_G1, s)) rfl ?_
    subst h
    exact px_D_iret rfl rfl ⟨rfl, rfl⟩

def f_M_greater (s : px_Z) (x1 : Int) (x2 : Int) : Int := if (x1) ≤ (x2) then x2 else x1
set_option maxHeartbeats 4000000 in
set_option maxRecDepth 100000 in
theorem c_M_greater {sc : List Int} {d : Nat} {s : px_Z} {x1 : Int} {x2 : Int} {out : Int} (h : f_M_greater s x1 x2 = out) : px_D sc (d + 0) 148 0 [(0, .inr (.inr 149)), (1, .inl (x1)), (2, .inl (x2))] [] (px_G1, s) (px_Qp s out) := by
  unfold f_M_greater at h
  refine px_D_st 2 (ip1 := 2) (ls1 := [(0, .inr (.inr 149)), (1, .inl (x1)), (2, .inl (x2))]) (st1 := [.inl (x2), .inl (x1)]) (h1 := (px_G1, s)) rfl ?_
  refine px_D_icmp rfl (fun hc => ?_) (fun hc => ?_)
  · have hc1 : (x1) ≤ (x2) := of_decide_eq_true hc
    rw [if_pos hc1] at h
    refine px_D_st 1 (ip1 := 6) (ls1 := [(0, .inr (.inr 149)), (1, .inl (x1)), (2, .inl (x2))]) (st1 := [.inl (x2)]) (h1 := (px_G1, s)) rfl ?_
    subst h
    exact px_D_iret rfl rfl ⟨rfl, rfl⟩
  · have hc1 : ¬ ((x1) ≤ (x2)) := of_decide_eq_false hc
    rw [if_neg hc1] at h
    refine px_D_st 2 (ip1 := 6) (ls1 := [(0, .inr (.inr 149)), (1, .inl (x1)), (2, .inl (x2))]) (st1 := [.inl (x1)]) (h1 := (px_G1, s)) rfl ?_
    subst h
    exact px_D_iret rfl rfl ⟨rfl, rfl⟩

def l_M_onesOf_4 (s : px_Z) (k17 : Int → Option (Int)) : Nat → Int → Int → Option (Int)
  | 0, _, _ => none
  | n + 1, x2, x3 => if (x3) = (0) then k17 x2 else l_M_onesOf_4 s k17 n (px_wr (x2 + 1)) (px_and (x3) ((px_wr (x3 - 1))))
set_option maxHeartbeats 4000000 in
set_option maxRecDepth 100000 in
theorem cl_M_onesOf_4 {sc : List Int} {d : Nat} {s : px_Z} {k17 : Int → Option (Int)}  (hk17 : ∀ (y2 : Int) (out : Int), k17 y2 = some out → px_D sc (d + 0) 149 17 [(2, .inl (y2))] [] (px_G1, s) (px_Qp s out)) : ∀ (n : Nat) (x2 : Int) (x3 : Int) (out : Int), l_M_onesOf_4 s k17 n x2 x3 = some out → px_D sc (d + 0) 149 4 [(2, .inl (x2)), (3, .inl (x3))] [] (px_G1, s) (px_Qp s out) := by
  intro n
  induction n with
  | zero => intro x2 x3 out h; cases h
  | succ n ih =>
    intro x2 x3 out h
    rw [l_M_onesOf_4] at h
    refine px_D_st 1 (ip1 := 5) (ls1 := [(2, .inl (x2)), (3, .inl (x3))]) (st1 := [.inl (x3)]) (h1 := (px_G1, s)) rfl ?_
    refine px_D_ifc rfl (fun hc => ?_) (fun hc => ?_)
    · have hc1 : (x3) = (0) := of_decide_eq_true hc
      rw [if_pos hc1] at h
      refine px_D_ls [(2, .inl (x2))] rfl rfl (List.forall_mem_cons.mpr ⟨rfl, fun _ h => absurd h List.not_mem_nil⟩) ?_
      exact hk17 _ _ h
    · have hc1 : ¬ ((x3) = (0)) := of_decide_eq_false hc
      rw [if_neg hc1] at h
      refine px_D_st 11 (ip1 := 4) (ls1 := [(3, .inl (px_and (x3) ((px_wr (x3 - 1))))), (2, .inl (px_wr (x2 + 1)))]) (st1 := []) (h1 := (px_G1, s)) rfl ?_
      refine px_D_ls [(2, .inl (px_wr (x2 + 1))), (3, .inl (px_and (x3) ((px_wr (x3 - 1)))))] rfl rfl (List.forall_mem_cons.mpr ⟨rfl, List.forall_mem_cons.mpr ⟨rfl, fun _ h => absurd h List.not_mem_nil⟩⟩) ?_
      exact ih _ _ _ h
def f_M_onesOf (s : px_Z) (x1 : Int) : Option (Int) := l_M_onesOf_4 s (fun x2 => some x2) px_big 0 x1
set_option maxHeartbeats 4000000 in
set_option maxRecDepth 100000 in
theorem c_M_onesOf {sc : List Int} {d : Nat} {s : px_Z} {x1 : Int} {out : Int} (h : f_M_onesOf s x1 = some out) : px_D sc (d + 0) 149 0 [(0, .inr (.inr 149)), (1, .inl (x1))] [] (px_G1, s) (px_Qp s out) := by
  unfold f_M_onesOf at h
  refine px_D_st 4 (ip1 := 4) (ls1 := [(3, .inl (x1)), (2, .inl (0)), (0, .inr (.inr 149)), (1, .inl (x1))]) (st1 := []) (h1 := (px_G1, s)) rfl ?_
  refine px_D_ls [(2, .inl (0)), (3, .inl (x1))] rfl rfl (List.forall_mem_cons.mpr ⟨rfl, List.forall_mem_cons.mpr ⟨rfl, fun _ h => absurd h List.not_mem_nil⟩⟩) ?_
  refine cl_M_onesOf_4 ?_ px_big _ _ _ h
  · intro x2 out h
    refine px_D_st 1 (ip1 := 18) (ls1 := [(2, .inl (x2))]) (st1 := [.inl (x2)]) (h1 := (px_G1, s)) rfl ?_
    cases h
    exact px_D_iret rfl rfl ⟨rfl, rfl⟩

def l_M_undo_16 (k34 : px_Z → Option (Int × px_Z)) : Nat → px_Z → Int → Option (Int × px_Z)
  | 0, _, _ => none
  | n + 1, s, x1 => if (40) ≤ (x1) then k34 s  else (if 0 ≤ (px_wr ((px_wr (40 * (s 149 3))) + x1)) ∧ (px_wr ((px_wr (40 * (s 149 3))) + x1)) < 240 then if 0 ≤ (x1) ∧ (x1) < 40 then l_M_undo_16 k34 n (px_up s 150 x1.toNat (s 151 (px_wr ((px_wr (40 * (s 149 3))) + x1)).toNat)) (px_wr (x1 + 1)) else none else none)
set_option maxHeartbeats 4000000 in
set_option maxRecDepth 100000 in
theorem cl_M_undo_16 {sc : List Int} {d : Nat} {k34 : px_Z → Option (Int × px_Z)}  (hk34 : ∀ (s : px_Z) (out : Int × px_Z), k34 s  = some out → px_D sc (d + 0) 151 34 [] [] (px_G1, s) (px_Qi out)) : ∀ (n : Nat) (s : px_Z) (x1 : Int) (out : Int × px_Z), l_M_undo_16 k34 n s x1 = some out → px_D sc (d + 0) 151 16 [(0, .inr (.inr 149)), (1, .inl (x1))] [] (px_G1, s) (px_Qi out) := by
  intro n
  induction n with
  | zero => intro s x1 out h; cases h
  | succ n ih =>
    intro s x1 out h
    rw [l_M_undo_16] at h
    refine px_D_st 2 (ip1 := 18) (ls1 := [(0, .inr (.inr 149)), (1, .inl (x1))]) (st1 := [.inl (40), .inl (x1)]) (h1 := (px_G1, s)) rfl ?_
    refine px_D_icmp rfl (fun hc => ?_) (fun hc => ?_)
    · have hc2 : (40) ≤ (x1) := of_decide_eq_true hc
      rw [if_pos hc2] at h
      refine px_D_ls [] rfl rfl (fun _ h => absurd h List.not_mem_nil) ?_
      exact hk34 _ _ h
    · have hc2 : ¬ ((40) ≤ (x1)) := of_decide_eq_false hc
      rw [if_neg hc2] at h
      refine px_D_st 11 (ip1 := 30) (ls1 := [(0, .inr (.inr 149)), (1, .inl (x1))]) (st1 := [.inl (px_wr ((px_wr (40 * (s 149 3))) + x1)), .inr (.inr 151), .inl (x1), .inr (.inr 150)]) (h1 := (px_G1, s)) rfl ?_
      by_cases hc3 : 0 ≤ (px_wr ((px_wr (40 * (s 149 3))) + x1)) ∧ (px_wr ((px_wr (40 * (s 149 3))) + x1)) < 240
      case neg => rw [if_neg hc3] at h; cases h
      rw [if_pos hc3] at h
      refine px_D_iald (k := 146) (n := 240) rfl rfl hc3 ?_
      by_cases hc4 : 0 ≤ (x1) ∧ (x1) < 40
      case neg => rw [if_neg hc4] at h; cases h
      rw [if_pos hc4] at h
      refine px_D_iast (k := 145) (n := 40) rfl rfl hc4 ?_
      refine px_D_st 2 (ip1 := 16) (ls1 := [(1, .inl (px_wr (x1 + 1))), (0, .inr (.inr 149))]) (st1 := []) (h1 := (px_G1, px_up s 150 x1.toNat (s 151 (px_wr ((px_wr (40 * (s 149 3))) + x1)).toNat))) rfl ?_
      refine px_D_ls [(0, .inr (.inr 149)), (1, .inl (px_wr (x1 + 1)))] rfl rfl (List.forall_mem_cons.mpr ⟨rfl, List.forall_mem_cons.mpr ⟨rfl, fun _ h => absurd h List.not_mem_nil⟩⟩) ?_
      exact ih _ _ _ h
def f_M_undo (s : px_Z) : Option (Int × px_Z) := if ((px_up s 149 0 0) 149 3) = (0) then some (0, px_up s 149 0 0) else l_M_undo_16 (fun s => some (1, s)) px_big (px_up (px_up s 149 0 0) 149 3 (px_wr (((px_up s 149 0 0) 149 3) - 1))) 0
set_option maxHeartbeats 4000000 in
set_option maxRecDepth 100000 in
theorem c_M_undo {sc : List Int} {d : Nat} {s : px_Z} {out : Int × px_Z} (h : f_M_undo s  = some out) : px_D sc (d + 0) 151 0 [(0, .inr (.inr 149))] [] (px_G1, s) (px_Qi out) := by
  unfold f_M_undo at h
  refine px_D_st 5 (ip1 := 5) (ls1 := [(0, .inr (.inr 149))]) (st1 := [.inl ((px_up s 149 0 0) 149 3)]) (h1 := (px_G1, px_up s 149 0 0)) rfl ?_
  refine px_D_ifc rfl (fun hc => ?_) (fun hc => ?_)
  · have hc1 : ¬ (((px_up s 149 0 0) 149 3) = (0)) := of_decide_eq_true hc
    rw [if_neg hc1] at h
    refine px_D_st 8 (ip1 := 16) (ls1 := [(1, .inl (0)), (0, .inr (.inr 149))]) (st1 := []) (h1 := (px_G1, px_up (px_up s 149 0 0) 149 3 (px_wr (((px_up s 149 0 0) 149 3) - 1)))) rfl ?_
    refine px_D_ls [(0, .inr (.inr 149)), (1, .inl (0))] rfl rfl (List.forall_mem_cons.mpr ⟨rfl, List.forall_mem_cons.mpr ⟨rfl, fun _ h => absurd h List.not_mem_nil⟩⟩) ?_
    refine cl_M_undo_16 ?_ px_big _ _ _ h
    · intro s out h
      refine px_D_st 1 (ip1 := 35) (ls1 := []) (st1 := [.inl (1)]) (h1 := (px_G1, s)) rfl ?_
      cases h
      exact px_D_iret rfl rfl ⟨rfl, rfl⟩
  · have hc1 : ((px_up s 149 0 0) 149 3) = (0) := Decidable.of_not_not (of_decide_eq_false hc)
    rw [if_pos hc1] at h
    refine px_D_st 1 (ip1 := 7) (ls1 := [(0, .inr (.inr 149))]) (st1 := [.inl (0)]) (h1 := (px_G1, px_up s 149 0 0)) rfl ?_
    cases h
    exact px_D_iret rfl rfl ⟨rfl, rfl⟩

def l_M_thinks_2 (k15 : px_Z → Option (px_Z)) : Nat → px_Z → Int → Option (px_Z)
  | 0, _, _ => none
  | n + 1, s, x1 => if (40) ≤ (x1) then k15 s  else (if 0 ≤ (x1) ∧ (x1) < 40 then if 0 ≤ (x1) ∧ (x1) < 40 then l_M_thinks_2 k15 n (px_up s 152 x1.toNat (s 150 x1.toNat)) (px_wr (x1 + 1)) else none else none)
set_option maxHeartbeats 4000000 in
set_option maxRecDepth 100000 in
theorem cl_M_thinks_2 {sc : List Int} {d : Nat} {k15 : px_Z → Option (px_Z)}  (hk15 : ∀ (s : px_Z) (out : px_Z), k15 s  = some out → px_D sc (d + 0) 152 15 [(0, .inr (.inr 149))] [] (px_G1, s) (px_Qv out)) : ∀ (n : Nat) (s : px_Z) (x1 : Int) (out : px_Z), l_M_thinks_2 k15 n s x1 = some out → px_D sc (d + 0) 152 2 [(0, .inr (.inr 149)), (1, .inl (x1))] [] (px_G1, s) (px_Qv out) := by
  intro n
  induction n with
  | zero => intro s x1 out h; cases h
  | succ n ih =>
    intro s x1 out h
    rw [l_M_thinks_2] at h
    refine px_D_st 2 (ip1 := 4) (ls1 := [(0, .inr (.inr 149)), (1, .inl (x1))]) (st1 := [.inl (40), .inl (x1)]) (h1 := (px_G1, s)) rfl ?_
    refine px_D_icmp rfl (fun hc => ?_) (fun hc => ?_)
    · have hc1 : (40) ≤ (x1) := of_decide_eq_true hc
      rw [if_pos hc1] at h
      refine px_D_ls [(0, .inr (.inr 149))] rfl rfl (List.forall_mem_cons.mpr ⟨rfl, fun _ h => absurd h List.not_mem_nil⟩) ?_
      exact hk15 _ _ h
    · have hc1 : ¬ ((40) ≤ (x1)) := of_decide_eq_false hc
      rw [if_neg hc1] at h
      refine px_D_st 6 (ip1 := 11) (ls1 := [(0, .inr (.inr 149)), (1, .inl (x1))]) (st1 := [.inl (x1), .inr (.inr 150), .inl (x1), .inr (.inr 152)]) (h1 := (px_G1, s)) rfl ?_
      by_cases hc2 : 0 ≤ (x1) ∧ (x1) < 40
      case neg => rw [if_neg hc2] at h; cases h
      rw [if_pos hc2] at h
      refine px_D_iald (k := 145) (n := 40) rfl rfl hc2 ?_
      by_cases hc3 : 0 ≤ (x1) ∧ (x1) < 40
      case neg => rw [if_neg hc3] at h; cases h
      rw [if_pos hc3] at h
      refine px_D_iast (k := 147) (n := 40) rfl rfl hc3 ?_
      refine px_D_st 2 (ip1 := 2) (ls1 := [(1, .inl (px_wr (x1 + 1))), (0, .inr (.inr 149))]) (st1 := []) (h1 := (px_G1, px_up s 152 x1.toNat (s 150 x1.toNat))) rfl ?_
      refine px_D_ls [(0, .inr (.inr 149)), (1, .inl (px_wr (x1 + 1)))] rfl rfl (List.forall_mem_cons.mpr ⟨rfl, List.forall_mem_cons.mpr ⟨rfl, fun _ h => absurd h List.not_mem_nil⟩⟩) ?_
      exact ih _ _ _ h
def f_M_thinks (s : px_Z) : Option (px_Z) := l_M_thinks_2 (fun s => some (px_up s 149 5 1)) px_big s 0
set_option maxHeartbeats 4000000 in
set_option maxRecDepth 100000 in
theorem c_M_thinks {sc : List Int} {d : Nat} {s : px_Z} {out : px_Z} (h : f_M_thinks s  = some out) : px_D sc (d + 0) 152 0 [(0, .inr (.inr 149))] [] (px_G1, s) (px_Qv out) := by
  unfold f_M_thinks at h
  refine px_D_st 2 (ip1 := 2) (ls1 := [(1, .inl (0)), (0, .inr (.inr 149))]) (st1 := []) (h1 := (px_G1, s)) rfl ?_
  refine px_D_ls [(0, .inr (.inr 149)), (1, .inl (0))] rfl rfl (List.forall_mem_cons.mpr ⟨rfl, List.forall_mem_cons.mpr ⟨rfl, fun _ h => absurd h List.not_mem_nil⟩⟩) ?_
  refine cl_M_thinks_2 ?_ px_big _ _ _ h
  · intro s out h
    refine px_D_st 3 (ip1 := 18) (ls1 := [(0, .inr (.inr 149))]) (st1 := []) (h1 := (px_G1, px_up s 149 5 1)) rfl ?_
    cases h
    exact px_D_vret rfl ⟨rfl, rfl⟩

def l_M_endsThought_2 (k15 : px_Z → Option (px_Z)) : Nat → px_Z → Int → Option (px_Z)
  | 0, _, _ => none
  | n + 1, s, x1 => if (40) ≤ (x1) then k15 s  else (if 0 ≤ (x1) ∧ (x1) < 40 then if 0 ≤ (x1) ∧ (x1) < 40 then l_M_endsThought_2 k15 n (px_up s 150 x1.toNat (s 152 x1.toNat)) (px_wr (x1 + 1)) else none else none)
set_option maxHeartbeats 4000000 in
set_option maxRecDepth 100000 in
theorem cl_M_endsThought_2 {sc : List Int} {d : Nat} {k15 : px_Z → Option (px_Z)}  (hk15 : ∀ (s : px_Z) (out : px_Z), k15 s  = some out → px_D sc (d + 0) 153 15 [(0, .inr (.inr 149))] [] (px_G1, s) (px_Qv out)) : ∀ (n : Nat) (s : px_Z) (x1 : Int) (out : px_Z), l_M_endsThought_2 k15 n s x1 = some out → px_D sc (d + 0) 153 2 [(0, .inr (.inr 149)), (1, .inl (x1))] [] (px_G1, s) (px_Qv out) := by
  intro n
  induction n with
  | zero => intro s x1 out h; cases h
  | succ n ih =>
    intro s x1 out h
    rw [l_M_endsThought_2] at h
    refine px_D_st 2 (ip1 := 4) (ls1 := [(0, .inr (.inr 149)), (1, .inl (x1))]) (st1 := [.inl (40), .inl (x1)]) (h1 := (px_G1, s)) rfl ?_
    refine px_D_icmp rfl (fun hc => ?_) (fun hc => ?_)
    · have hc1 : (40) ≤ (x1) := of_decide_eq_true hc
      rw [if_pos hc1] at h
      refine px_D_ls [(0, .inr (.inr 149))] rfl rfl (List.forall_mem_cons.mpr ⟨rfl, fun _ h => absurd h List.not_mem_nil⟩) ?_
      exact hk15 _ _ h
    · have hc1 : ¬ ((40) ≤ (x1)) := of_decide_eq_false hc
      rw [if_neg hc1] at h
      refine px_D_st 6 (ip1 := 11) (ls1 := [(0, .inr (.inr 149)), (1, .inl (x1))]) (st1 := [.inl (x1), .inr (.inr 152), .inl (x1), .inr (.inr 150)]) (h1 := (px_G1, s)) rfl ?_
      by_cases hc2 : 0 ≤ (x1) ∧ (x1) < 40
      case neg => rw [if_neg hc2] at h; cases h
      rw [if_pos hc2] at h
      refine px_D_iald (k := 147) (n := 40) rfl rfl hc2 ?_
      by_cases hc3 : 0 ≤ (x1) ∧ (x1) < 40
      case neg => rw [if_neg hc3] at h; cases h
      rw [if_pos hc3] at h
      refine px_D_iast (k := 145) (n := 40) rfl rfl hc3 ?_
      refine px_D_st 2 (ip1 := 2) (ls1 := [(1, .inl (px_wr (x1 + 1))), (0, .inr (.inr 149))]) (st1 := []) (h1 := (px_G1, px_up s 150 x1.toNat (s 152 x1.toNat))) rfl ?_
      refine px_D_ls [(0, .inr (.inr 149)), (1, .inl (px_wr (x1 + 1)))] rfl rfl (List.forall_mem_cons.mpr ⟨rfl, List.forall_mem_cons.mpr ⟨rfl, fun _ h => absurd h List.not_mem_nil⟩⟩) ?_
      exact ih _ _ _ h
def f_M_endsThought (s : px_Z) : Option (px_Z) := l_M_endsThought_2 (fun s => some (px_up s 149 5 0)) px_big s 0
set_option maxHeartbeats 4000000 in
set_option maxRecDepth 100000 in
theorem c_M_endsThought {sc : List Int} {d : Nat} {s : px_Z} {out : px_Z} (h : f_M_endsThought s  = some out) : px_D sc (d + 0) 153 0 [(0, .inr (.inr 149))] [] (px_G1, s) (px_Qv out) := by
  unfold f_M_endsThought at h
  refine px_D_st 2 (ip1 := 2) (ls1 := [(1, .inl (0)), (0, .inr (.inr 149))]) (st1 := []) (h1 := (px_G1, s)) rfl ?_
  refine px_D_ls [(0, .inr (.inr 149)), (1, .inl (0))] rfl rfl (List.forall_mem_cons.mpr ⟨rfl, List.forall_mem_cons.mpr ⟨rfl, fun _ h => absurd h List.not_mem_nil⟩⟩) ?_
  refine cl_M_endsThought_2 ?_ px_big _ _ _ h
  · intro s out h
    refine px_D_st 3 (ip1 := 18) (ls1 := [(0, .inr (.inr 149))]) (st1 := []) (h1 := (px_G1, px_up s 149 5 0)) rfl ?_
    cases h
    exact px_D_vret rfl ⟨rfl, rfl⟩

def f_M_state (s : px_Z) (x1 : Int) : Option (Int × px_Z) := some (((px_up s 149 0 0) 150 1, px_up (px_up (px_up s 149 0 0) 150 1 x1) 149 3 0))
set_option maxHeartbeats 4000000 in
set_option maxRecDepth 100000 in
theorem c_M_state {sc : List Int} {d : Nat} {s : px_Z} {x1 : Int} {out : Int × px_Z} (h : f_M_state s x1 = some out) : px_D sc (d + 0) 154 0 [(0, .inr (.inr 149)), (1, .inl (x1))] [] (px_G1, s) (px_Qi out) := by
  unfold f_M_state at h
  refine px_D_st 17 (ip1 := 17) (ls1 := [(2, .inl ((px_up s 149 0 0) 150 1)), (0, .inr (.inr 149)), (1, .inl (x1))]) (st1 := [.inl ((px_up s 149 0 0) 150 1)]) (h1 := (px_G1, px_up (px_up (px_up s 149 0 0) 150 1 x1) 149 3 0)) rfl ?_
  cases h
  exact px_D_iret rfl rfl ⟨rfl, rfl⟩

def f_M_draw (s : px_Z) (x1 : Int) : Option (Int × px_Z) := if (x1) = 0 then none else some (((px_ush (((px_up s 150 1 (px_wr ((px_wr (1664525 * (s 150 1))) + 1013904223))) 150 1)) (8)).tmod x1, px_up s 150 1 (px_wr ((px_wr (1664525 * (s 150 1))) + 1013904223))))
set_option maxHeartbeats 4000000 in
set_option maxRecDepth 100000 in
theorem c_M_draw {sc : List Int} {d : Nat} {s : px_Z} {x1 : Int} {out : Int × px_Z} (h : f_M_draw s x1 = some out) : px_D sc (d + 0) 155 0 [(0, .inr (.inr 149)), (1, .inl (x1))] [] (px_G1, s) (px_Qi out) := by
  unfold f_M_draw at h
  refine px_D_st 19 (ip1 := 19) (ls1 := [(0, .inr (.inr 149)), (1, .inl (x1))]) (st1 := [.inl (x1), .inl (px_ush (((px_up s 150 1 (px_wr ((px_wr (1664525 * (s 150 1))) + 1013904223))) 150 1)) (8))]) (h1 := (px_G1, px_up s 150 1 (px_wr ((px_wr (1664525 * (s 150 1))) + 1013904223)))) rfl ?_
  by_cases hc1 : (x1) = 0
  · rw [if_pos hc1] at h; cases h
  rw [if_neg hc1] at h
  refine px_D_rem rfl hc1 ?_
  cases h
  exact px_D_iret rfl rfl ⟨rfl, rfl⟩

def f_M_thaw (s : px_Z) : Int := px_wr ((s 149 10) + 30)
set_option maxHeartbeats 4000000 in
set_option maxRecDepth 100000 in
theorem c_M_thaw {sc : List Int} {d : Nat} {s : px_Z} {out : Int} (h : f_M_thaw s  = out) : px_D sc (d + 0) 156 0 [(0, .inr (.inr 149))] [] (px_G1, s) (px_Qp s out) := by
  unfold f_M_thaw at h
  refine px_D_st 4 (ip1 := 4) (ls1 := [(0, .inr (.inr 149))]) (st1 := [.inl (px_wr ((s 149 10) + 30))]) (h1 := (px_G1, s)) rfl ?_
  subst h
  exact px_D_iret rfl rfl ⟨rfl, rfl⟩

def f_M_isThing (s : px_Z) (x1 : Int) : Int := if (x1) < (0) then 0 else (if (s 149 6) ≤ (x1) then 0 else 1)
set_option maxHeartbeats 4000000 in
set_option maxRecDepth 100000 in
theorem c_M_isThing {sc : List Int} {d : Nat} {s : px_Z} {x1 : Int} {out : Int} (h : f_M_isThing s x1 = out) : px_D sc (d + 0) 157 0 [(0, .inr (.inr 149)), (1, .inl (x1))] [] (px_G1, s) (px_Qp s out) := by
  unfold f_M_isThing at h
  refine px_D_st 1 (ip1 := 1) (ls1 := [(0, .inr (.inr 149)), (1, .inl (x1))]) (st1 := [.inl (x1)]) (h1 := (px_G1, s)) rfl ?_
  refine px_D_ifc rfl (fun hc => ?_) (fun hc => ?_)
  · have hc1 : (x1) < (0) := of_decide_eq_true hc
    rw [if_pos hc1] at h
    refine px_D_st 1 (ip1 := 9) (ls1 := [(0, .inr (.inr 149)), (1, .inl (x1))]) (st1 := [.inl (0)]) (h1 := (px_G1, s)) rfl ?_
    subst h
    exact px_D_iret rfl rfl ⟨rfl, rfl⟩
  · have hc1 : ¬ ((x1) < (0)) := of_decide_eq_false hc
    rw [if_neg hc1] at h
    refine px_D_st 3 (ip1 := 5) (ls1 := [(0, .inr (.inr 149)), (1, .inl (x1))]) (st1 := [.inl (s 149 6), .inl (x1)]) (h1 := (px_G1, s)) rfl ?_
    refine px_D_icmp rfl (fun hc => ?_) (fun hc => ?_)
    · have hc2 : (s 149 6) ≤ (x1) := of_decide_eq_true hc
      rw [if_pos hc2] at h
      refine px_D_st 1 (ip1 := 9) (ls1 := [(0, .inr (.inr 149)), (1, .inl (x1))]) (st1 := [.inl (0)]) (h1 := (px_G1, s)) rfl ?_
      subst h
      exact px_D_iret rfl rfl ⟨rfl, rfl⟩
    · have hc2 : ¬ ((s 149 6) ≤ (x1)) := of_decide_eq_false hc
      rw [if_neg hc2] at h
      refine px_D_st 2 (ip1 := 9) (ls1 := [(0, .inr (.inr 149)), (1, .inl (x1))]) (st1 := [.inl (1)]) (h1 := (px_G1, s)) rfl ?_
      subst h
      exact px_D_iret rfl rfl ⟨rfl, rfl⟩
set_option maxHeartbeats 4000000 in
set_option maxRecDepth 100000 in
theorem bz_M_isThing {s : px_Z} {x1 : Int} : f_M_isThing s x1 = 0 ∨ f_M_isThing s x1 = 1 := by
  unfold f_M_isThing
  repeat' split
  all_goals first | exact Or.inl rfl | exact Or.inr rfl | exact bz_isx

def f_M_isHome (s : px_Z) (x1 : Int) : Option (Int) := if 0 ≤ (px_wr (16 + x1)) ∧ (px_wr (16 + x1)) < 40 then if (s 150 (px_wr (16 + x1)).toNat) = (1) then some 1 else some 0 else none
set_option maxHeartbeats 4000000 in
set_option maxRecDepth 100000 in
theorem c_M_isHome {sc : List Int} {d : Nat} {s : px_Z} {x1 : Int} {out : Int} (h : f_M_isHome s x1 = some out) : px_D sc (d + 0) 158 0 [(0, .inr (.inr 149)), (1, .inl (x1))] [] (px_G1, s) (px_Qp s out) := by
  unfold f_M_isHome at h
  refine px_D_st 5 (ip1 := 5) (ls1 := [(0, .inr (.inr 149)), (1, .inl (x1))]) (st1 := [.inl (px_wr (16 + x1)), .inr (.inr 150)]) (h1 := (px_G1, s)) rfl ?_
  by_cases hc1 : 0 ≤ (px_wr (16 + x1)) ∧ (px_wr (16 + x1)) < 40
  case neg => rw [if_neg hc1] at h; cases h
  rw [if_pos hc1] at h
  refine px_D_iald (k := 145) (n := 40) rfl rfl hc1 ?_
  refine px_D_st 1 (ip1 := 7) (ls1 := [(0, .inr (.inr 149)), (1, .inl (x1))]) (st1 := [.inl (1), .inl (s 150 (px_wr (16 + x1)).toNat)]) (h1 := (px_G1, s)) rfl ?_
  refine px_D_icmp rfl (fun hc => ?_) (fun hc => ?_)
  · have hc2 : ¬ ((s 150 (px_wr (16 + x1)).toNat) = (1)) := of_decide_eq_true hc
    rw [if_neg hc2] at h
    refine px_D_st 1 (ip1 := 11) (ls1 := [(0, .inr (.inr 149)), (1, .inl (x1))]) (st1 := [.inl (0)]) (h1 := (px_G1, s)) rfl ?_
    cases h
    exact px_D_iret rfl rfl ⟨rfl, rfl⟩
  · have hc2 : (s 150 (px_wr (16 + x1)).toNat) = (1) := Decidable.of_not_not (of_decide_eq_false hc)
    rw [if_pos hc2] at h
    refine px_D_st 2 (ip1 := 11) (ls1 := [(0, .inr (.inr 149)), (1, .inl (x1))]) (st1 := [.inl (1)]) (h1 := (px_G1, s)) rfl ?_
    cases h
    exact px_D_iret rfl rfl ⟨rfl, rfl⟩

def l_M_homeSet_4 (s : px_Z) (k20 : Int → Option (Int)) : Nat → Int → Int → Option (Int)
  | 0, _, _ => none
  | n + 1, x1, x2 => if (s 149 6) ≤ (x2) then k20 x1 else (f_M_isHome s x2).bind (fun q2 => if (q2) = (0) then l_M_homeSet_4 s k20 n x1 (px_wr (x2 + 1)) else l_M_homeSet_4 s k20 n (px_or (x1) ((px_shl (1) (x2)))) (px_wr (x2 + 1)))
set_option maxHeartbeats 4000000 in
set_option maxRecDepth 100000 in
theorem cl_M_homeSet_4 {sc : List Int} {d : Nat} {s : px_Z} {k20 : Int → Option (Int)}  (hk20 : ∀ (y1 : Int) (out : Int), k20 y1 = some out → px_D sc (d + 1) 159 20 [(1, .inl (y1))] [] (px_G1, s) (px_Qp s out)) : ∀ (n : Nat) (x1 : Int) (x2 : Int) (out : Int), l_M_homeSet_4 s k20 n x1 x2 = some out → px_D sc (d + 1) 159 4 [(0, .inr (.inr 149)), (1, .inl (x1)), (2, .inl (x2))] [] (px_G1, s) (px_Qp s out) := by
  intro n
  induction n with
  | zero => intro x1 x2 out h; cases h
  | succ n ih =>
    intro x1 x2 out h
    rw [l_M_homeSet_4] at h
    refine px_D_st 3 (ip1 := 7) (ls1 := [(0, .inr (.inr 149)), (1, .inl (x1)), (2, .inl (x2))]) (st1 := [.inl (s 149 6), .inl (x2)]) (h1 := (px_G1, s)) rfl ?_
    refine px_D_icmp rfl (fun hc => ?_) (fun hc => ?_)
    · have hc1 : (s 149 6) ≤ (x2) := of_decide_eq_true hc
      rw [if_pos hc1] at h
      refine px_D_ls [(1, .inl (x1))] rfl rfl (List.forall_mem_cons.mpr ⟨rfl, fun _ h => absurd h List.not_mem_nil⟩) ?_
      exact hk20 _ _ h
    · have hc1 : ¬ ((s 149 6) ≤ (x2)) := of_decide_eq_false hc
      rw [if_neg hc1] at h
      refine px_D_st 2 (ip1 := 10) (ls1 := [(0, .inr (.inr 149)), (1, .inl (x1)), (2, .inl (x2))]) (st1 := [.inl (x2), .inr (.inr 149)]) (h1 := (px_G1, s)) rfl ?_
      refine px_D_call (as := [.inr (.inr 149), .inl (x2)]) (rest := []) rfl rfl rfl rfl ?_
      obtain ⟨q2, hq2, h⟩ := Option.bind_eq_some_iff.mp h
      refine px_D_mono (c_M_isHome (d := d + 0) hq2) ?_
      rintro _ _ ⟨rfl, rfl⟩
      show px_D sc (d + 1) 159 11 [(0, .inr (.inr 149)), (1, .inl (x1)), (2, .inl (x2))] [.inl (q2)] (px_G1, s) _
      refine px_D_ifc rfl (fun hc => ?_) (fun hc => ?_)
      · have hc3 : (q2) = (0) := of_decide_eq_true hc
        rw [if_pos hc3] at h
        refine px_D_st 2 (ip1 := 4) (ls1 := [(2, .inl (px_wr (x2 + 1))), (0, .inr (.inr 149)), (1, .inl (x1))]) (st1 := []) (h1 := (px_G1, s)) rfl ?_
        refine px_D_ls [(0, .inr (.inr 149)), (1, .inl (x1)), (2, .inl (px_wr (x2 + 1)))] rfl rfl (List.forall_mem_cons.mpr ⟨rfl, List.forall_mem_cons.mpr ⟨rfl, List.forall_mem_cons.mpr ⟨rfl, fun _ h => absurd h List.not_mem_nil⟩⟩⟩) ?_
        exact ih _ _ _ h
      · have hc3 : ¬ ((q2) = (0)) := of_decide_eq_false hc
        rw [if_neg hc3] at h
        refine px_D_st 8 (ip1 := 4) (ls1 := [(2, .inl (px_wr (x2 + 1))), (1, .inl (px_or (x1) ((px_shl (1) (x2))))), (0, .inr (.inr 149))]) (st1 := []) (h1 := (px_G1, s)) rfl ?_
        refine px_D_ls [(0, .inr (.inr 149)), (1, .inl (px_or (x1) ((px_shl (1) (x2))))), (2, .inl (px_wr (x2 + 1)))] rfl rfl (List.forall_mem_cons.mpr ⟨rfl, List.forall_mem_cons.mpr ⟨rfl, List.forall_mem_cons.mpr ⟨rfl, fun _ h => absurd h List.not_mem_nil⟩⟩⟩) ?_
        exact ih _ _ _ h
def f_M_homeSet (s : px_Z) : Option (Int) := l_M_homeSet_4 s (fun x1 => some x1) px_big 0 0
set_option maxHeartbeats 4000000 in
set_option maxRecDepth 100000 in
theorem c_M_homeSet {sc : List Int} {d : Nat} {s : px_Z} {out : Int} (h : f_M_homeSet s  = some out) : px_D sc (d + 1) 159 0 [(0, .inr (.inr 149))] [] (px_G1, s) (px_Qp s out) := by
  unfold f_M_homeSet at h
  refine px_D_st 4 (ip1 := 4) (ls1 := [(2, .inl (0)), (1, .inl (0)), (0, .inr (.inr 149))]) (st1 := []) (h1 := (px_G1, s)) rfl ?_
  refine px_D_ls [(0, .inr (.inr 149)), (1, .inl (0)), (2, .inl (0))] rfl rfl (List.forall_mem_cons.mpr ⟨rfl, List.forall_mem_cons.mpr ⟨rfl, List.forall_mem_cons.mpr ⟨rfl, fun _ h => absurd h List.not_mem_nil⟩⟩⟩) ?_
  refine cl_M_homeSet_4 ?_ px_big _ _ _ h
  · intro x1 out h
    refine px_D_st 1 (ip1 := 21) (ls1 := [(1, .inl (x1))]) (st1 := [.inl (x1)]) (h1 := (px_G1, s)) rfl ?_
    cases h
    exact px_D_iret rfl rfl ⟨rfl, rfl⟩

def f_M_mostOf (s : px_Z) (x1 : Int) : Int := if (x1) = (0) then 99999 else (if (x1) = (1) then 9999 else (if (x1) = (3) then 1000 else (if (x1) = (5) then 60 else (if (x1) = (6) then 999 else 99))))
set_option maxHeartbeats 4000000 in
set_option maxRecDepth 100000 in
theorem c_M_mostOf {sc : List Int} {d : Nat} {s : px_Z} {x1 : Int} {out : Int} (h : f_M_mostOf s x1 = out) : px_D sc (d + 0) 161 0 [(0, .inr (.inr 149)), (1, .inl (x1))] [] (px_G1, s) (px_Qp s out) := by
  unfold f_M_mostOf at h
  refine px_D_st 1 (ip1 := 1) (ls1 := [(0, .inr (.inr 149)), (1, .inl (x1))]) (st1 := [.inl (x1)]) (h1 := (px_G1, s)) rfl ?_
  refine px_D_ifc rfl (fun hc => ?_) (fun hc => ?_)
  · have hc1 : ¬ ((x1) = (0)) := of_decide_eq_true hc
    rw [if_neg hc1] at h
    refine px_D_st 2 (ip1 := 6) (ls1 := [(0, .inr (.inr 149)), (1, .inl (x1))]) (st1 := [.inl (1), .inl (x1)]) (h1 := (px_G1, s)) rfl ?_
    refine px_D_icmp rfl (fun hc => ?_) (fun hc => ?_)
    · have hc2 : ¬ ((x1) = (1)) := of_decide_eq_true hc
      rw [if_neg hc2] at h
      refine px_D_st 2 (ip1 := 11) (ls1 := [(0, .inr (.inr 149)), (1, .inl (x1))]) (st1 := [.inl (3), .inl (x1)]) (h1 := (px_G1, s)) rfl ?_
      refine px_D_icmp rfl (fun hc => ?_) (fun hc => ?_)
      · have hc3 : ¬ ((x1) = (3)) := of_decide_eq_true hc
        rw [if_neg hc3] at h
        refine px_D_st 2 (ip1 := 16) (ls1 := [(0, .inr (.inr 149)), (1, .inl (x1))]) (st1 := [.inl (5), .inl (x1)]) (h1 := (px_G1, s)) rfl ?_
        refine px_D_icmp rfl (fun hc => ?_) (fun hc => ?_)
        · have hc4 : ¬ ((x1) = (5)) := of_decide_eq_true hc
          rw [if_neg hc4] at h
          refine px_D_st 2 (ip1 := 21) (ls1 := [(0, .inr (.inr 149)), (1, .inl (x1))]) (st1 := [.inl (6), .inl (x1)]) (h1 := (px_G1, s)) rfl ?_
          refine px_D_icmp rfl (fun hc => ?_) (fun hc => ?_)
          · have hc5 : ¬ ((x1) = (6)) := of_decide_eq_true hc
            rw [if_neg hc5] at h
            refine px_D_st 1 (ip1 := 25) (ls1 := [(0, .inr (.inr 149)), (1, .inl (x1))]) (st1 := [.inl (99)]) (h1 := (px_G1, s)) rfl ?_
            subst h
            exact px_D_iret rfl rfl ⟨rfl, rfl⟩
          · have hc5 : (x1) = (6) := Decidable.of_not_not (of_decide_eq_false hc)
            rw [if_pos hc5] at h
            refine px_D_st 2 (ip1 := 25) (ls1 := [(0, .inr (.inr 149)), (1, .inl (x1))]) (st1 := [.inl (999)]) (h1 := (px_G1, s)) rfl ?_
            subst h
            exact px_D_iret rfl rfl ⟨rfl, rfl⟩
        · have hc4 : (x1) = (5) := Decidable.of_not_not (of_decide_eq_false hc)
          rw [if_pos hc4] at h
          refine px_D_st 1 (ip1 := 18) (ls1 := [(0, .inr (.inr 149)), (1, .inl (x1))]) (st1 := [.inl (60)]) (h1 := (px_G1, s)) rfl ?_
          subst h
          exact px_D_iret rfl rfl ⟨rfl, rfl⟩
      · have hc3 : (x1) = (3) := Decidable.of_not_not (of_decide_eq_false hc)
        rw [if_pos hc3] at h
        refine px_D_st 1 (ip1 := 13) (ls1 := [(0, .inr (.inr 149)), (1, .inl (x1))]) (st1 := [.inl (1000)]) (h1 := (px_G1, s)) rfl ?_
        subst h
        exact px_D_iret rfl rfl ⟨rfl, rfl⟩
    · have hc2 : (x1) = (1) := Decidable.of_not_not (of_decide_eq_false hc)
      rw [if_pos hc2] at h
      refine px_D_st 1 (ip1 := 8) (ls1 := [(0, .inr (.inr 149)), (1, .inl (x1))]) (st1 := [.inl (9999)]) (h1 := (px_G1, s)) rfl ?_
      subst h
      exact px_D_iret rfl rfl ⟨rfl, rfl⟩
  · have hc1 : (x1) = (0) := Decidable.of_not_not (of_decide_eq_false hc)
    rw [if_pos hc1] at h
    refine px_D_st 1 (ip1 := 3) (ls1 := [(0, .inr (.inr 149)), (1, .inl (x1))]) (st1 := [.inl (99999)]) (h1 := (px_G1, s)) rfl ?_
    subst h
    exact px_D_iret rfl rfl ⟨rfl, rfl⟩

def l_M_types_2 (k22 : px_Z → Option (px_Z)) : Nat → px_Z → Int → Int → Option (px_Z)
  | 0, _, _, _ => none
  | n + 1, s, x1, x2 => if (x2) < (0) then k22 s  else (if 0 ≤ (s 149 13) ∧ (s 149 13) < 400 then l_M_types_2 k22 n (px_up (px_up s 155 (s 149 13).toNat (px_and ((px_shr (x1) (x2))) (255))) 149 13 (px_wr (((px_up s 155 (s 149 13).toNat (px_and ((px_shr (x1) (x2))) (255))) 149 13) + 1))) x1 (px_wr (x2 + (-8))) else none)
set_option maxHeartbeats 4000000 in
set_option maxRecDepth 100000 in
theorem cl_M_types_2 {sc : List Int} {d : Nat} {k22 : px_Z → Option (px_Z)}  (hk22 : ∀ (s : px_Z) (out : px_Z), k22 s  = some out → px_D sc (d + 0) 163 22 [] [] (px_G1, s) (px_Qv out)) : ∀ (n : Nat) (s : px_Z) (x1 : Int) (x2 : Int) (out : px_Z), l_M_types_2 k22 n s x1 x2 = some out → px_D sc (d + 0) 163 2 [(0, .inr (.inr 149)), (1, .inl (x1)), (2, .inl (x2))] [] (px_G1, s) (px_Qv out) := by
  intro n
  induction n with
  | zero => intro s x1 x2 out h; cases h
  | succ n ih =>
    intro s x1 x2 out h
    rw [l_M_types_2] at h
    refine px_D_st 1 (ip1 := 3) (ls1 := [(0, .inr (.inr 149)), (1, .inl (x1)), (2, .inl (x2))]) (st1 := [.inl (x2)]) (h1 := (px_G1, s)) rfl ?_
    refine px_D_ifc rfl (fun hc => ?_) (fun hc => ?_)
    · have hc1 : (x2) < (0) := of_decide_eq_true hc
      rw [if_pos hc1] at h
      refine px_D_ls [] rfl rfl (fun _ h => absurd h List.not_mem_nil) ?_
      exact hk22 _ _ h
    · have hc1 : ¬ ((x2) < (0)) := of_decide_eq_false hc
      rw [if_neg hc1] at h
      refine px_D_st 9 (ip1 := 13) (ls1 := [(0, .inr (.inr 149)), (1, .inl (x1)), (2, .inl (x2))]) (st1 := [.inl (px_and ((px_shr (x1) (x2))) (255)), .inl (s 149 13), .inr (.inr 155)]) (h1 := (px_G1, s)) rfl ?_
      by_cases hc2 : 0 ≤ (s 149 13) ∧ (s 149 13) < 400
      case neg => rw [if_neg hc2] at h; cases h
      rw [if_pos hc2] at h
      refine px_D_iast (k := 150) (n := 400) rfl rfl hc2 ?_
      refine px_D_st 8 (ip1 := 2) (ls1 := [(2, .inl (px_wr (x2 + (-8)))), (0, .inr (.inr 149)), (1, .inl (x1))]) (st1 := []) (h1 := (px_G1, px_up (px_up s 155 (s 149 13).toNat (px_and ((px_shr (x1) (x2))) (255))) 149 13 (px_wr (((px_up s 155 (s 149 13).toNat (px_and ((px_shr (x1) (x2))) (255))) 149 13) + 1)))) rfl ?_
      refine px_D_ls [(0, .inr (.inr 149)), (1, .inl (x1)), (2, .inl (px_wr (x2 + (-8))))] rfl rfl (List.forall_mem_cons.mpr ⟨rfl, List.forall_mem_cons.mpr ⟨rfl, List.forall_mem_cons.mpr ⟨rfl, fun _ h => absurd h List.not_mem_nil⟩⟩⟩) ?_
      exact ih _ _ _ _ h
def f_M_types (s : px_Z) (x1 : Int) : Option (px_Z) := l_M_types_2 (fun s => some s) px_big s x1 24
set_option maxHeartbeats 4000000 in
set_option maxRecDepth 100000 in
theorem c_M_types {sc : List Int} {d : Nat} {s : px_Z} {x1 : Int} {out : px_Z} (h : f_M_types s x1 = some out) : px_D sc (d + 0) 163 0 [(0, .inr (.inr 149)), (1, .inl (x1))] [] (px_G1, s) (px_Qv out) := by
  unfold f_M_types at h
  refine px_D_st 2 (ip1 := 2) (ls1 := [(2, .inl (24)), (0, .inr (.inr 149)), (1, .inl (x1))]) (st1 := []) (h1 := (px_G1, s)) rfl ?_
  refine px_D_ls [(0, .inr (.inr 149)), (1, .inl (x1)), (2, .inl (24))] rfl rfl (List.forall_mem_cons.mpr ⟨rfl, List.forall_mem_cons.mpr ⟨rfl, List.forall_mem_cons.mpr ⟨rfl, fun _ h => absurd h List.not_mem_nil⟩⟩⟩) ?_
  refine cl_M_types_2 ?_ px_big _ _ _ _ h
  · intro s out h
    cases h
    exact px_D_vret rfl ⟨rfl, rfl⟩

def f_M_feed (s : px_Z) (x1 : Int) (x2 : Int) (x3 : Int) (x4 : Int) (x5 : Int) : Option (Int × px_Z) := if ((px_up s 149 0 0) 149 13) ≤ (380) then (f_M_types (px_up s 149 0 0) x1).bind (fun q2 => (f_M_types q2 x2).bind (fun q3 => (f_M_types q3 x3).bind (fun q4 => (f_M_types q4 x4).bind (fun q5 => (f_M_types q5 x5).bind (fun q6 => some (q6 149 13, q6)))))) else some (((-1), px_up s 149 0 0))
set_option maxHeartbeats 4000000 in
set_option maxRecDepth 100000 in
theorem c_M_feed {sc : List Int} {d : Nat} {s : px_Z} {x1 : Int} {x2 : Int} {x3 : Int} {x4 : Int} {x5 : Int} {out : Int × px_Z} (h : f_M_feed s x1 x2 x3 x4 x5 = some out) : px_D sc (d + 1) 164 0 [(0, .inr (.inr 149)), (1, .inl (x1)), (2, .inl (x2)), (3, .inl (x3)), (4, .inl (x4)), (5, .inl (x5))] [] (px_G1, s) (px_Qi out) := by
  unfold f_M_feed at h
  refine px_D_st 6 (ip1 := 6) (ls1 := [(0, .inr (.inr 149)), (1, .inl (x1)), (2, .inl (x2)), (3, .inl (x3)), (4, .inl (x4)), (5, .inl (x5))]) (st1 := [.inl (380), .inl ((px_up s 149 0 0) 149 13)]) (h1 := (px_G1, px_up s 149 0 0)) rfl ?_
  refine px_D_icmp rfl (fun hc => ?_) (fun hc => ?_)
  · have hc1 : ((px_up s 149 0 0) 149 13) ≤ (380) := of_decide_eq_true hc
    rw [if_pos hc1] at h
    refine px_D_st 2 (ip1 := 11) (ls1 := [(0, .inr (.inr 149)), (1, .inl (x1)), (2, .inl (x2)), (3, .inl (x3)), (4, .inl (x4)), (5, .inl (x5))]) (st1 := [.inl (x1), .inr (.inr 149)]) (h1 := (px_G1, px_up s 149 0 0)) rfl ?_
    refine px_D_call (as := [.inr (.inr 149), .inl (x1)]) (rest := []) rfl rfl rfl rfl ?_
    obtain ⟨q2, hq2, h⟩ := Option.bind_eq_some_iff.mp h
    refine px_D_mono (c_M_types (d := d + 0) hq2) ?_
    rintro _ _ ⟨rfl, rfl⟩
    show px_D sc (d + 1) 164 12 [(0, .inr (.inr 149)), (1, .inl (x1)), (2, .inl (x2)), (3, .inl (x3)), (4, .inl (x4)), (5, .inl (x5))] [] (px_G1, q2) _
    refine px_D_st 2 (ip1 := 14) (ls1 := [(0, .inr (.inr 149)), (1, .inl (x1)), (2, .inl (x2)), (3, .inl (x3)), (4, .inl (x4)), (5, .inl (x5))]) (st1 := [.inl (x2), .inr (.inr 149)]) (h1 := (px_G1, q2)) rfl ?_
    refine px_D_call (as := [.inr (.inr 149), .inl (x2)]) (rest := []) rfl rfl rfl rfl ?_
    obtain ⟨q3, hq3, h⟩ := Option.bind_eq_some_iff.mp h
    refine px_D_mono (c_M_types (d := d + 0) hq3) ?_
    rintro _ _ ⟨rfl, rfl⟩
    show px_D sc (d + 1) 164 15 [(0, .inr (.inr 149)), (1, .inl (x1)), (2, .inl (x2)), (3, .inl (x3)), (4, .inl (x4)), (5, .inl (x5))] [] (px_G1, q3) _
    refine px_D_st 2 (ip1 := 17) (ls1 := [(0, .inr (.inr 149)), (1, .inl (x1)), (2, .inl (x2)), (3, .inl (x3)), (4, .inl (x4)), (5, .inl (x5))]) (st1 := [.inl (x3), .inr (.inr 149)]) (h1 := (px_G1, q3)) rfl ?_
    refine px_D_call (as := [.inr (.inr 149), .inl (x3)]) (rest := []) rfl rfl rfl rfl ?_
    obtain ⟨q4, hq4, h⟩ := Option.bind_eq_some_iff.mp h
    refine px_D_mono (c_M_types (d := d + 0) hq4) ?_
    rintro _ _ ⟨rfl, rfl⟩
    show px_D sc (d + 1) 164 18 [(0, .inr (.inr 149)), (1, .inl (x1)), (2, .inl (x2)), (3, .inl (x3)), (4, .inl (x4)), (5, .inl (x5))] [] (px_G1, q4) _
    refine px_D_st 2 (ip1 := 20) (ls1 := [(0, .inr (.inr 149)), (1, .inl (x1)), (2, .inl (x2)), (3, .inl (x3)), (4, .inl (x4)), (5, .inl (x5))]) (st1 := [.inl (x4), .inr (.inr 149)]) (h1 := (px_G1, q4)) rfl ?_
    refine px_D_call (as := [.inr (.inr 149), .inl (x4)]) (rest := []) rfl rfl rfl rfl ?_
    obtain ⟨q5, hq5, h⟩ := Option.bind_eq_some_iff.mp h
    refine px_D_mono (c_M_types (d := d + 0) hq5) ?_
    rintro _ _ ⟨rfl, rfl⟩
    show px_D sc (d + 1) 164 21 [(0, .inr (.inr 149)), (1, .inl (x1)), (2, .inl (x2)), (3, .inl (x3)), (4, .inl (x4)), (5, .inl (x5))] [] (px_G1, q5) _
    refine px_D_st 2 (ip1 := 23) (ls1 := [(0, .inr (.inr 149)), (1, .inl (x1)), (2, .inl (x2)), (3, .inl (x3)), (4, .inl (x4)), (5, .inl (x5))]) (st1 := [.inl (x5), .inr (.inr 149)]) (h1 := (px_G1, q5)) rfl ?_
    refine px_D_call (as := [.inr (.inr 149), .inl (x5)]) (rest := []) rfl rfl rfl rfl ?_
    obtain ⟨q6, hq6, h⟩ := Option.bind_eq_some_iff.mp h
    refine px_D_mono (c_M_types (d := d + 0) hq6) ?_
    rintro _ _ ⟨rfl, rfl⟩
    show px_D sc (d + 1) 164 24 [(0, .inr (.inr 149)), (1, .inl (x1)), (2, .inl (x2)), (3, .inl (x3)), (4, .inl (x4)), (5, .inl (x5))] [] (px_G1, q6) _
    refine px_D_st 2 (ip1 := 26) (ls1 := [(0, .inr (.inr 149)), (1, .inl (x1)), (2, .inl (x2)), (3, .inl (x3)), (4, .inl (x4)), (5, .inl (x5))]) (st1 := [.inl (q6 149 13)]) (h1 := (px_G1, q6)) rfl ?_
    cases h
    exact px_D_iret rfl rfl ⟨rfl, rfl⟩
  · have hc1 : ¬ (((px_up s 149 0 0) 149 13) ≤ (380)) := of_decide_eq_false hc
    rw [if_neg hc1] at h
    refine px_D_st 1 (ip1 := 8) (ls1 := [(0, .inr (.inr 149)), (1, .inl (x1)), (2, .inl (x2)), (3, .inl (x3)), (4, .inl (x4)), (5, .inl (x5))]) (st1 := [.inl ((-1))]) (h1 := (px_G1, px_up s 149 0 0)) rfl ?_
    cases h
    exact px_D_iret rfl rfl ⟨rfl, rfl⟩

def f_M_end (s : px_Z) (x1 : Int) : Option (Int × px_Z) := if (f_M_isIn (px_up s 149 0 0) x1 0 ((px_up s 149 0 0) 149 13)) = (0) then some (0, px_up s 149 0 0) else some ((1, px_up (px_up s 149 0 0) 149 13 x1))
set_option maxHeartbeats 4000000 in
set_option maxRecDepth 100000 in
theorem c_M_end {sc : List Int} {d : Nat} {s : px_Z} {x1 : Int} {out : Int × px_Z} (h : f_M_end s x1 = some out) : px_D sc (d + 1) 165 0 [(0, .inr (.inr 149)), (1, .inl (x1))] [] (px_G1, s) (px_Qi out) := by
  unfold f_M_end at h
  refine px_D_st 8 (ip1 := 8) (ls1 := [(0, .inr (.inr 149)), (1, .inl (x1))]) (st1 := [.inl ((px_up s 149 0 0) 149 13), .inl (0), .inl (x1), .inr (.inr 149)]) (h1 := (px_G1, px_up s 149 0 0)) rfl ?_
  refine px_D_call (as := [.inr (.inr 149), .inl (x1), .inl (0), .inl ((px_up s 149 0 0) 149 13)]) (rest := []) rfl rfl rfl rfl ?_
  refine px_D_mono (c_M_isIn (d := d + 0) rfl) ?_
  rintro _ _ ⟨rfl, rfl⟩
  show px_D sc (d + 1) 165 9 [(0, .inr (.inr 149)), (1, .inl (x1))] [.inl (f_M_isIn (px_up s 149 0 0) x1 0 ((px_up s 149 0 0) 149 13))] (px_G1, px_up s 149 0 0) _
  refine px_D_ifc rfl (fun hc => ?_) (fun hc => ?_)
  · have hc1 : ¬ ((f_M_isIn (px_up s 149 0 0) x1 0 ((px_up s 149 0 0) 149 13)) = (0)) := of_decide_eq_true hc
    rw [if_neg hc1] at h
    refine px_D_st 4 (ip1 := 16) (ls1 := [(0, .inr (.inr 149)), (1, .inl (x1))]) (st1 := [.inl (1)]) (h1 := (px_G1, px_up (px_up s 149 0 0) 149 13 x1)) rfl ?_
    cases h
    exact px_D_iret rfl rfl ⟨rfl, rfl⟩
  · have hc1 : (f_M_isIn (px_up s 149 0 0) x1 0 ((px_up s 149 0 0) 149 13)) = (0) := Decidable.of_not_not (of_decide_eq_false hc)
    rw [if_pos hc1] at h
    refine px_D_st 1 (ip1 := 11) (ls1 := [(0, .inr (.inr 149)), (1, .inl (x1))]) (st1 := [.inl (0)]) (h1 := (px_G1, px_up s 149 0 0)) rfl ?_
    cases h
    exact px_D_iret rfl rfl ⟨rfl, rfl⟩

def f_M_raw (s : px_Z) (x1 : Int) : Option (Int) := if (s 149 13) ≤ (x1) then some (-1) else (if 0 ≤ (x1) ∧ (x1) < 400 then some (s 155 x1.toNat) else none)
set_option maxHeartbeats 4000000 in
set_option maxRecDepth 100000 in
theorem c_M_raw {sc : List Int} {d : Nat} {s : px_Z} {x1 : Int} {out : Int} (h : f_M_raw s x1 = some out) : px_D sc (d + 0) 166 0 [(0, .inr (.inr 149)), (1, .inl (x1))] [] (px_G1, s) (px_Qp s out) := by
  unfold f_M_raw at h
  refine px_D_st 3 (ip1 := 3) (ls1 := [(0, .inr (.inr 149)), (1, .inl (x1))]) (st1 := [.inl (s 149 13), .inl (x1)]) (h1 := (px_G1, s)) rfl ?_
  refine px_D_icmp rfl (fun hc => ?_) (fun hc => ?_)
  · have hc1 : (s 149 13) ≤ (x1) := of_decide_eq_true hc
    rw [if_pos hc1] at h
    refine px_D_st 1 (ip1 := 10) (ls1 := [(0, .inr (.inr 149)), (1, .inl (x1))]) (st1 := [.inl ((-1))]) (h1 := (px_G1, s)) rfl ?_
    cases h
    exact px_D_iret rfl rfl ⟨rfl, rfl⟩
  · have hc1 : ¬ ((s 149 13) ≤ (x1)) := of_decide_eq_false hc
    rw [if_neg hc1] at h
    refine px_D_st 3 (ip1 := 7) (ls1 := [(0, .inr (.inr 149)), (1, .inl (x1))]) (st1 := [.inl (x1), .inr (.inr 155)]) (h1 := (px_G1, s)) rfl ?_
    by_cases hc2 : 0 ≤ (x1) ∧ (x1) < 400
    case neg => rw [if_neg hc2] at h; cases h
    rw [if_pos hc2] at h
    refine px_D_iald (k := 150) (n := 400) rfl rfl hc2 ?_
    refine px_D_st 1 (ip1 := 10) (ls1 := [(0, .inr (.inr 149)), (1, .inl (x1))]) (st1 := [.inl (s 155 x1.toNat)]) (h1 := (px_G1, s)) rfl ?_
    cases h
    exact px_D_iret rfl rfl ⟨rfl, rfl⟩

def f_M_isLetter (s : px_Z) (x1 : Int) : Int := if (f_M_isIn s x1 97 122) = (0) then (if (f_M_isIn s x1 65 90) = (0) then 0 else 1) else 1
set_option maxHeartbeats 4000000 in
set_option maxRecDepth 100000 in
theorem c_M_isLetter {sc : List Int} {d : Nat} {s : px_Z} {x1 : Int} {out : Int} (h : f_M_isLetter s x1 = out) : px_D sc (d + 1) 167 0 [(0, .inr (.inr 149)), (1, .inl (x1))] [] (px_G1, s) (px_Qp s out) := by
  unfold f_M_isLetter at h
  refine px_D_st 4 (ip1 := 4) (ls1 := [(0, .inr (.inr 149)), (1, .inl (x1))]) (st1 := [.inl (122), .inl (97), .inl (x1), .inr (.inr 149)]) (h1 := (px_G1, s)) rfl ?_
  refine px_D_call (as := [.inr (.inr 149), .inl (x1), .inl (97), .inl (122)]) (rest := []) rfl rfl rfl rfl ?_
  refine px_D_mono (c_M_isIn (d := d + 0) rfl) ?_
  rintro _ _ ⟨rfl, rfl⟩
  show px_D sc (d + 1) 167 5 [(0, .inr (.inr 149)), (1, .inl (x1))] [.inl (f_M_isIn s x1 97 122)] (px_G1, s) _
  refine px_D_ifc rfl (fun hc => ?_) (fun hc => ?_)
  · have hc1 : ¬ ((f_M_isIn s x1 97 122) = (0)) := of_decide_eq_true hc
    rw [if_neg hc1] at h
    refine px_D_st 2 (ip1 := 15) (ls1 := [(0, .inr (.inr 149)), (1, .inl (x1))]) (st1 := [.inl (1)]) (h1 := (px_G1, s)) rfl ?_
    subst h
    exact px_D_iret rfl rfl ⟨rfl, rfl⟩
  · have hc1 : (f_M_isIn s x1 97 122) = (0) := Decidable.of_not_not (of_decide_eq_false hc)
    rw [if_pos hc1] at h
    refine px_D_st 4 (ip1 := 10) (ls1 := [(0, .inr (.inr 149)), (1, .inl (x1))]) (st1 := [.inl (90), .inl (65), .inl (x1), .inr (.inr 149)]) (h1 := (px_G1, s)) rfl ?_
    refine px_D_call (as := [.inr (.inr 149), .inl (x1), .inl (65), .inl (90)]) (rest := []) rfl rfl rfl rfl ?_
    refine px_D_mono (c_M_isIn (d := d + 0) rfl) ?_
    rintro _ _ ⟨rfl, rfl⟩
    show px_D sc (d + 1) 167 11 [(0, .inr (.inr 149)), (1, .inl (x1))] [.inl (f_M_isIn s x1 65 90)] (px_G1, s) _
    refine px_D_ifc rfl (fun hc => ?_) (fun hc => ?_)
    · have hc2 : (f_M_isIn s x1 65 90) = (0) := of_decide_eq_true hc
      rw [if_pos hc2] at h
      refine px_D_st 1 (ip1 := 15) (ls1 := [(0, .inr (.inr 149)), (1, .inl (x1))]) (st1 := [.inl (0)]) (h1 := (px_G1, s)) rfl ?_
      subst h
      exact px_D_iret rfl rfl ⟨rfl, rfl⟩
    · have hc2 : ¬ ((f_M_isIn s x1 65 90) = (0)) := of_decide_eq_false hc
      rw [if_neg hc2] at h
      refine px_D_st 2 (ip1 := 15) (ls1 := [(0, .inr (.inr 149)), (1, .inl (x1))]) (st1 := [.inl (1)]) (h1 := (px_G1, s)) rfl ?_
      subst h
      exact px_D_iret rfl rfl ⟨rfl, rfl⟩
set_option maxHeartbeats 4000000 in
set_option maxRecDepth 100000 in
theorem bz_M_isLetter {s : px_Z} {x1 : Int} : f_M_isLetter s x1 = 0 ∨ f_M_isLetter s x1 = 1 := by
  unfold f_M_isLetter
  repeat' split
  all_goals first | exact Or.inl rfl | exact Or.inr rfl | exact bz_isx

def f_M_isDigit (s : px_Z) (x1 : Int) : Int := f_M_isIn s x1 48 57
set_option maxHeartbeats 4000000 in
set_option maxRecDepth 100000 in
theorem c_M_isDigit {sc : List Int} {d : Nat} {s : px_Z} {x1 : Int} {out : Int} (h : f_M_isDigit s x1 = out) : px_D sc (d + 1) 168 0 [(0, .inr (.inr 149)), (1, .inl (x1))] [] (px_G1, s) (px_Qp s out) := by
  unfold f_M_isDigit at h
  refine px_D_st 4 (ip1 := 4) (ls1 := [(0, .inr (.inr 149)), (1, .inl (x1))]) (st1 := [.inl (57), .inl (48), .inl (x1), .inr (.inr 149)]) (h1 := (px_G1, s)) rfl ?_
  refine px_D_call (as := [.inr (.inr 149), .inl (x1), .inl (48), .inl (57)]) (rest := []) rfl rfl rfl rfl ?_
  refine px_D_mono (c_M_isIn (d := d + 0) rfl) ?_
  rintro _ _ ⟨rfl, rfl⟩
  show px_D sc (d + 1) 168 5 [(0, .inr (.inr 149)), (1, .inl (x1))] [.inl (f_M_isIn s x1 48 57)] (px_G1, s) _
  subst h
  exact px_D_iret rfl (px_bz (bz_M_isIn)) ⟨rfl, rfl⟩
set_option maxHeartbeats 4000000 in
set_option maxRecDepth 100000 in
theorem bz_M_isDigit {s : px_Z} {x1 : Int} : f_M_isDigit s x1 = 0 ∨ f_M_isDigit s x1 = 1 := by
  unfold f_M_isDigit
  repeat' split
  all_goals first | exact Or.inl rfl | exact Or.inr rfl | exact bz_isx

def f_M_isMarkSign (s : px_Z) (x1 : Int) : Int := if (x1) = (59) then 1 else (if (x1) = (43) then 1 else (if (x1) = (45) then 1 else (if (x1) = (42) then 1 else (if (x1) = (47) then 1 else (if (x1) = (40) then 1 else (if (x1) = (41) then 1 else (if (x1) = (60) then 1 else (if (x1) = (61) then 1 else (if (x1) = (62) then 1 else 0)))))))))
set_option maxHeartbeats 4000000 in
set_option maxRecDepth 100000 in
theorem c_M_isMarkSign {sc : List Int} {d : Nat} {s : px_Z} {x1 : Int} {out : Int} (h : f_M_isMarkSign s x1 = out) : px_D sc (d + 0) 169 0 [(0, .inr (.inr 149)), (1, .inl (x1))] [] (px_G1, s) (px_Qp s out) := by
  unfold f_M_isMarkSign at h
  refine px_D_st 2 (ip1 := 2) (ls1 := [(0, .inr (.inr 149)), (1, .inl (x1))]) (st1 := [.inl (59), .inl (x1)]) (h1 := (px_G1, s)) rfl ?_
  refine px_D_icmp rfl (fun hc => ?_) (fun hc => ?_)
  · have hc1 : (x1) = (59) := of_decide_eq_true hc
    rw [if_pos hc1] at h
    refine px_D_st 2 (ip1 := 33) (ls1 := [(0, .inr (.inr 149)), (1, .inl (x1))]) (st1 := [.inl (1)]) (h1 := (px_G1, s)) rfl ?_
    subst h
    exact px_D_iret rfl rfl ⟨rfl, rfl⟩
  · have hc1 : ¬ ((x1) = (59)) := of_decide_eq_false hc
    rw [if_neg hc1] at h
    refine px_D_st 2 (ip1 := 5) (ls1 := [(0, .inr (.inr 149)), (1, .inl (x1))]) (st1 := [.inl (43), .inl (x1)]) (h1 := (px_G1, s)) rfl ?_
    refine px_D_icmp rfl (fun hc => ?_) (fun hc => ?_)
    · have hc2 : (x1) = (43) := of_decide_eq_true hc
      rw [if_pos hc2] at h
      refine px_D_st 2 (ip1 := 33) (ls1 := [(0, .inr (.inr 149)), (1, .inl (x1))]) (st1 := [.inl (1)]) (h1 := (px_G1, s)) rfl ?_
      subst h
      exact px_D_iret rfl rfl ⟨rfl, rfl⟩
    · have hc2 : ¬ ((x1) = (43)) := of_decide_eq_false hc
      rw [if_neg hc2] at h
      refine px_D_st 2 (ip1 := 8) (ls1 := [(0, .inr (.inr 149)), (1, .inl (x1))]) (st1 := [.inl (45), .inl (x1)]) (h1 := (px_G1, s)) rfl ?_
      refine px_D_icmp rfl (fun hc => ?_) (fun hc => ?_)
      · have hc3 : (x1) = (45) := of_decide_eq_true hc
        rw [if_pos hc3] at h
        refine px_D_st 2 (ip1 := 33) (ls1 := [(0, .inr (.inr 149)), (1, .inl (x1))]) (st1 := [.inl (1)]) (h1 := (px_G1, s)) rfl ?_
        subst h
        exact px_D_iret rfl rfl ⟨rfl, rfl⟩
      · have hc3 : ¬ ((x1) = (45)) := of_decide_eq_false hc
        rw [if_neg hc3] at h
        refine px_D_st 2 (ip1 := 11) (ls1 := [(0, .inr (.inr 149)), (1, .inl (x1))]) (st1 := [.inl (42), .inl (x1)]) (h1 := (px_G1, s)) rfl ?_
        refine px_D_icmp rfl (fun hc => ?_) (fun hc => ?_)
        · have hc4 : (x1) = (42) := of_decide_eq_true hc
          rw [if_pos hc4] at h
          refine px_D_st 2 (ip1 := 33) (ls1 := [(0, .inr (.inr 149)), (1, .inl (x1))]) (st1 := [.inl (1)]) (h1 := (px_G1, s)) rfl ?_
          subst h
          exact px_D_iret rfl rfl ⟨rfl, rfl⟩
        · have hc4 : ¬ ((x1) = (42)) := of_decide_eq_false hc
          rw [if_neg hc4] at h
          refine px_D_st 2 (ip1 := 14) (ls1 := [(0, .inr (.inr 149)), (1, .inl (x1))]) (st1 := [.inl (47), .inl (x1)]) (h1 := (px_G1, s)) rfl ?_
          refine px_D_icmp rfl (fun hc => ?_) (fun hc => ?_)
          · have hc5 : (x1) = (47) := of_decide_eq_true hc
            rw [if_pos hc5] at h
            refine px_D_st 2 (ip1 := 33) (ls1 := [(0, .inr (.inr 149)), (1, .inl (x1))]) (st1 := [.inl (1)]) (h1 := (px_G1, s)) rfl ?_
            subst h
            exact px_D_iret rfl rfl ⟨rfl, rfl⟩
          · have hc5 : ¬ ((x1) = (47)) := of_decide_eq_false hc
            rw [if_neg hc5] at h
            refine px_D_st 2 (ip1 := 17) (ls1 := [(0, .inr (.inr 149)), (1, .inl (x1))]) (st1 := [.inl (40), .inl (x1)]) (h1 := (px_G1, s)) rfl ?_
            refine px_D_icmp rfl (fun hc => ?_) (fun hc => ?_)
            · have hc6 : (x1) = (40) := of_decide_eq_true hc
              rw [if_pos hc6] at h
              refine px_D_st 2 (ip1 := 33) (ls1 := [(0, .inr (.inr 149)), (1, .inl (x1))]) (st1 := [.inl (1)]) (h1 := (px_G1, s)) rfl ?_
              subst h
              exact px_D_iret rfl rfl ⟨rfl, rfl⟩
            · have hc6 : ¬ ((x1) = (40)) := of_decide_eq_false hc
              rw [if_neg hc6] at h
              refine px_D_st 2 (ip1 := 20) (ls1 := [(0, .inr (.inr 149)), (1, .inl (x1))]) (st1 := [.inl (41), .inl (x1)]) (h1 := (px_G1, s)) rfl ?_
              refine px_D_icmp rfl (fun hc => ?_) (fun hc => ?_)
              · have hc7 : (x1) = (41) := of_decide_eq_true hc
                rw [if_pos hc7] at h
                refine px_D_st 2 (ip1 := 33) (ls1 := [(0, .inr (.inr 149)), (1, .inl (x1))]) (st1 := [.inl (1)]) (h1 := (px_G1, s)) rfl ?_
                subst h
                exact px_D_iret rfl rfl ⟨rfl, rfl⟩
              · have hc7 : ¬ ((x1) = (41)) := of_decide_eq_false hc
                rw [if_neg hc7] at h
                refine px_D_st 2 (ip1 := 23) (ls1 := [(0, .inr (.inr 149)), (1, .inl (x1))]) (st1 := [.inl (60), .inl (x1)]) (h1 := (px_G1, s)) rfl ?_
                refine px_D_icmp rfl (fun hc => ?_) (fun hc => ?_)
                · have hc8 : (x1) = (60) := of_decide_eq_true hc
                  rw [if_pos hc8] at h
                  refine px_D_st 2 (ip1 := 33) (ls1 := [(0, .inr (.inr 149)), (1, .inl (x1))]) (st1 := [.inl (1)]) (h1 := (px_G1, s)) rfl ?_
                  subst h
                  exact px_D_iret rfl rfl ⟨rfl, rfl⟩
                · have hc8 : ¬ ((x1) = (60)) := of_decide_eq_false hc
                  rw [if_neg hc8] at h
                  refine px_D_st 2 (ip1 := 26) (ls1 := [(0, .inr (.inr 149)), (1, .inl (x1))]) (st1 := [.inl (61), .inl (x1)]) (h1 := (px_G1, s)) rfl ?_
                  refine px_D_icmp rfl (fun hc => ?_) (fun hc => ?_)
                  · have hc9 : (x1) = (61) := of_decide_eq_true hc
                    rw [if_pos hc9] at h
                    refine px_D_st 2 (ip1 := 33) (ls1 := [(0, .inr (.inr 149)), (1, .inl (x1))]) (st1 := [.inl (1)]) (h1 := (px_G1, s)) rfl ?_
                    subst h
                    exact px_D_iret rfl rfl ⟨rfl, rfl⟩
                  · have hc9 : ¬ ((x1) = (61)) := of_decide_eq_false hc
                    rw [if_neg hc9] at h
                    refine px_D_st 2 (ip1 := 29) (ls1 := [(0, .inr (.inr 149)), (1, .inl (x1))]) (st1 := [.inl (62), .inl (x1)]) (h1 := (px_G1, s)) rfl ?_
                    refine px_D_icmp rfl (fun hc => ?_) (fun hc => ?_)
                    · have hc10 : ¬ ((x1) = (62)) := of_decide_eq_true hc
                      rw [if_neg hc10] at h
                      refine px_D_st 1 (ip1 := 33) (ls1 := [(0, .inr (.inr 149)), (1, .inl (x1))]) (st1 := [.inl (0)]) (h1 := (px_G1, s)) rfl ?_
                      subst h
                      exact px_D_iret rfl rfl ⟨rfl, rfl⟩
                    · have hc10 : (x1) = (62) := Decidable.of_not_not (of_decide_eq_false hc)
                      rw [if_pos hc10] at h
                      refine px_D_st 2 (ip1 := 33) (ls1 := [(0, .inr (.inr 149)), (1, .inl (x1))]) (st1 := [.inl (1)]) (h1 := (px_G1, s)) rfl ?_
                      subst h
                      exact px_D_iret rfl rfl ⟨rfl, rfl⟩
set_option maxHeartbeats 4000000 in
set_option maxRecDepth 100000 in
theorem bz_M_isMarkSign {s : px_Z} {x1 : Int} : f_M_isMarkSign s x1 = 0 ∨ f_M_isMarkSign s x1 = 1 := by
  unfold f_M_isMarkSign
  repeat' split
  all_goals first | exact Or.inl rfl | exact Or.inr rfl | exact bz_isx

def f_M_errs (s : px_Z) (x1 : Int) : Option (Int × px_Z) := some (((-1), px_up (px_up s 149 31 x1) 149 32 ((px_up s 149 31 x1) 149 15)))
set_option maxHeartbeats 4000000 in
set_option maxRecDepth 100000 in
theorem c_M_errs {sc : List Int} {d : Nat} {s : px_Z} {x1 : Int} {out : Int × px_Z} (h : f_M_errs s x1 = some out) : px_D sc (d + 0) 172 0 [(0, .inr (.inr 149)), (1, .inl (x1))] [] (px_G1, s) (px_Qi out) := by
  unfold f_M_errs at h
  refine px_D_st 8 (ip1 := 8) (ls1 := [(0, .inr (.inr 149)), (1, .inl (x1))]) (st1 := [.inl ((-1))]) (h1 := (px_G1, px_up (px_up s 149 31 x1) 149 32 ((px_up s 149 31 x1) 149 15))) rfl ?_
  cases h
  exact px_D_iret rfl rfl ⟨rfl, rfl⟩

def f_M_isWord (s : px_Z) (x1 : Int) : Int := if (s 149 16) = (2) then (if (s 149 17) = (x1) then 1 else 0) else 0
set_option maxHeartbeats 4000000 in
set_option maxRecDepth 100000 in
theorem c_M_isWord {sc : List Int} {d : Nat} {s : px_Z} {x1 : Int} {out : Int} (h : f_M_isWord s x1 = out) : px_D sc (d + 0) 173 0 [(0, .inr (.inr 149)), (1, .inl (x1))] [] (px_G1, s) (px_Qp s out) := by
  unfold f_M_isWord at h
  refine px_D_st 3 (ip1 := 3) (ls1 := [(0, .inr (.inr 149)), (1, .inl (x1))]) (st1 := [.inl (2), .inl (s 149 16)]) (h1 := (px_G1, s)) rfl ?_
  refine px_D_icmp rfl (fun hc => ?_) (fun hc => ?_)
  · have hc1 : ¬ ((s 149 16) = (2)) := of_decide_eq_true hc
    rw [if_neg hc1] at h
    refine px_D_st 1 (ip1 := 11) (ls1 := [(0, .inr (.inr 149)), (1, .inl (x1))]) (st1 := [.inl (0)]) (h1 := (px_G1, s)) rfl ?_
    subst h
    exact px_D_iret rfl rfl ⟨rfl, rfl⟩
  · have hc1 : (s 149 16) = (2) := Decidable.of_not_not (of_decide_eq_false hc)
    rw [if_pos hc1] at h
    refine px_D_st 3 (ip1 := 7) (ls1 := [(0, .inr (.inr 149)), (1, .inl (x1))]) (st1 := [.inl (x1), .inl (s 149 17)]) (h1 := (px_G1, s)) rfl ?_
    refine px_D_icmp rfl (fun hc => ?_) (fun hc => ?_)
    · have hc2 : ¬ ((s 149 17) = (x1)) := of_decide_eq_true hc
      rw [if_neg hc2] at h
      refine px_D_st 1 (ip1 := 11) (ls1 := [(0, .inr (.inr 149)), (1, .inl (x1))]) (st1 := [.inl (0)]) (h1 := (px_G1, s)) rfl ?_
      subst h
      exact px_D_iret rfl rfl ⟨rfl, rfl⟩
    · have hc2 : (s 149 17) = (x1) := Decidable.of_not_not (of_decide_eq_false hc)
      rw [if_pos hc2] at h
      refine px_D_st 2 (ip1 := 11) (ls1 := [(0, .inr (.inr 149)), (1, .inl (x1))]) (st1 := [.inl (1)]) (h1 := (px_G1, s)) rfl ?_
      subst h
      exact px_D_iret rfl rfl ⟨rfl, rfl⟩
set_option maxHeartbeats 4000000 in
set_option maxRecDepth 100000 in
theorem bz_M_isWord {s : px_Z} {x1 : Int} : f_M_isWord s x1 = 0 ∨ f_M_isWord s x1 = 1 := by
  unfold f_M_isWord
  repeat' split
  all_goals first | exact Or.inl rfl | exact Or.inr rfl | exact bz_isx

def f_M_isSign (s : px_Z) (x1 : Int) : Int := if (s 149 16) = (4) then (if (s 149 17) = (x1) then 1 else 0) else 0
set_option maxHeartbeats 4000000 in
set_option maxRecDepth 100000 in
theorem c_M_isSign {sc : List Int} {d : Nat} {s : px_Z} {x1 : Int} {out : Int} (h : f_M_isSign s x1 = out) : px_D sc (d + 0) 174 0 [(0, .inr (.inr 149)), (1, .inl (x1))] [] (px_G1, s) (px_Qp s out) := by
  unfold f_M_isSign at h
  refine px_D_st 3 (ip1 := 3) (ls1 := [(0, .inr (.inr 149)), (1, .inl (x1))]) (st1 := [.inl (4), .inl (s 149 16)]) (h1 := (px_G1, s)) rfl ?_
  refine px_D_icmp rfl (fun hc => ?_) (fun hc => ?_)
  · have hc1 : ¬ ((s 149 16) = (4)) := of_decide_eq_true hc
    rw [if_neg hc1] at h
    refine px_D_st 1 (ip1 := 11) (ls1 := [(0, .inr (.inr 149)), (1, .inl (x1))]) (st1 := [.inl (0)]) (h1 := (px_G1, s)) rfl ?_
    subst h
    exact px_D_iret rfl rfl ⟨rfl, rfl⟩
  · have hc1 : (s 149 16) = (4) := Decidable.of_not_not (of_decide_eq_false hc)
    rw [if_pos hc1] at h
    refine px_D_st 3 (ip1 := 7) (ls1 := [(0, .inr (.inr 149)), (1, .inl (x1))]) (st1 := [.inl (x1), .inl (s 149 17)]) (h1 := (px_G1, s)) rfl ?_
    refine px_D_icmp rfl (fun hc => ?_) (fun hc => ?_)
    · have hc2 : ¬ ((s 149 17) = (x1)) := of_decide_eq_true hc
      rw [if_neg hc2] at h
      refine px_D_st 1 (ip1 := 11) (ls1 := [(0, .inr (.inr 149)), (1, .inl (x1))]) (st1 := [.inl (0)]) (h1 := (px_G1, s)) rfl ?_
      subst h
      exact px_D_iret rfl rfl ⟨rfl, rfl⟩
    · have hc2 : (s 149 17) = (x1) := Decidable.of_not_not (of_decide_eq_false hc)
      rw [if_pos hc2] at h
      refine px_D_st 2 (ip1 := 11) (ls1 := [(0, .inr (.inr 149)), (1, .inl (x1))]) (st1 := [.inl (1)]) (h1 := (px_G1, s)) rfl ?_
      subst h
      exact px_D_iret rfl rfl ⟨rfl, rfl⟩
set_option maxHeartbeats 4000000 in
set_option maxRecDepth 100000 in
theorem bz_M_isSign {s : px_Z} {x1 : Int} : f_M_isSign s x1 = 0 ∨ f_M_isSign s x1 = 1 := by
  unfold f_M_isSign
  repeat' split
  all_goals first | exact Or.inl rfl | exact Or.inr rfl | exact bz_isx

def f_M_emits (s : px_Z) (x1 : Int) (x2 : Int) : Option (px_Z) := if 0 ≤ (px_wr (800 + (s 149 27))) ∧ (px_wr (800 + (s 149 27))) < 1200 then if 0 ≤ (px_wr (800 + ((px_up s 162 (px_wr (800 + (s 149 27))).toNat x1) 149 27))) ∧ (px_wr (800 + ((px_up s 162 (px_wr (800 + (s 149 27))).toNat x1) 149 27))) < 1200 then some (px_up (px_up (px_up s 162 (px_wr (800 + (s 149 27))).toNat x1) 163 (px_wr (800 + ((px_up s 162 (px_wr (800 + (s 149 27))).toNat x1) 149 27))).toNat x2) 149 27 (px_wr (((px_up (px_up s 162 (px_wr (800 + (s 149 27))).toNat x1) 163 (px_wr (800 + ((px_up s 162 (px_wr (800 + (s 149 27))).toNat x1) 149 27))).toNat x2) 149 27) + 1))) else none else none
set_option maxHeartbeats 4000000 in
set_option maxRecDepth 100000 in
theorem c_M_emits {sc : List Int} {d : Nat} {s : px_Z} {x1 : Int} {x2 : Int} {out : px_Z} (h : f_M_emits s x1 x2 = some out) : px_D sc (d + 0) 175 0 [(0, .inr (.inr 149)), (1, .inl (x1)), (2, .inl (x2))] [] (px_G1, s) (px_Qv out) := by
  unfold f_M_emits at h
  refine px_D_st 7 (ip1 := 7) (ls1 := [(0, .inr (.inr 149)), (1, .inl (x1)), (2, .inl (x2))]) (st1 := [.inl (x1), .inl (px_wr (800 + (s 149 27))), .inr (.inr 162)]) (h1 := (px_G1, s)) rfl ?_
  by_cases hc1 : 0 ≤ (px_wr (800 + (s 149 27))) ∧ (px_wr (800 + (s 149 27))) < 1200
  case neg => rw [if_neg hc1] at h; cases h
  rw [if_pos hc1] at h
  refine px_D_iast (k := 157) (n := 1200) rfl rfl hc1 ?_
  refine px_D_st 7 (ip1 := 15) (ls1 := [(0, .inr (.inr 149)), (1, .inl (x1)), (2, .inl (x2))]) (st1 := [.inl (x2), .inl (px_wr (800 + ((px_up s 162 (px_wr (800 + (s 149 27))).toNat x1) 149 27))), .inr (.inr 163)]) (h1 := (px_G1, px_up s 162 (px_wr (800 + (s 149 27))).toNat x1)) rfl ?_
  by_cases hc2 : 0 ≤ (px_wr (800 + ((px_up s 162 (px_wr (800 + (s 149 27))).toNat x1) 149 27))) ∧ (px_wr (800 + ((px_up s 162 (px_wr (800 + (s 149 27))).toNat x1) 149 27))) < 1200
  case neg => rw [if_neg hc2] at h; cases h
  rw [if_pos hc2] at h
  refine px_D_iast (k := 158) (n := 1200) rfl rfl hc2 ?_
  refine px_D_st 6 (ip1 := 22) (ls1 := [(0, .inr (.inr 149)), (1, .inl (x1)), (2, .inl (x2))]) (st1 := []) (h1 := (px_G1, px_up (px_up (px_up s 162 (px_wr (800 + (s 149 27))).toNat x1) 163 (px_wr (800 + ((px_up s 162 (px_wr (800 + (s 149 27))).toNat x1) 149 27))).toNat x2) 149 27 (px_wr (((px_up (px_up s 162 (px_wr (800 + (s 149 27))).toNat x1) 163 (px_wr (800 + ((px_up s 162 (px_wr (800 + (s 149 27))).toNat x1) 149 27))).toNat x2) 149 27) + 1)))) rfl ?_
  cases h
  exact px_D_vret rfl ⟨rfl, rfl⟩

def f_M_canAsk (s : px_Z) (x1 : Int) : Int := if (f_M_isIn s x1 8 16) = (0) then 0 else (if (s 149 26) = (0) then 1 else (if (x1) = (12) then 0 else (if (x1) = (14) then 0 else 1)))
set_option maxHeartbeats 4000000 in
set_option maxRecDepth 100000 in
theorem c_M_canAsk {sc : List Int} {d : Nat} {s : px_Z} {x1 : Int} {out : Int} (h : f_M_canAsk s x1 = out) : px_D sc (d + 1) 176 0 [(0, .inr (.inr 149)), (1, .inl (x1))] [] (px_G1, s) (px_Qp s out) := by
  unfold f_M_canAsk at h
  refine px_D_st 4 (ip1 := 4) (ls1 := [(0, .inr (.inr 149)), (1, .inl (x1))]) (st1 := [.inl (16), .inl (8), .inl (x1), .inr (.inr 149)]) (h1 := (px_G1, s)) rfl ?_
  refine px_D_call (as := [.inr (.inr 149), .inl (x1), .inl (8), .inl (16)]) (rest := []) rfl rfl rfl rfl ?_
  refine px_D_mono (c_M_isIn (d := d + 0) rfl) ?_
  rintro _ _ ⟨rfl, rfl⟩
  show px_D sc (d + 1) 176 5 [(0, .inr (.inr 149)), (1, .inl (x1))] [.inl (f_M_isIn s x1 8 16)] (px_G1, s) _
  refine px_D_ifc rfl (fun hc => ?_) (fun hc => ?_)
  · have hc1 : (f_M_isIn s x1 8 16) = (0) := of_decide_eq_true hc
    rw [if_pos hc1] at h
    refine px_D_st 1 (ip1 := 18) (ls1 := [(0, .inr (.inr 149)), (1, .inl (x1))]) (st1 := [.inl (0)]) (h1 := (px_G1, s)) rfl ?_
    subst h
    exact px_D_iret rfl rfl ⟨rfl, rfl⟩
  · have hc1 : ¬ ((f_M_isIn s x1 8 16) = (0)) := of_decide_eq_false hc
    rw [if_neg hc1] at h
    refine px_D_st 2 (ip1 := 8) (ls1 := [(0, .inr (.inr 149)), (1, .inl (x1))]) (st1 := [.inl (s 149 26)]) (h1 := (px_G1, s)) rfl ?_
    refine px_D_ifc rfl (fun hc => ?_) (fun hc => ?_)
    · have hc2 : (s 149 26) = (0) := of_decide_eq_true hc
      rw [if_pos hc2] at h
      refine px_D_st 2 (ip1 := 18) (ls1 := [(0, .inr (.inr 149)), (1, .inl (x1))]) (st1 := [.inl (1)]) (h1 := (px_G1, s)) rfl ?_
      subst h
      exact px_D_iret rfl rfl ⟨rfl, rfl⟩
    · have hc2 : ¬ ((s 149 26) = (0)) := of_decide_eq_false hc
      rw [if_neg hc2] at h
      refine px_D_st 2 (ip1 := 11) (ls1 := [(0, .inr (.inr 149)), (1, .inl (x1))]) (st1 := [.inl (12), .inl (x1)]) (h1 := (px_G1, s)) rfl ?_
      refine px_D_icmp rfl (fun hc => ?_) (fun hc => ?_)
      · have hc3 : (x1) = (12) := of_decide_eq_true hc
        rw [if_pos hc3] at h
        refine px_D_st 1 (ip1 := 18) (ls1 := [(0, .inr (.inr 149)), (1, .inl (x1))]) (st1 := [.inl (0)]) (h1 := (px_G1, s)) rfl ?_
        subst h
        exact px_D_iret rfl rfl ⟨rfl, rfl⟩
      · have hc3 : ¬ ((x1) = (12)) := of_decide_eq_false hc
        rw [if_neg hc3] at h
        refine px_D_st 2 (ip1 := 14) (ls1 := [(0, .inr (.inr 149)), (1, .inl (x1))]) (st1 := [.inl (14), .inl (x1)]) (h1 := (px_G1, s)) rfl ?_
        refine px_D_icmp rfl (fun hc => ?_) (fun hc => ?_)
        · have hc4 : (x1) = (14) := of_decide_eq_true hc
          rw [if_pos hc4] at h
          refine px_D_st 1 (ip1 := 18) (ls1 := [(0, .inr (.inr 149)), (1, .inl (x1))]) (st1 := [.inl (0)]) (h1 := (px_G1, s)) rfl ?_
          subst h
          exact px_D_iret rfl rfl ⟨rfl, rfl⟩
        · have hc4 : ¬ ((x1) = (14)) := of_decide_eq_false hc
          rw [if_neg hc4] at h
          refine px_D_st 2 (ip1 := 18) (ls1 := [(0, .inr (.inr 149)), (1, .inl (x1))]) (st1 := [.inl (1)]) (h1 := (px_G1, s)) rfl ?_
          subst h
          exact px_D_iret rfl rfl ⟨rfl, rfl⟩
set_option maxHeartbeats 4000000 in
set_option maxRecDepth 100000 in
theorem bz_M_canAsk {s : px_Z} {x1 : Int} : f_M_canAsk s x1 = 0 ∨ f_M_canAsk s x1 = 1 := by
  unfold f_M_canAsk
  repeat' split
  all_goals first | exact Or.inl rfl | exact Or.inr rfl | exact bz_isx

def f_M_waits (s : px_Z) (x1 : Int) : Option (px_Z) := if 0 ≤ (s 149 30) ∧ (s 149 30) < 40 then some (px_up (px_up s 164 (s 149 30).toNat x1) 149 30 (px_wr (((px_up s 164 (s 149 30).toNat x1) 149 30) + 1))) else none
set_option maxHeartbeats 4000000 in
set_option maxRecDepth 100000 in
theorem c_M_waits {sc : List Int} {d : Nat} {s : px_Z} {x1 : Int} {out : px_Z} (h : f_M_waits s x1 = some out) : px_D sc (d + 0) 181 0 [(0, .inr (.inr 149)), (1, .inl (x1))] [] (px_G1, s) (px_Qv out) := by
  unfold f_M_waits at h
  refine px_D_st 5 (ip1 := 5) (ls1 := [(0, .inr (.inr 149)), (1, .inl (x1))]) (st1 := [.inl (x1), .inl (s 149 30), .inr (.inr 164)]) (h1 := (px_G1, s)) rfl ?_
  by_cases hc1 : 0 ≤ (s 149 30) ∧ (s 149 30) < 40
  case neg => rw [if_neg hc1] at h; cases h
  rw [if_pos hc1] at h
  refine px_D_iast (k := 159) (n := 40) rfl rfl hc1 ?_
  refine px_D_st 6 (ip1 := 12) (ls1 := [(0, .inr (.inr 149)), (1, .inl (x1))]) (st1 := []) (h1 := (px_G1, px_up (px_up s 164 (s 149 30).toNat x1) 149 30 (px_wr (((px_up s 164 (s 149 30).toNat x1) 149 30) + 1)))) rfl ?_
  cases h
  exact px_D_vret rfl ⟨rfl, rfl⟩

def l_M_settles_0 (k32 : px_Z → Option (px_Z)) : Nat → px_Z → Int → Option (px_Z)
  | 0, _, _ => none
  | n + 1, s, x1 => if (s 149 30) ≤ (0) then k32 s  else (if 0 ≤ (px_wr ((s 149 30) - 1)) ∧ (px_wr ((s 149 30) - 1)) < 40 then if (s 164 (px_wr ((s 149 30) - 1)).toNat) = (x1) then (f_M_emits (px_up s 149 30 (px_wr ((s 149 30) - 1))) x1 0).bind (fun q4 => if (x1) = (9) then l_M_settles_0 k32 n (px_up q4 149 28 (px_wr ((q4 149 28) - 1))) x1 else l_M_settles_0 k32 n q4 x1) else k32 s  else none)
set_option maxHeartbeats 4000000 in
set_option maxRecDepth 100000 in
theorem cl_M_settles_0 {sc : List Int} {d : Nat} {k32 : px_Z → Option (px_Z)}  (hk32 : ∀ (s : px_Z) (out : px_Z), k32 s  = some out → px_D sc (d + 1) 182 32 [] [] (px_G1, s) (px_Qv out)) : ∀ (n : Nat) (s : px_Z) (x1 : Int) (out : px_Z), l_M_settles_0 k32 n s x1 = some out → px_D sc (d + 1) 182 0 [(0, .inr (.inr 149)), (1, .inl (x1))] [] (px_G1, s) (px_Qv out) := by
  intro n
  induction n with
  | zero => intro s x1 out h; cases h
  | succ n ih =>
    intro s x1 out h
    rw [l_M_settles_0] at h
    refine px_D_st 2 (ip1 := 2) (ls1 := [(0, .inr (.inr 149)), (1, .inl (x1))]) (st1 := [.inl (s 149 30)]) (h1 := (px_G1, s)) rfl ?_
    refine px_D_ifc rfl (fun hc => ?_) (fun hc => ?_)
    · have hc1 : (s 149 30) ≤ (0) := of_decide_eq_true hc
      rw [if_pos hc1] at h
      refine px_D_ls [] rfl rfl (fun _ h => absurd h List.not_mem_nil) ?_
      exact hk32 _ _ h
    · have hc1 : ¬ ((s 149 30) ≤ (0)) := of_decide_eq_false hc
      rw [if_neg hc1] at h
      refine px_D_st 6 (ip1 := 9) (ls1 := [(0, .inr (.inr 149)), (1, .inl (x1))]) (st1 := [.inl (px_wr ((s 149 30) - 1)), .inr (.inr 164)]) (h1 := (px_G1, s)) rfl ?_
      by_cases hc2 : 0 ≤ (px_wr ((s 149 30) - 1)) ∧ (px_wr ((s 149 30) - 1)) < 40
      case neg => rw [if_neg hc2] at h; cases h
      rw [if_pos hc2] at h
      refine px_D_iald (k := 159) (n := 40) rfl rfl hc2 ?_
      refine px_D_st 1 (ip1 := 11) (ls1 := [(0, .inr (.inr 149)), (1, .inl (x1))]) (st1 := [.inl (x1), .inl (s 164 (px_wr ((s 149 30) - 1)).toNat)]) (h1 := (px_G1, s)) rfl ?_
      refine px_D_icmp rfl (fun hc => ?_) (fun hc => ?_)
      · have hc3 : ¬ ((s 164 (px_wr ((s 149 30) - 1)).toNat) = (x1)) := of_decide_eq_true hc
        rw [if_neg hc3] at h
        refine px_D_ls [] rfl rfl (fun _ h => absurd h List.not_mem_nil) ?_
        exact hk32 _ _ h
      · have hc3 : (s 164 (px_wr ((s 149 30) - 1)).toNat) = (x1) := Decidable.of_not_not (of_decide_eq_false hc)
        rw [if_pos hc3] at h
        refine px_D_st 9 (ip1 := 21) (ls1 := [(0, .inr (.inr 149)), (1, .inl (x1))]) (st1 := [.inl (0), .inl (x1), .inr (.inr 149)]) (h1 := (px_G1, px_up s 149 30 (px_wr ((s 149 30) - 1)))) rfl ?_
        refine px_D_call (as := [.inr (.inr 149), .inl (x1), .inl (0)]) (rest := []) rfl rfl rfl rfl ?_
        obtain ⟨q4, hq4, h⟩ := Option.bind_eq_some_iff.mp h
        refine px_D_mono (c_M_emits (d := d + 0) hq4) ?_
        rintro _ _ ⟨rfl, rfl⟩
        show px_D sc (d + 1) 182 22 [(0, .inr (.inr 149)), (1, .inl (x1))] [] (px_G1, q4) _
        refine px_D_st 2 (ip1 := 24) (ls1 := [(0, .inr (.inr 149)), (1, .inl (x1))]) (st1 := [.inl (9), .inl (x1)]) (h1 := (px_G1, q4)) rfl ?_
        refine px_D_icmp rfl (fun hc => ?_) (fun hc => ?_)
        · have hc5 : ¬ ((x1) = (9)) := of_decide_eq_true hc
          rw [if_neg hc5] at h
          refine px_D_ls [(0, .inr (.inr 149)), (1, .inl (x1))] rfl rfl (List.forall_mem_cons.mpr ⟨rfl, List.forall_mem_cons.mpr ⟨rfl, fun _ h => absurd h List.not_mem_nil⟩⟩) ?_
          exact ih _ _ _ h
        · have hc5 : (x1) = (9) := Decidable.of_not_not (of_decide_eq_false hc)
          rw [if_pos hc5] at h
          refine px_D_st 7 (ip1 := 0) (ls1 := [(0, .inr (.inr 149)), (1, .inl (x1))]) (st1 := []) (h1 := (px_G1, px_up q4 149 28 (px_wr ((q4 149 28) - 1)))) rfl ?_
          refine px_D_ls [(0, .inr (.inr 149)), (1, .inl (x1))] rfl rfl (List.forall_mem_cons.mpr ⟨rfl, List.forall_mem_cons.mpr ⟨rfl, fun _ h => absurd h List.not_mem_nil⟩⟩) ?_
          exact ih _ _ _ h
def f_M_settles (s : px_Z) (x1 : Int) : Option (px_Z) := l_M_settles_0 (fun s => some s) px_big s x1
set_option maxHeartbeats 4000000 in
set_option maxRecDepth 100000 in
theorem c_M_settles {sc : List Int} {d : Nat} {s : px_Z} {x1 : Int} {out : px_Z} (h : f_M_settles s x1 = some out) : px_D sc (d + 1) 182 0 [(0, .inr (.inr 149)), (1, .inl (x1))] [] (px_G1, s) (px_Qv out) := by
  unfold f_M_settles at h
  refine px_D_ls [(0, .inr (.inr 149)), (1, .inl (x1))] rfl rfl (List.forall_mem_cons.mpr ⟨rfl, List.forall_mem_cons.mpr ⟨rfl, fun _ h => absurd h List.not_mem_nil⟩⟩) ?_
  refine cl_M_settles_0 ?_ px_big _ _ _ h
  · intro s out h
    cases h
    exact px_D_vret rfl ⟨rfl, rfl⟩

def f_M_isLineWord (s : px_Z) : Int := if (s 149 26) = (0) then f_M_isWord s 0 else (if (f_M_isWord s 1) = (0) then (if (f_M_isWord s 2) = (0) then (if (f_M_isWord s 3) = (0) then 0 else 1) else 1) else 1)
set_option maxHeartbeats 4000000 in
set_option maxRecDepth 100000 in
theorem c_M_isLineWord {sc : List Int} {d : Nat} {s : px_Z} {out : Int} (h : f_M_isLineWord s  = out) : px_D sc (d + 1) 184 0 [(0, .inr (.inr 149))] [] (px_G1, s) (px_Qp s out) := by
  unfold f_M_isLineWord at h
  refine px_D_st 2 (ip1 := 2) (ls1 := [(0, .inr (.inr 149))]) (st1 := [.inl (s 149 26)]) (h1 := (px_G1, s)) rfl ?_
  refine px_D_ifc rfl (fun hc => ?_) (fun hc => ?_)
  · have hc1 : ¬ ((s 149 26) = (0)) := of_decide_eq_true hc
    rw [if_neg hc1] at h
    refine px_D_st 2 (ip1 := 9) (ls1 := [(0, .inr (.inr 149))]) (st1 := [.inl (1), .inr (.inr 149)]) (h1 := (px_G1, s)) rfl ?_
    refine px_D_call (as := [.inr (.inr 149), .inl (1)]) (rest := []) rfl rfl rfl rfl ?_
    refine px_D_mono (c_M_isWord (d := d + 0) rfl) ?_
    rintro _ _ ⟨rfl, rfl⟩
    show px_D sc (d + 1) 184 10 [(0, .inr (.inr 149))] [.inl (f_M_isWord s 1)] (px_G1, s) _
    refine px_D_ifc rfl (fun hc => ?_) (fun hc => ?_)
    · have hc2 : ¬ ((f_M_isWord s 1) = (0)) := of_decide_eq_true hc
      rw [if_neg hc2] at h
      refine px_D_st 2 (ip1 := 22) (ls1 := [(0, .inr (.inr 149))]) (st1 := [.inl (1)]) (h1 := (px_G1, s)) rfl ?_
      subst h
      exact px_D_iret rfl rfl ⟨rfl, rfl⟩
    · have hc2 : (f_M_isWord s 1) = (0) := Decidable.of_not_not (of_decide_eq_false hc)
      rw [if_pos hc2] at h
      refine px_D_st 2 (ip1 := 13) (ls1 := [(0, .inr (.inr 149))]) (st1 := [.inl (2), .inr (.inr 149)]) (h1 := (px_G1, s)) rfl ?_
      refine px_D_call (as := [.inr (.inr 149), .inl (2)]) (rest := []) rfl rfl rfl rfl ?_
      refine px_D_mono (c_M_isWord (d := d + 0) rfl) ?_
      rintro _ _ ⟨rfl, rfl⟩
      show px_D sc (d + 1) 184 14 [(0, .inr (.inr 149))] [.inl (f_M_isWord s 2)] (px_G1, s) _
      refine px_D_ifc rfl (fun hc => ?_) (fun hc => ?_)
      · have hc3 : ¬ ((f_M_isWord s 2) = (0)) := of_decide_eq_true hc
        rw [if_neg hc3] at h
        refine px_D_st 2 (ip1 := 22) (ls1 := [(0, .inr (.inr 149))]) (st1 := [.inl (1)]) (h1 := (px_G1, s)) rfl ?_
        subst h
        exact px_D_iret rfl rfl ⟨rfl, rfl⟩
      · have hc3 : (f_M_isWord s 2) = (0) := Decidable.of_not_not (of_decide_eq_false hc)
        rw [if_pos hc3] at h
        refine px_D_st 2 (ip1 := 17) (ls1 := [(0, .inr (.inr 149))]) (st1 := [.inl (3), .inr (.inr 149)]) (h1 := (px_G1, s)) rfl ?_
        refine px_D_call (as := [.inr (.inr 149), .inl (3)]) (rest := []) rfl rfl rfl rfl ?_
        refine px_D_mono (c_M_isWord (d := d + 0) rfl) ?_
        rintro _ _ ⟨rfl, rfl⟩
        show px_D sc (d + 1) 184 18 [(0, .inr (.inr 149))] [.inl (f_M_isWord s 3)] (px_G1, s) _
        refine px_D_ifc rfl (fun hc => ?_) (fun hc => ?_)
        · have hc4 : (f_M_isWord s 3) = (0) := of_decide_eq_true hc
          rw [if_pos hc4] at h
          refine px_D_st 1 (ip1 := 22) (ls1 := [(0, .inr (.inr 149))]) (st1 := [.inl (0)]) (h1 := (px_G1, s)) rfl ?_
          subst h
          exact px_D_iret rfl rfl ⟨rfl, rfl⟩
        · have hc4 : ¬ ((f_M_isWord s 3) = (0)) := of_decide_eq_false hc
          rw [if_neg hc4] at h
          refine px_D_st 2 (ip1 := 22) (ls1 := [(0, .inr (.inr 149))]) (st1 := [.inl (1)]) (h1 := (px_G1, s)) rfl ?_
          subst h
          exact px_D_iret rfl rfl ⟨rfl, rfl⟩
  · have hc1 : (s 149 26) = (0) := Decidable.of_not_not (of_decide_eq_false hc)
    rw [if_pos hc1] at h
    refine px_D_st 2 (ip1 := 5) (ls1 := [(0, .inr (.inr 149))]) (st1 := [.inl (0), .inr (.inr 149)]) (h1 := (px_G1, s)) rfl ?_
    refine px_D_call (as := [.inr (.inr 149), .inl (0)]) (rest := []) rfl rfl rfl rfl ?_
    refine px_D_mono (c_M_isWord (d := d + 0) rfl) ?_
    rintro _ _ ⟨rfl, rfl⟩
    show px_D sc (d + 1) 184 6 [(0, .inr (.inr 149))] [.inl (f_M_isWord s 0)] (px_G1, s) _
    refine px_D_st 1 (ip1 := 22) (ls1 := [(0, .inr (.inr 149))]) (st1 := [.inl (f_M_isWord s 0)]) (h1 := (px_G1, s)) rfl ?_
    subst h
    exact px_D_iret rfl (px_bz (bz_M_isWord)) ⟨rfl, rfl⟩
set_option maxHeartbeats 4000000 in
set_option maxRecDepth 100000 in
theorem bz_M_isLineWord {s : px_Z} : f_M_isLineWord s  = 0 ∨ f_M_isLineWord s  = 1 := by
  unfold f_M_isLineWord
  repeat' split
  all_goals first | exact Or.inl rfl | exact Or.inr rfl | exact bz_isx

def f_M_readNumber (s : px_Z) (x1 : Int) (x2 : Int) : Option (Int × px_Z) := if (s 149 16) = (3) then (if (f_M_isIn s (s 149 17) x1 x2) = (0) then (f_M_errs s 2).bind (fun q4 => some (q4.1, q4.2)) else (f_M_reads s ).bind (fun q3 => some (s 149 17, q3))) else (f_M_errs s 1).bind (fun q5 => some (q5.1, q5.2))
set_option maxHeartbeats 4000000 in
set_option maxRecDepth 100000 in
theorem c_M_readNumber {sc : List Int} {d : Nat} {s : px_Z} {x1 : Int} {x2 : Int} {out : Int × px_Z} (h : f_M_readNumber s x1 x2 = some out) : px_D sc (d + 3) 187 0 [(0, .inr (.inr 149)), (1, .inl (x1)), (2, .inl (x2))] [] (px_G1, s) (px_Qi out) := by
  unfold f_M_readNumber at h
  refine px_D_st 3 (ip1 := 3) (ls1 := [(0, .inr (.inr 149)), (1, .inl (x1)), (2, .inl (x2))]) (st1 := [.inl (3), .inl (s 149 16)]) (h1 := (px_G1, s)) rfl ?_
  refine px_D_icmp rfl (fun hc => ?_) (fun hc => ?_)
  · have hc1 : (s 149 16) = (3) := of_decide_eq_true hc
    rw [if_pos hc1] at h
    refine px_D_st 5 (ip1 := 13) (ls1 := [(0, .inr (.inr 149)), (1, .inl (x1)), (2, .inl (x2))]) (st1 := [.inl (x2), .inl (x1), .inl (s 149 17), .inr (.inr 149)]) (h1 := (px_G1, s)) rfl ?_
    refine px_D_call (as := [.inr (.inr 149), .inl (s 149 17), .inl (x1), .inl (x2)]) (rest := []) rfl rfl rfl rfl ?_
    refine px_D_mono (c_M_isIn (d := d + 2) rfl) ?_
    rintro _ _ ⟨rfl, rfl⟩
    show px_D sc (d + 3) 187 14 [(0, .inr (.inr 149)), (1, .inl (x1)), (2, .inl (x2))] [.inl (f_M_isIn s (s 149 17) x1 x2)] (px_G1, s) _
    refine px_D_ifc rfl (fun hc => ?_) (fun hc => ?_)
    · have hc2 : ¬ ((f_M_isIn s (s 149 17) x1 x2) = (0)) := of_decide_eq_true hc
      rw [if_neg hc2] at h
      refine px_D_st 4 (ip1 := 23) (ls1 := [(3, .inl (s 149 17)), (0, .inr (.inr 149)), (1, .inl (x1)), (2, .inl (x2))]) (st1 := [.inr (.inr 149)]) (h1 := (px_G1, s)) rfl ?_
      refine px_D_call (as := [.inr (.inr 149)]) (rest := []) rfl rfl rfl rfl ?_
      obtain ⟨q3, hq3, h⟩ := Option.bind_eq_some_iff.mp h
      refine px_D_mono (c_M_reads (d := d + 0) hq3) ?_
      rintro _ _ ⟨rfl, rfl⟩
      show px_D sc (d + 3) 187 24 [(3, .inl (s 149 17)), (0, .inr (.inr 149)), (1, .inl (x1)), (2, .inl (x2))] [] (px_G1, q3) _
      refine px_D_st 1 (ip1 := 25) (ls1 := [(3, .inl (s 149 17)), (0, .inr (.inr 149)), (1, .inl (x1)), (2, .inl (x2))]) (st1 := [.inl (s 149 17)]) (h1 := (px_G1, q3)) rfl ?_
      cases h
      exact px_D_iret rfl rfl ⟨rfl, rfl⟩
    · have hc2 : (f_M_isIn s (s 149 17) x1 x2) = (0) := Decidable.of_not_not (of_decide_eq_false hc)
      rw [if_pos hc2] at h
      refine px_D_st 2 (ip1 := 17) (ls1 := [(0, .inr (.inr 149)), (1, .inl (x1)), (2, .inl (x2))]) (st1 := [.inl (2), .inr (.inr 149)]) (h1 := (px_G1, s)) rfl ?_
      refine px_D_call (as := [.inr (.inr 149), .inl (2)]) (rest := []) rfl rfl rfl rfl ?_
      obtain ⟨q4, hq4, h⟩ := Option.bind_eq_some_iff.mp h
      refine px_D_mono (c_M_errs (d := d + 2) hq4) ?_
      rintro _ _ ⟨rfl, rfl⟩
      show px_D sc (d + 3) 187 18 [(0, .inr (.inr 149)), (1, .inl (x1)), (2, .inl (x2))] [.inl (q4.1)] (px_G1, q4.2) _
      cases h
      exact px_D_iret rfl rfl ⟨rfl, rfl⟩
  · have hc1 : ¬ ((s 149 16) = (3)) := of_decide_eq_false hc
    rw [if_neg hc1] at h
    refine px_D_st 2 (ip1 := 6) (ls1 := [(0, .inr (.inr 149)), (1, .inl (x1)), (2, .inl (x2))]) (st1 := [.inl (1), .inr (.inr 149)]) (h1 := (px_G1, s)) rfl ?_
    refine px_D_call (as := [.inr (.inr 149), .inl (1)]) (rest := []) rfl rfl rfl rfl ?_
    obtain ⟨q5, hq5, h⟩ := Option.bind_eq_some_iff.mp h
    refine px_D_mono (c_M_errs (d := d + 2) hq5) ?_
    rintro _ _ ⟨rfl, rfl⟩
    show px_D sc (d + 3) 187 7 [(0, .inr (.inr 149)), (1, .inl (x1)), (2, .inl (x2))] [.inl (q5.1)] (px_G1, q5.2) _
    cases h
    exact px_D_iret rfl rfl ⟨rfl, rfl⟩
