def f_M_isIn (s : px_Z) (x1 : Int) (x2 : Int) (x3 : Int) : Int := if (x1) < (x2) then 0 else (if (x3) < (x1) then 0 else 1)
set_option maxHeartbeats 4000000 in
set_option maxRecDepth 100000 in
theorem c_M_isIn {sc : List Int} {d : Nat} {s : px_Z} {x1 : Int} {x2 : Int} {x3 : Int} {out : Int} (h : f_M_isIn s x1 x2 x3 = out) : px_D sc (d + 0) 149 0 [(0, .inr (.inr 150)), (1, .inl (x1)), (2, .inl (x2)), (3, .inl (x3))] [] (px_G1, s) (px_Qp s out) := by
  unfold f_M_isIn at h
  refine px_D_st 2 (ip1 := 2) (ls1 := [(0, .inr (.inr 150)), (1, .inl (x1)), (2, .inl (x2)), (3, .inl (x3))]) (st1 := [.inl (x2), .inl (x1)]) (h1 := (px_G1, s)) rfl ?_
  refine px_D_icmp rfl (fun hc => ?_) (fun hc => ?_)
  · have hc1 : (x1) < (x2) := of_decide_eq_true hc
    rw [if_pos hc1] at h
    refine px_D_st 1 (ip1 := 9) (ls1 := [(0, .inr (.inr 150)), (1, .inl (x1)), (2, .inl (x2)), (3, .inl (x3))]) (st1 := [.inl (0)]) (h1 := (px_G1, s)) rfl ?_
    subst h
    exact px_D_iret rfl rfl ⟨rfl, rfl⟩
  · have hc1 : ¬ ((x1) < (x2)) := of_decide_eq_false hc
    rw [if_neg hc1] at h
    refine px_D_st 2 (ip1 := 5) (ls1 := [(0, .inr (.inr 150)), (1, .inl (x1)), (2, .inl (x2)), (3, .inl (x3))]) (st1 := [.inl (x3), .inl (x1)]) (h1 := (px_G1, s)) rfl ?_
    refine px_D_icmp rfl (fun hc => ?_) (fun hc => ?_)
    · have hc2 : (x3) < (x1) := of_decide_eq_true hc
      rw [if_pos hc2] at h
      refine px_D_st 1 (ip1 := 9) (ls1 := [(0, .inr (.inr 150)), (1, .inl (x1)), (2, .inl (x2)), (3, .inl (x3))]) (st1 := [.inl (0)]) (h1 := (px_G1, s)) rfl ?_
      subst h
      exact px_D_iret rfl rfl ⟨rfl, rfl⟩
    · have hc2 : ¬ ((x3) < (x1)) := of_decide_eq_false hc
      rw [if_neg hc2] at h
      refine px_D_st 2 (ip1 := 9) (ls1 := [(0, .inr (.inr 150)), (1, .inl (x1)), (2, .inl (x2)), (3, .inl (x3))]) (st1 := [.inl (1)]) (h1 := (px_G1, s)) rfl ?_
      subst h
      exact px_D_iret rfl rfl ⟨rfl, rfl⟩
set_option maxHeartbeats 4000000 in
set_option maxRecDepth 100000 in
theorem bz_M_isIn {s : px_Z} {x1 : Int} {x2 : Int} {x3 : Int} : f_M_isIn s x1 x2 x3 = 0 ∨ f_M_isIn s x1 x2 x3 = 1 := by
  unfold f_M_isIn
  repeat' split
  all_goals first | exact Or.inl rfl | exact Or.inr rfl | exact Or.inl rfl

def f_M_held (s : px_Z) (x1 : Int) (x2 : Int) (x3 : Int) : Int := if (x2) ≤ (x1) then (if (x1) ≤ (x3) then x1 else x3) else x2
set_option maxHeartbeats 4000000 in
set_option maxRecDepth 100000 in
theorem c_M_held {sc : List Int} {d : Nat} {s : px_Z} {x1 : Int} {x2 : Int} {x3 : Int} {out : Int} (h : f_M_held s x1 x2 x3 = out) : px_D sc (d + 0) 150 0 [(0, .inr (.inr 150)), (1, .inl (x1)), (2, .inl (x2)), (3, .inl (x3))] [] (px_G1, s) (px_Qp s out) := by
  unfold f_M_held at h
  refine px_D_st 2 (ip1 := 2) (ls1 := [(0, .inr (.inr 150)), (1, .inl (x1)), (2, .inl (x2)), (3, .inl (x3))]) (st1 := [.inl (x2), .inl (x1)]) (h1 := (px_G1, s)) rfl ?_
  refine px_D_icmp rfl (fun hc => ?_) (fun hc => ?_)
  · have hc1 : (x2) ≤ (x1) := of_decide_eq_true hc
    rw [if_pos hc1] at h
    refine px_D_st 2 (ip1 := 7) (ls1 := [(0, .inr (.inr 150)), (1, .inl (x1)), (2, .inl (x2)), (3, .inl (x3))]) (st1 := [.inl (x3), .inl (x1)]) (h1 := (px_G1, s)) rfl ?_
    refine px_D_icmp rfl (fun hc => ?_) (fun hc => ?_)
    · have hc2 : (x1) ≤ (x3) := of_decide_eq_true hc
      rw [if_pos hc2] at h
      refine px_D_st 1 (ip1 := 11) (ls1 := [(0, .inr (.inr 150)), (1, .inl (x1)), (2, .inl (x2)), (3, .inl (x3))]) (st1 := [.inl (x1)]) (h1 := (px_G1, s)) rfl ?_
      subst h
      exact px_D_iret rfl rfl ⟨rfl, rfl⟩
    · have hc2 : ¬ ((x1) ≤ (x3)) := of_decide_eq_false hc
      rw [if_neg hc2] at h
      refine px_D_st 2 (ip1 := 11) (ls1 := [(0, .inr (.inr 150)), (1, .inl (x1)), (2, .inl (x2)), (3, .inl (x3))]) (st1 := [.inl (x3)]) (h1 := (px_G1, s)) rfl ?_
      subst h
      exact px_D_iret rfl rfl ⟨rfl, rfl⟩
  · have hc1 : ¬ ((x2) ≤ (x1)) := of_decide_eq_false hc
    rw [if_neg hc1] at h
    refine px_D_st 2 (ip1 := 11) (ls1 := [(0, .inr (.inr 150)), (1, .inl (x1)), (2, .inl (x2)), (3, .inl (x3))]) (st1 := [.inl (x2)]) (h1 := (px_G1, s)) rfl ?_
    subst h
    exact px_D_iret rfl rfl ⟨rfl, rfl⟩

def f_M_greater (s : px_Z) (x1 : Int) (x2 : Int) : Int := if (x1) ≤ (x2) then x2 else x1
set_option maxHeartbeats 4000000 in
set_option maxRecDepth 100000 in
theorem c_M_greater {sc : List Int} {d : Nat} {s : px_Z} {x1 : Int} {x2 : Int} {out : Int} (h : f_M_greater s x1 x2 = out) : px_D sc (d + 0) 151 0 [(0, .inr (.inr 150)), (1, .inl (x1)), (2, .inl (x2))] [] (px_G1, s) (px_Qp s out) := by
  unfold f_M_greater at h
  refine px_D_st 2 (ip1 := 2) (ls1 := [(0, .inr (.inr 150)), (1, .inl (x1)), (2, .inl (x2))]) (st1 := [.inl (x2), .inl (x1)]) (h1 := (px_G1, s)) rfl ?_
  refine px_D_icmp rfl (fun hc => ?_) (fun hc => ?_)
  · have hc1 : (x1) ≤ (x2) := of_decide_eq_true hc
    rw [if_pos hc1] at h
    refine px_D_st 1 (ip1 := 6) (ls1 := [(0, .inr (.inr 150)), (1, .inl (x1)), (2, .inl (x2))]) (st1 := [.inl (x2)]) (h1 := (px_G1, s)) rfl ?_
    subst h
    exact px_D_iret rfl rfl ⟨rfl, rfl⟩
  · have hc1 : ¬ ((x1) ≤ (x2)) := of_decide_eq_false hc
    rw [if_neg hc1] at h
    refine px_D_st 2 (ip1 := 6) (ls1 := [(0, .inr (.inr 150)), (1, .inl (x1)), (2, .inl (x2))]) (st1 := [.inl (x1)]) (h1 := (px_G1, s)) rfl ?_
    subst h
    exact px_D_iret rfl rfl ⟨rfl, rfl⟩

def l_M_onesOf_4 (s : px_Z)  : Nat → Int → Int → Option (Int)
  | 0, _, _ => none
  | n + 1, x2, x3 => if (x3) = (0) then some x2 else l_M_onesOf_4 s  n (px_wr (x2 + 1)) (px_and (x3) ((px_wr (x3 - 1))))
set_option maxHeartbeats 4000000 in
set_option maxRecDepth 100000 in
theorem cl_M_onesOf_4 {sc : List Int} {d : Nat} {s : px_Z}  : ∀ (n : Nat) (x2 : Int) (x3 : Int) (out : Int), l_M_onesOf_4 s  n x2 x3 = some out → px_D sc (d + 0) 152 4 [(2, .inl (x2)), (3, .inl (x3))] [] (px_G1, s) (px_Qp s out) := by
  intro n
  induction n with
  | zero => intro x2 x3 out h; cases h
  | succ n ih =>
    intro x2 x3 out h
    rw [l_M_onesOf_4] at h
    refine px_D_st 1 (ip1 := 5) (ls1 := [(2, .inl (x2)), (3, .inl (x3))]) (st1 := [.inl (x3)]) (h1 := (px_G1, s)) rfl ?_
    refine px_D_ifc rfl (fun hc => ?_) (fun hc => ?_)
    · have hc1 : (x3) = (0) := of_decide_eq_true hc
      rw [if_pos hc1] at h
      refine px_D_st 1 (ip1 := 18) (ls1 := [(2, .inl (x2)), (3, .inl (x3))]) (st1 := [.inl (x2)]) (h1 := (px_G1, s)) rfl ?_
      cases h
      exact px_D_iret rfl rfl ⟨rfl, rfl⟩
    · have hc1 : ¬ ((x3) = (0)) := of_decide_eq_false hc
      rw [if_neg hc1] at h
      refine px_D_st 11 (ip1 := 4) (ls1 := [(3, .inl (px_and (x3) ((px_wr (x3 - 1))))), (2, .inl (px_wr (x2 + 1)))]) (st1 := []) (h1 := (px_G1, s)) rfl ?_
      refine px_D_ls [(2, .inl (px_wr (x2 + 1))), (3, .inl (px_and (x3) ((px_wr (x3 - 1)))))] rfl rfl (List.forall_mem_cons.mpr ⟨rfl, List.forall_mem_cons.mpr ⟨rfl, fun _ h => absurd h List.not_mem_nil⟩⟩) ?_
      exact ih _ _ _ h
def f_M_onesOf (s : px_Z) (x1 : Int) : Option (Int) := l_M_onesOf_4 s  px_big 0 x1
set_option maxHeartbeats 4000000 in
set_option maxRecDepth 100000 in
theorem c_M_onesOf {sc : List Int} {d : Nat} {s : px_Z} {x1 : Int} {out : Int} (h : f_M_onesOf s x1 = some out) : px_D sc (d + 0) 152 0 [(0, .inr (.inr 150)), (1, .inl (x1))] [] (px_G1, s) (px_Qp s out) := by
  unfold f_M_onesOf at h
  refine px_D_st 4 (ip1 := 4) (ls1 := [(3, .inl (x1)), (2, .inl (0)), (0, .inr (.inr 150)), (1, .inl (x1))]) (st1 := []) (h1 := (px_G1, s)) rfl ?_
  refine px_D_ls [(2, .inl (0)), (3, .inl (x1))] rfl rfl (List.forall_mem_cons.mpr ⟨rfl, List.forall_mem_cons.mpr ⟨rfl, fun _ h => absurd h List.not_mem_nil⟩⟩) ?_
  refine cl_M_onesOf_4  px_big _ _ _ h

def l_M_keepsAhead_32 (k50 : px_Z → Option (px_Z)) : Nat → px_Z → Int → Option (px_Z)
  | 0, _, _ => none
  | n + 1, s, x1 => if (40) ≤ (x1) then k50 s  else (if 0 ≤ (x1) ∧ (x1) < 40 then if 0 ≤ (px_wr ((px_wr (40 * (s 150 3))) + x1)) ∧ (px_wr ((px_wr (40 * (s 150 3))) + x1)) < 240 then l_M_keepsAhead_32 k50 n (px_up s 152 (px_wr ((px_wr (40 * (s 150 3))) + x1)).toNat (s 151 x1.toNat)) (px_wr (x1 + 1)) else none else none)
set_option maxHeartbeats 4000000 in
set_option maxRecDepth 100000 in
theorem cl_M_keepsAhead_32 {sc : List Int} {d : Nat} {k50 : px_Z → Option (px_Z)}  (hk50 : ∀ (s : px_Z) (out : px_Z), k50 s  = some out → px_D sc (d + 0) 153 50 [(0, .inr (.inr 150))] [] (px_G1, s) (px_Qv out)) : ∀ (n : Nat) (s : px_Z) (x1 : Int) (out : px_Z), l_M_keepsAhead_32 k50 n s x1 = some out → px_D sc (d + 0) 153 32 [(0, .inr (.inr 150)), (1, .inl (x1))] [] (px_G1, s) (px_Qv out) := by
  intro n
  induction n with
  | zero => intro s x1 out h; cases h
  | succ n ih =>
    intro s x1 out h
    rw [l_M_keepsAhead_32] at h
    refine px_D_st 2 (ip1 := 34) (ls1 := [(0, .inr (.inr 150)), (1, .inl (x1))]) (st1 := [.inl (40), .inl (x1)]) (h1 := (px_G1, s)) rfl ?_
    refine px_D_icmp rfl (fun hc => ?_) (fun hc => ?_)
    · have hc2 : (40) ≤ (x1) := of_decide_eq_true hc
      rw [if_pos hc2] at h
      refine px_D_ls [(0, .inr (.inr 150))] rfl rfl (List.forall_mem_cons.mpr ⟨rfl, fun _ h => absurd h List.not_mem_nil⟩) ?_
      exact hk50 _ _ h
    · have hc2 : ¬ ((40) ≤ (x1)) := of_decide_eq_false hc
      rw [if_neg hc2] at h
      refine px_D_st 11 (ip1 := 46) (ls1 := [(0, .inr (.inr 150)), (1, .inl (x1))]) (st1 := [.inl (x1), .inr (.inr 151), .inl (px_wr ((px_wr (40 * (s 150 3))) + x1)), .inr (.inr 152)]) (h1 := (px_G1, s)) rfl ?_
      by_cases hc3 : 0 ≤ (x1) ∧ (x1) < 40
      case neg => rw [if_neg hc3] at h; cases h
      rw [if_pos hc3] at h
      refine px_D_iald (k := 146) (n := 40) rfl rfl hc3 ?_
      by_cases hc4 : 0 ≤ (px_wr ((px_wr (40 * (s 150 3))) + x1)) ∧ (px_wr ((px_wr (40 * (s 150 3))) + x1)) < 240
      case neg => rw [if_neg hc4] at h; cases h
      rw [if_pos hc4] at h
      refine px_D_iast (k := 147) (n := 240) rfl rfl hc4 ?_
      refine px_D_st 2 (ip1 := 32) (ls1 := [(1, .inl (px_wr (x1 + 1))), (0, .inr (.inr 150))]) (st1 := []) (h1 := (px_G1, px_up s 152 (px_wr ((px_wr (40 * (s 150 3))) + x1)).toNat (s 151 x1.toNat))) rfl ?_
      refine px_D_ls [(0, .inr (.inr 150)), (1, .inl (px_wr (x1 + 1)))] rfl rfl (List.forall_mem_cons.mpr ⟨rfl, List.forall_mem_cons.mpr ⟨rfl, fun _ h => absurd h List.not_mem_nil⟩⟩) ?_
      exact ih _ _ _ h
def j_M_keepsAhead_j30 (s : px_Z) : Option (px_Z) := l_M_keepsAhead_32 (fun s => some (px_up s 150 3 (px_wr ((s 150 3) + 1)))) px_big s 0
set_option maxHeartbeats 4000000 in
set_option maxRecDepth 100000 in
theorem cj_M_keepsAhead_j30 {sc : List Int} {d : Nat} {s : px_Z} {out : px_Z} (h : j_M_keepsAhead_j30 s  = some out) : px_D sc (d + 0) 153 30 [(0, .inr (.inr 150))] [] (px_G1, s) (px_Qv out) := by
  unfold j_M_keepsAhead_j30 at h
  refine px_D_st 2 (ip1 := 32) (ls1 := [(1, .inl (0)), (0, .inr (.inr 150))]) (st1 := []) (h1 := (px_G1, s)) rfl ?_
  refine px_D_ls [(0, .inr (.inr 150)), (1, .inl (0))] rfl rfl (List.forall_mem_cons.mpr ⟨rfl, List.forall_mem_cons.mpr ⟨rfl, fun _ h => absurd h List.not_mem_nil⟩⟩) ?_
  refine cl_M_keepsAhead_32 ?_ px_big _ _ _ h
  · intro s out h
    refine px_D_st 6 (ip1 := 56) (ls1 := [(0, .inr (.inr 150))]) (st1 := []) (h1 := (px_G1, px_up s 150 3 (px_wr ((s 150 3) + 1)))) rfl ?_
    cases h
    exact px_D_vret rfl ⟨rfl, rfl⟩
def l_M_keepsAhead_12 (k30 : px_Z → Option (px_Z)) : Nat → px_Z → Int → Option (px_Z)
  | 0, _, _ => none
  | n + 1, s, x1 => if (px_wr (40 * (s 150 3))) ≤ (x1) then k30 s  else (if 0 ≤ (px_wr (x1 + 40)) ∧ (px_wr (x1 + 40)) < 240 then if 0 ≤ (x1) ∧ (x1) < 240 then l_M_keepsAhead_12 k30 n (px_up s 152 x1.toNat (s 152 (px_wr (x1 + 40)).toNat)) (px_wr (x1 + 1)) else none else none)
set_option maxHeartbeats 4000000 in
set_option maxRecDepth 100000 in
theorem cl_M_keepsAhead_12 {sc : List Int} {d : Nat} {k30 : px_Z → Option (px_Z)}  (hk30 : ∀ (s : px_Z) (out : px_Z), k30 s  = some out → px_D sc (d + 0) 153 30 [(0, .inr (.inr 150))] [] (px_G1, s) (px_Qv out)) : ∀ (n : Nat) (s : px_Z) (x1 : Int) (out : px_Z), l_M_keepsAhead_12 k30 n s x1 = some out → px_D sc (d + 0) 153 12 [(0, .inr (.inr 150)), (1, .inl (x1))] [] (px_G1, s) (px_Qv out) := by
  intro n
  induction n with
  | zero => intro s x1 out h; cases h
  | succ n ih =>
    intro s x1 out h
    rw [l_M_keepsAhead_12] at h
    refine px_D_st 5 (ip1 := 17) (ls1 := [(0, .inr (.inr 150)), (1, .inl (x1))]) (st1 := [.inl (px_wr (40 * (s 150 3))), .inl (x1)]) (h1 := (px_G1, s)) rfl ?_
    refine px_D_icmp rfl (fun hc => ?_) (fun hc => ?_)
    · have hc5 : (px_wr (40 * (s 150 3))) ≤ (x1) := of_decide_eq_true hc
      rw [if_pos hc5] at h
      refine px_D_ls [(0, .inr (.inr 150))] rfl rfl (List.forall_mem_cons.mpr ⟨rfl, fun _ h => absurd h List.not_mem_nil⟩) ?_
      exact hk30 _ _ h
    · have hc5 : ¬ ((px_wr (40 * (s 150 3))) ≤ (x1)) := of_decide_eq_false hc
      rw [if_neg hc5] at h
      refine px_D_st 8 (ip1 := 26) (ls1 := [(0, .inr (.inr 150)), (1, .inl (x1))]) (st1 := [.inl (px_wr (x1 + 40)), .inr (.inr 152), .inl (x1), .inr (.inr 152)]) (h1 := (px_G1, s)) rfl ?_
      by_cases hc6 : 0 ≤ (px_wr (x1 + 40)) ∧ (px_wr (x1 + 40)) < 240
      case neg => rw [if_neg hc6] at h; cases h
      rw [if_pos hc6] at h
      refine px_D_iald (k := 147) (n := 240) rfl rfl hc6 ?_
      by_cases hc7 : 0 ≤ (x1) ∧ (x1) < 240
      case neg => rw [if_neg hc7] at h; cases h
      rw [if_pos hc7] at h
      refine px_D_iast (k := 147) (n := 240) rfl rfl hc7 ?_
      refine px_D_st 2 (ip1 := 12) (ls1 := [(1, .inl (px_wr (x1 + 1))), (0, .inr (.inr 150))]) (st1 := []) (h1 := (px_G1, px_up s 152 x1.toNat (s 152 (px_wr (x1 + 40)).toNat))) rfl ?_
      refine px_D_ls [(0, .inr (.inr 150)), (1, .inl (px_wr (x1 + 1)))] rfl rfl (List.forall_mem_cons.mpr ⟨rfl, List.forall_mem_cons.mpr ⟨rfl, fun _ h => absurd h List.not_mem_nil⟩⟩) ?_
      exact ih _ _ _ h
def f_M_keepsAhead (s : px_Z) : Option (px_Z) := if (s 150 3) = (6) then l_M_keepsAhead_12 (fun s => j_M_keepsAhead_j30 s ) px_big (px_up s 150 3 (px_wr ((s 150 3) - 1))) 0 else j_M_keepsAhead_j30 s 
set_option maxHeartbeats 4000000 in
set_option maxRecDepth 100000 in
theorem c_M_keepsAhead {sc : List Int} {d : Nat} {s : px_Z} {out : px_Z} (h : f_M_keepsAhead s  = some out) : px_D sc (d + 0) 153 0 [(0, .inr (.inr 150))] [] (px_G1, s) (px_Qv out) := by
  unfold f_M_keepsAhead at h
  refine px_D_st 3 (ip1 := 3) (ls1 := [(0, .inr (.inr 150))]) (st1 := [.inl (6), .inl (s 150 3)]) (h1 := (px_G1, s)) rfl ?_
  refine px_D_icmp rfl (fun hc => ?_) (fun hc => ?_)
  · have hc1 : ¬ ((s 150 3) = (6)) := of_decide_eq_true hc
    rw [if_neg hc1] at h
    refine px_D_ls [(0, .inr (.inr 150))] rfl rfl (List.forall_mem_cons.mpr ⟨rfl, fun _ h => absurd h List.not_mem_nil⟩) ?_
    exact cj_M_keepsAhead_j30 h
  · have hc1 : (s 150 3) = (6) := Decidable.of_not_not (of_decide_eq_false hc)
    rw [if_pos hc1] at h
    refine px_D_st 8 (ip1 := 12) (ls1 := [(1, .inl (0)), (0, .inr (.inr 150))]) (st1 := []) (h1 := (px_G1, px_up s 150 3 (px_wr ((s 150 3) - 1)))) rfl ?_
    refine px_D_ls [(0, .inr (.inr 150)), (1, .inl (0))] rfl rfl (List.forall_mem_cons.mpr ⟨rfl, List.forall_mem_cons.mpr ⟨rfl, fun _ h => absurd h List.not_mem_nil⟩⟩) ?_
    refine cl_M_keepsAhead_12 ?_ px_big _ _ _ h
    · intro s out h
      refine px_D_ls [(0, .inr (.inr 150))] rfl rfl (List.forall_mem_cons.mpr ⟨rfl, fun _ h => absurd h List.not_mem_nil⟩) ?_
      exact cj_M_keepsAhead_j30 h

def l_M_undo_16  : Nat → px_Z → Int → Option (Int × px_Z)
  | 0, _, _ => none
  | n + 1, s, x1 => if (40) ≤ (x1) then some (1, s) else (if 0 ≤ (px_wr ((px_wr (40 * (s 150 3))) + x1)) ∧ (px_wr ((px_wr (40 * (s 150 3))) + x1)) < 240 then if 0 ≤ (x1) ∧ (x1) < 40 then l_M_undo_16  n (px_up s 151 x1.toNat (s 152 (px_wr ((px_wr (40 * (s 150 3))) + x1)).toNat)) (px_wr (x1 + 1)) else none else none)
set_option maxHeartbeats 4000000 in
set_option maxRecDepth 100000 in
theorem cl_M_undo_16 {sc : List Int} {d : Nat}  : ∀ (n : Nat) (s : px_Z) (x1 : Int) (out : Int × px_Z), l_M_undo_16  n s x1 = some out → px_D sc (d + 0) 154 16 [(0, .inr (.inr 150)), (1, .inl (x1))] [] (px_G1, s) (px_Qi out) := by
  intro n
  induction n with
  | zero => intro s x1 out h; cases h
  | succ n ih =>
    intro s x1 out h
    rw [l_M_undo_16] at h
    refine px_D_st 2 (ip1 := 18) (ls1 := [(0, .inr (.inr 150)), (1, .inl (x1))]) (st1 := [.inl (40), .inl (x1)]) (h1 := (px_G1, s)) rfl ?_
    refine px_D_icmp rfl (fun hc => ?_) (fun hc => ?_)
    · have hc2 : (40) ≤ (x1) := of_decide_eq_true hc
      rw [if_pos hc2] at h
      refine px_D_st 1 (ip1 := 35) (ls1 := [(0, .inr (.inr 150)), (1, .inl (x1))]) (st1 := [.inl (1)]) (h1 := (px_G1, s)) rfl ?_
      cases h
      exact px_D_iret rfl rfl ⟨rfl, rfl⟩
    · have hc2 : ¬ ((40) ≤ (x1)) := of_decide_eq_false hc
      rw [if_neg hc2] at h
      refine px_D_st 11 (ip1 := 30) (ls1 := [(0, .inr (.inr 150)), (1, .inl (x1))]) (st1 := [.inl (px_wr ((px_wr (40 * (s 150 3))) + x1)), .inr (.inr 152), .inl (x1), .inr (.inr 151)]) (h1 := (px_G1, s)) rfl ?_
      by_cases hc3 : 0 ≤ (px_wr ((px_wr (40 * (s 150 3))) + x1)) ∧ (px_wr ((px_wr (40 * (s 150 3))) + x1)) < 240
      case neg => rw [if_neg hc3] at h; cases h
      rw [if_pos hc3] at h
      refine px_D_iald (k := 147) (n := 240) rfl rfl hc3 ?_
      by_cases hc4 : 0 ≤ (x1) ∧ (x1) < 40
      case neg => rw [if_neg hc4] at h; cases h
      rw [if_pos hc4] at h
      refine px_D_iast (k := 146) (n := 40) rfl rfl hc4 ?_
      refine px_D_st 2 (ip1 := 16) (ls1 := [(1, .inl (px_wr (x1 + 1))), (0, .inr (.inr 150))]) (st1 := []) (h1 := (px_G1, px_up s 151 x1.toNat (s 152 (px_wr ((px_wr (40 * (s 150 3))) + x1)).toNat))) rfl ?_
      refine px_D_ls [(0, .inr (.inr 150)), (1, .inl (px_wr (x1 + 1)))] rfl rfl (List.forall_mem_cons.mpr ⟨rfl, List.forall_mem_cons.mpr ⟨rfl, fun _ h => absurd h List.not_mem_nil⟩⟩) ?_
      exact ih _ _ _ h
def f_M_undo (s : px_Z) : Option (Int × px_Z) := if ((px_up s 150 0 0) 150 3) = (0) then some (0, px_up s 150 0 0) else l_M_undo_16  px_big (px_up (px_up s 150 0 0) 150 3 (px_wr (((px_up s 150 0 0) 150 3) - 1))) 0
set_option maxHeartbeats 4000000 in
set_option maxRecDepth 100000 in
theorem c_M_undo {sc : List Int} {d : Nat} {s : px_Z} {out : Int × px_Z} (h : f_M_undo s  = some out) : px_D sc (d + 0) 154 0 [(0, .inr (.inr 150))] [] (px_G1, s) (px_Qi out) := by
  unfold f_M_undo at h
  refine px_D_st 5 (ip1 := 5) (ls1 := [(0, .inr (.inr 150))]) (st1 := [.inl ((px_up s 150 0 0) 150 3)]) (h1 := (px_G1, px_up s 150 0 0)) rfl ?_
  refine px_D_ifc rfl (fun hc => ?_) (fun hc => ?_)
  · have hc1 : ¬ (((px_up s 150 0 0) 150 3) = (0)) := of_decide_eq_true hc
    rw [if_neg hc1] at h
    refine px_D_st 8 (ip1 := 16) (ls1 := [(1, .inl (0)), (0, .inr (.inr 150))]) (st1 := []) (h1 := (px_G1, px_up (px_up s 150 0 0) 150 3 (px_wr (((px_up s 150 0 0) 150 3) - 1)))) rfl ?_
    refine px_D_ls [(0, .inr (.inr 150)), (1, .inl (0))] rfl rfl (List.forall_mem_cons.mpr ⟨rfl, List.forall_mem_cons.mpr ⟨rfl, fun _ h => absurd h List.not_mem_nil⟩⟩) ?_
    refine cl_M_undo_16  px_big _ _ _ h
  · have hc1 : ((px_up s 150 0 0) 150 3) = (0) := Decidable.of_not_not (of_decide_eq_false hc)
    rw [if_pos hc1] at h
    refine px_D_st 1 (ip1 := 7) (ls1 := [(0, .inr (.inr 150))]) (st1 := [.inl (0)]) (h1 := (px_G1, px_up s 150 0 0)) rfl ?_
    cases h
    exact px_D_iret rfl rfl ⟨rfl, rfl⟩

def l_M_thinks_2  : Nat → px_Z → Int → Option (px_Z)
  | 0, _, _ => none
  | n + 1, s, x1 => if (40) ≤ (x1) then some (px_up s 150 5 1) else (if 0 ≤ (x1) ∧ (x1) < 40 then if 0 ≤ (x1) ∧ (x1) < 40 then l_M_thinks_2  n (px_up s 153 x1.toNat (s 151 x1.toNat)) (px_wr (x1 + 1)) else none else none)
set_option maxHeartbeats 4000000 in
set_option maxRecDepth 100000 in
theorem cl_M_thinks_2 {sc : List Int} {d : Nat}  : ∀ (n : Nat) (s : px_Z) (x1 : Int) (out : px_Z), l_M_thinks_2  n s x1 = some out → px_D sc (d + 0) 155 2 [(0, .inr (.inr 150)), (1, .inl (x1))] [] (px_G1, s) (px_Qv out) := by
  intro n
  induction n with
  | zero => intro s x1 out h; cases h
  | succ n ih =>
    intro s x1 out h
    rw [l_M_thinks_2] at h
    refine px_D_st 2 (ip1 := 4) (ls1 := [(0, .inr (.inr 150)), (1, .inl (x1))]) (st1 := [.inl (40), .inl (x1)]) (h1 := (px_G1, s)) rfl ?_
    refine px_D_icmp rfl (fun hc => ?_) (fun hc => ?_)
    · have hc1 : (40) ≤ (x1) := of_decide_eq_true hc
      rw [if_pos hc1] at h
      refine px_D_st 3 (ip1 := 18) (ls1 := [(0, .inr (.inr 150)), (1, .inl (x1))]) (st1 := []) (h1 := (px_G1, px_up s 150 5 1)) rfl ?_
      cases h
      exact px_D_vret rfl ⟨rfl, rfl⟩
    · have hc1 : ¬ ((40) ≤ (x1)) := of_decide_eq_false hc
      rw [if_neg hc1] at h
      refine px_D_st 6 (ip1 := 11) (ls1 := [(0, .inr (.inr 150)), (1, .inl (x1))]) (st1 := [.inl (x1), .inr (.inr 151), .inl (x1), .inr (.inr 153)]) (h1 := (px_G1, s)) rfl ?_
      by_cases hc2 : 0 ≤ (x1) ∧ (x1) < 40
      case neg => rw [if_neg hc2] at h; cases h
      rw [if_pos hc2] at h
      refine px_D_iald (k := 146) (n := 40) rfl rfl hc2 ?_
      by_cases hc3 : 0 ≤ (x1) ∧ (x1) < 40
      case neg => rw [if_neg hc3] at h; cases h
      rw [if_pos hc3] at h
      refine px_D_iast (k := 148) (n := 40) rfl rfl hc3 ?_
      refine px_D_st 2 (ip1 := 2) (ls1 := [(1, .inl (px_wr (x1 + 1))), (0, .inr (.inr 150))]) (st1 := []) (h1 := (px_G1, px_up s 153 x1.toNat (s 151 x1.toNat))) rfl ?_
      refine px_D_ls [(0, .inr (.inr 150)), (1, .inl (px_wr (x1 + 1)))] rfl rfl (List.forall_mem_cons.mpr ⟨rfl, List.forall_mem_cons.mpr ⟨rfl, fun _ h => absurd h List.not_mem_nil⟩⟩) ?_
      exact ih _ _ _ h
def f_M_thinks (s : px_Z) : Option (px_Z) := l_M_thinks_2  px_big s 0
set_option maxHeartbeats 4000000 in
set_option maxRecDepth 100000 in
theorem c_M_thinks {sc : List Int} {d : Nat} {s : px_Z} {out : px_Z} (h : f_M_thinks s  = some out) : px_D sc (d + 0) 155 0 [(0, .inr (.inr 150))] [] (px_G1, s) (px_Qv out) := by
  unfold f_M_thinks at h
  refine px_D_st 2 (ip1 := 2) (ls1 := [(1, .inl (0)), (0, .inr (.inr 150))]) (st1 := []) (h1 := (px_G1, s)) rfl ?_
  refine px_D_ls [(0, .inr (.inr 150)), (1, .inl (0))] rfl rfl (List.forall_mem_cons.mpr ⟨rfl, List.forall_mem_cons.mpr ⟨rfl, fun _ h => absurd h List.not_mem_nil⟩⟩) ?_
  refine cl_M_thinks_2  px_big _ _ _ h

def l_M_endsThought_2  : Nat → px_Z → Int → Option (px_Z)
  | 0, _, _ => none
  | n + 1, s, x1 => if (40) ≤ (x1) then some (px_up s 150 5 0) else (if 0 ≤ (x1) ∧ (x1) < 40 then if 0 ≤ (x1) ∧ (x1) < 40 then l_M_endsThought_2  n (px_up s 151 x1.toNat (s 153 x1.toNat)) (px_wr (x1 + 1)) else none else none)
set_option maxHeartbeats 4000000 in
set_option maxRecDepth 100000 in
theorem cl_M_endsThought_2 {sc : List Int} {d : Nat}  : ∀ (n : Nat) (s : px_Z) (x1 : Int) (out : px_Z), l_M_endsThought_2  n s x1 = some out → px_D sc (d + 0) 156 2 [(0, .inr (.inr 150)), (1, .inl (x1))] [] (px_G1, s) (px_Qv out) := by
  intro n
  induction n with
  | zero => intro s x1 out h; cases h
  | succ n ih =>
    intro s x1 out h
    rw [l_M_endsThought_2] at h
    refine px_D_st 2 (ip1 := 4) (ls1 := [(0, .inr (.inr 150)), (1, .inl (x1))]) (st1 := [.inl (40), .inl (x1)]) (h1 := (px_G1, s)) rfl ?_
    refine px_D_icmp rfl (fun hc => ?_) (fun hc => ?_)
    · have hc1 : (40) ≤ (x1) := of_decide_eq_true hc
      rw [if_pos hc1] at h
      refine px_D_st 3 (ip1 := 18) (ls1 := [(0, .inr (.inr 150)), (1, .inl (x1))]) (st1 := []) (h1 := (px_G1, px_up s 150 5 0)) rfl ?_
      cases h
      exact px_D_vret rfl ⟨rfl, rfl⟩
    · have hc1 : ¬ ((40) ≤ (x1)) := of_decide_eq_false hc
      rw [if_neg hc1] at h
      refine px_D_st 6 (ip1 := 11) (ls1 := [(0, .inr (.inr 150)), (1, .inl (x1))]) (st1 := [.inl (x1), .inr (.inr 153), .inl (x1), .inr (.inr 151)]) (h1 := (px_G1, s)) rfl ?_
      by_cases hc2 : 0 ≤ (x1) ∧ (x1) < 40
      case neg => rw [if_neg hc2] at h; cases h
      rw [if_pos hc2] at h
      refine px_D_iald (k := 148) (n := 40) rfl rfl hc2 ?_
      by_cases hc3 : 0 ≤ (x1) ∧ (x1) < 40
      case neg => rw [if_neg hc3] at h; cases h
      rw [if_pos hc3] at h
      refine px_D_iast (k := 146) (n := 40) rfl rfl hc3 ?_
      refine px_D_st 2 (ip1 := 2) (ls1 := [(1, .inl (px_wr (x1 + 1))), (0, .inr (.inr 150))]) (st1 := []) (h1 := (px_G1, px_up s 151 x1.toNat (s 153 x1.toNat))) rfl ?_
      refine px_D_ls [(0, .inr (.inr 150)), (1, .inl (px_wr (x1 + 1)))] rfl rfl (List.forall_mem_cons.mpr ⟨rfl, List.forall_mem_cons.mpr ⟨rfl, fun _ h => absurd h List.not_mem_nil⟩⟩) ?_
      exact ih _ _ _ h
def f_M_endsThought (s : px_Z) : Option (px_Z) := l_M_endsThought_2  px_big s 0
set_option maxHeartbeats 4000000 in
set_option maxRecDepth 100000 in
theorem c_M_endsThought {sc : List Int} {d : Nat} {s : px_Z} {out : px_Z} (h : f_M_endsThought s  = some out) : px_D sc (d + 0) 156 0 [(0, .inr (.inr 150))] [] (px_G1, s) (px_Qv out) := by
  unfold f_M_endsThought at h
  refine px_D_st 2 (ip1 := 2) (ls1 := [(1, .inl (0)), (0, .inr (.inr 150))]) (st1 := []) (h1 := (px_G1, s)) rfl ?_
  refine px_D_ls [(0, .inr (.inr 150)), (1, .inl (0))] rfl rfl (List.forall_mem_cons.mpr ⟨rfl, List.forall_mem_cons.mpr ⟨rfl, fun _ h => absurd h List.not_mem_nil⟩⟩) ?_
  refine cl_M_endsThought_2  px_big _ _ _ h

def f_M_state (s : px_Z) (x1 : Int) : Option (Int × px_Z) := some (((px_up s 150 0 0) 151 1, px_up (px_up (px_up s 150 0 0) 151 1 x1) 150 3 0))
set_option maxHeartbeats 4000000 in
set_option maxRecDepth 100000 in
theorem c_M_state {sc : List Int} {d : Nat} {s : px_Z} {x1 : Int} {out : Int × px_Z} (h : f_M_state s x1 = some out) : px_D sc (d + 0) 157 0 [(0, .inr (.inr 150)), (1, .inl (x1))] [] (px_G1, s) (px_Qi out) := by
  unfold f_M_state at h
  refine px_D_st 17 (ip1 := 17) (ls1 := [(2, .inl ((px_up s 150 0 0) 151 1)), (0, .inr (.inr 150)), (1, .inl (x1))]) (st1 := [.inl ((px_up s 150 0 0) 151 1)]) (h1 := (px_G1, px_up (px_up (px_up s 150 0 0) 151 1 x1) 150 3 0)) rfl ?_
  cases h
  exact px_D_iret rfl rfl ⟨rfl, rfl⟩

def f_M_draw (s : px_Z) (x1 : Int) : Option (Int × px_Z) := if (x1) = 0 then none else some (((px_ush (((px_up s 151 1 (px_wr ((px_wr (1664525 * (s 151 1))) + 1013904223))) 151 1)) (8)).tmod x1, px_up s 151 1 (px_wr ((px_wr (1664525 * (s 151 1))) + 1013904223))))
set_option maxHeartbeats 4000000 in
set_option maxRecDepth 100000 in
theorem c_M_draw {sc : List Int} {d : Nat} {s : px_Z} {x1 : Int} {out : Int × px_Z} (h : f_M_draw s x1 = some out) : px_D sc (d + 0) 158 0 [(0, .inr (.inr 150)), (1, .inl (x1))] [] (px_G1, s) (px_Qi out) := by
  unfold f_M_draw at h
  refine px_D_st 19 (ip1 := 19) (ls1 := [(0, .inr (.inr 150)), (1, .inl (x1))]) (st1 := [.inl (x1), .inl (px_ush (((px_up s 151 1 (px_wr ((px_wr (1664525 * (s 151 1))) + 1013904223))) 151 1)) (8))]) (h1 := (px_G1, px_up s 151 1 (px_wr ((px_wr (1664525 * (s 151 1))) + 1013904223)))) rfl ?_
  by_cases hc1 : (x1) = 0
  · rw [if_pos hc1] at h; cases h
  rw [if_neg hc1] at h
  refine px_D_rem rfl hc1 ?_
  cases h
  exact px_D_iret rfl rfl ⟨rfl, rfl⟩

def f_M_thaw (s : px_Z) : Int := px_wr ((s 150 10) + 30)
set_option maxHeartbeats 4000000 in
set_option maxRecDepth 100000 in
theorem c_M_thaw {sc : List Int} {d : Nat} {s : px_Z} {out : Int} (h : f_M_thaw s  = out) : px_D sc (d + 0) 159 0 [(0, .inr (.inr 150))] [] (px_G1, s) (px_Qp s out) := by
  unfold f_M_thaw at h
  refine px_D_st 4 (ip1 := 4) (ls1 := [(0, .inr (.inr 150))]) (st1 := [.inl (px_wr ((s 150 10) + 30))]) (h1 := (px_G1, s)) rfl ?_
  subst h
  exact px_D_iret rfl rfl ⟨rfl, rfl⟩

def f_M_isThing (s : px_Z) (x1 : Int) : Int := if (x1) < (0) then 0 else (if (s 150 6) ≤ (x1) then 0 else 1)
set_option maxHeartbeats 4000000 in
set_option maxRecDepth 100000 in
theorem c_M_isThing {sc : List Int} {d : Nat} {s : px_Z} {x1 : Int} {out : Int} (h : f_M_isThing s x1 = out) : px_D sc (d + 0) 160 0 [(0, .inr (.inr 150)), (1, .inl (x1))] [] (px_G1, s) (px_Qp s out) := by
  unfold f_M_isThing at h
  refine px_D_st 1 (ip1 := 1) (ls1 := [(0, .inr (.inr 150)), (1, .inl (x1))]) (st1 := [.inl (x1)]) (h1 := (px_G1, s)) rfl ?_
  refine px_D_ifc rfl (fun hc => ?_) (fun hc => ?_)
  · have hc1 : (x1) < (0) := of_decide_eq_true hc
    rw [if_pos hc1] at h
    refine px_D_st 1 (ip1 := 9) (ls1 := [(0, .inr (.inr 150)), (1, .inl (x1))]) (st1 := [.inl (0)]) (h1 := (px_G1, s)) rfl ?_
    subst h
    exact px_D_iret rfl rfl ⟨rfl, rfl⟩
  · have hc1 : ¬ ((x1) < (0)) := of_decide_eq_false hc
    rw [if_neg hc1] at h
    refine px_D_st 3 (ip1 := 5) (ls1 := [(0, .inr (.inr 150)), (1, .inl (x1))]) (st1 := [.inl (s 150 6), .inl (x1)]) (h1 := (px_G1, s)) rfl ?_
    refine px_D_icmp rfl (fun hc => ?_) (fun hc => ?_)
    · have hc2 : (s 150 6) ≤ (x1) := of_decide_eq_true hc
      rw [if_pos hc2] at h
      refine px_D_st 1 (ip1 := 9) (ls1 := [(0, .inr (.inr 150)), (1, .inl (x1))]) (st1 := [.inl (0)]) (h1 := (px_G1, s)) rfl ?_
      subst h
      exact px_D_iret rfl rfl ⟨rfl, rfl⟩
    · have hc2 : ¬ ((s 150 6) ≤ (x1)) := of_decide_eq_false hc
      rw [if_neg hc2] at h
      refine px_D_st 2 (ip1 := 9) (ls1 := [(0, .inr (.inr 150)), (1, .inl (x1))]) (st1 := [.inl (1)]) (h1 := (px_G1, s)) rfl ?_
      subst h
      exact px_D_iret rfl rfl ⟨rfl, rfl⟩
set_option maxHeartbeats 4000000 in
set_option maxRecDepth 100000 in
theorem bz_M_isThing {s : px_Z} {x1 : Int} : f_M_isThing s x1 = 0 ∨ f_M_isThing s x1 = 1 := by
  unfold f_M_isThing
  repeat' split
  all_goals first | exact Or.inl rfl | exact Or.inr rfl | exact Or.inl rfl

def f_M_isHome (s : px_Z) (x1 : Int) : Option (Int) := if 0 ≤ (px_wr (16 + x1)) ∧ (px_wr (16 + x1)) < 40 then if (s 151 (px_wr (16 + x1)).toNat) = (1) then some 1 else some 0 else none
set_option maxHeartbeats 4000000 in
set_option maxRecDepth 100000 in
theorem c_M_isHome {sc : List Int} {d : Nat} {s : px_Z} {x1 : Int} {out : Int} (h : f_M_isHome s x1 = some out) : px_D sc (d + 0) 161 0 [(0, .inr (.inr 150)), (1, .inl (x1))] [] (px_G1, s) (px_Qp s out) := by
  unfold f_M_isHome at h
  refine px_D_st 5 (ip1 := 5) (ls1 := [(0, .inr (.inr 150)), (1, .inl (x1))]) (st1 := [.inl (px_wr (16 + x1)), .inr (.inr 151)]) (h1 := (px_G1, s)) rfl ?_
  by_cases hc1 : 0 ≤ (px_wr (16 + x1)) ∧ (px_wr (16 + x1)) < 40
  case neg => rw [if_neg hc1] at h; cases h
  rw [if_pos hc1] at h
  refine px_D_iald (k := 146) (n := 40) rfl rfl hc1 ?_
  refine px_D_st 1 (ip1 := 7) (ls1 := [(0, .inr (.inr 150)), (1, .inl (x1))]) (st1 := [.inl (1), .inl (s 151 (px_wr (16 + x1)).toNat)]) (h1 := (px_G1, s)) rfl ?_
  refine px_D_icmp rfl (fun hc => ?_) (fun hc => ?_)
  · have hc2 : ¬ ((s 151 (px_wr (16 + x1)).toNat) = (1)) := of_decide_eq_true hc
    rw [if_neg hc2] at h
    refine px_D_st 1 (ip1 := 11) (ls1 := [(0, .inr (.inr 150)), (1, .inl (x1))]) (st1 := [.inl (0)]) (h1 := (px_G1, s)) rfl ?_
    cases h
    exact px_D_iret rfl rfl ⟨rfl, rfl⟩
  · have hc2 : (s 151 (px_wr (16 + x1)).toNat) = (1) := Decidable.of_not_not (of_decide_eq_false hc)
    rw [if_pos hc2] at h
    refine px_D_st 2 (ip1 := 11) (ls1 := [(0, .inr (.inr 150)), (1, .inl (x1))]) (st1 := [.inl (1)]) (h1 := (px_G1, s)) rfl ?_
    cases h
    exact px_D_iret rfl rfl ⟨rfl, rfl⟩

def l_M_homeSet_4 (s : px_Z)  : Nat → Int → Int → Option (Int)
  | 0, _, _ => none
  | n + 1, x1, x2 => if (s 150 6) ≤ (x2) then some x1 else (f_M_isHome s x2).bind (fun q2 => if (q2) = (0) then l_M_homeSet_4 s  n x1 (px_wr (x2 + 1)) else l_M_homeSet_4 s  n (px_or (x1) ((px_shl (1) (x2)))) (px_wr (x2 + 1)))
set_option maxHeartbeats 4000000 in
set_option maxRecDepth 100000 in
theorem cl_M_homeSet_4 {sc : List Int} {d : Nat} {s : px_Z}  : ∀ (n : Nat) (x1 : Int) (x2 : Int) (out : Int), l_M_homeSet_4 s  n x1 x2 = some out → px_D sc (d + 1) 162 4 [(0, .inr (.inr 150)), (1, .inl (x1)), (2, .inl (x2))] [] (px_G1, s) (px_Qp s out) := by
  intro n
  induction n with
  | zero => intro x1 x2 out h; cases h
  | succ n ih =>
    intro x1 x2 out h
    rw [l_M_homeSet_4] at h
    refine px_D_st 3 (ip1 := 7) (ls1 := [(0, .inr (.inr 150)), (1, .inl (x1)), (2, .inl (x2))]) (st1 := [.inl (s 150 6), .inl (x2)]) (h1 := (px_G1, s)) rfl ?_
    refine px_D_icmp rfl (fun hc => ?_) (fun hc => ?_)
    · have hc1 : (s 150 6) ≤ (x2) := of_decide_eq_true hc
      rw [if_pos hc1] at h
      refine px_D_st 1 (ip1 := 21) (ls1 := [(0, .inr (.inr 150)), (1, .inl (x1)), (2, .inl (x2))]) (st1 := [.inl (x1)]) (h1 := (px_G1, s)) rfl ?_
      cases h
      exact px_D_iret rfl rfl ⟨rfl, rfl⟩
    · have hc1 : ¬ ((s 150 6) ≤ (x2)) := of_decide_eq_false hc
      rw [if_neg hc1] at h
      refine px_D_st 2 (ip1 := 10) (ls1 := [(0, .inr (.inr 150)), (1, .inl (x1)), (2, .inl (x2))]) (st1 := [.inl (x2), .inr (.inr 150)]) (h1 := (px_G1, s)) rfl ?_
      refine px_D_call (as := [.inr (.inr 150), .inl (x2)]) (rest := []) rfl rfl rfl rfl ?_
      obtain ⟨q2, hq2, h⟩ := Option.bind_eq_some_iff.mp h
      refine px_D_mono (c_M_isHome (d := d + 0) hq2) ?_
      rintro _ _ ⟨rfl, rfl⟩
      show px_D sc (d + 1) 162 11 [(0, .inr (.inr 150)), (1, .inl (x1)), (2, .inl (x2))] [.inl (q2)] (px_G1, s) _
      refine px_D_ifc rfl (fun hc => ?_) (fun hc => ?_)
      · have hc3 : (q2) = (0) := of_decide_eq_true hc
        rw [if_pos hc3] at h
        refine px_D_st 2 (ip1 := 4) (ls1 := [(2, .inl (px_wr (x2 + 1))), (0, .inr (.inr 150)), (1, .inl (x1))]) (st1 := []) (h1 := (px_G1, s)) rfl ?_
        refine px_D_ls [(0, .inr (.inr 150)), (1, .inl (x1)), (2, .inl (px_wr (x2 + 1)))] rfl rfl (List.forall_mem_cons.mpr ⟨rfl, List.forall_mem_cons.mpr ⟨rfl, List.forall_mem_cons.mpr ⟨rfl, fun _ h => absurd h List.not_mem_nil⟩⟩⟩) ?_
        exact ih _ _ _ h
      · have hc3 : ¬ ((q2) = (0)) := of_decide_eq_false hc
        rw [if_neg hc3] at h
        refine px_D_st 8 (ip1 := 4) (ls1 := [(2, .inl (px_wr (x2 + 1))), (1, .inl (px_or (x1) ((px_shl (1) (x2))))), (0, .inr (.inr 150))]) (st1 := []) (h1 := (px_G1, s)) rfl ?_
        refine px_D_ls [(0, .inr (.inr 150)), (1, .inl (px_or (x1) ((px_shl (1) (x2))))), (2, .inl (px_wr (x2 + 1)))] rfl rfl (List.forall_mem_cons.mpr ⟨rfl, List.forall_mem_cons.mpr ⟨rfl, List.forall_mem_cons.mpr ⟨rfl, fun _ h => absurd h List.not_mem_nil⟩⟩⟩) ?_
        exact ih _ _ _ h
def f_M_homeSet (s : px_Z) : Option (Int) := l_M_homeSet_4 s  px_big 0 0
set_option maxHeartbeats 4000000 in
set_option maxRecDepth 100000 in
theorem c_M_homeSet {sc : List Int} {d : Nat} {s : px_Z} {out : Int} (h : f_M_homeSet s  = some out) : px_D sc (d + 1) 162 0 [(0, .inr (.inr 150))] [] (px_G1, s) (px_Qp s out) := by
  unfold f_M_homeSet at h
  refine px_D_st 4 (ip1 := 4) (ls1 := [(2, .inl (0)), (1, .inl (0)), (0, .inr (.inr 150))]) (st1 := []) (h1 := (px_G1, s)) rfl ?_
  refine px_D_ls [(0, .inr (.inr 150)), (1, .inl (0)), (2, .inl (0))] rfl rfl (List.forall_mem_cons.mpr ⟨rfl, List.forall_mem_cons.mpr ⟨rfl, List.forall_mem_cons.mpr ⟨rfl, fun _ h => absurd h List.not_mem_nil⟩⟩⟩) ?_
  refine cl_M_homeSet_4  px_big _ _ _ h

def l_M_thing_69 (k79 : px_Z → Int → Option (Int × px_Z)) : Nat → px_Z → Int → Int → Option (Int × px_Z)
  | 0, _, _, _ => none
  | n + 1, s, x2, x3 => if (8) ≤ (x3) then k79 s x2 else (if 0 ≤ (x3) ∧ (x3) < 16 then l_M_thing_69 k79 n (px_up s 167 x3.toNat 0) x2 (px_wr (x3 + 1)) else none)
set_option maxHeartbeats 4000000 in
set_option maxRecDepth 100000 in
theorem cl_M_thing_69 {sc : List Int} {d : Nat} {k79 : px_Z → Int → Option (Int × px_Z)}  (hk79 : ∀ (s : px_Z) (y2 : Int) (out : Int × px_Z), k79 s y2 = some out → px_D sc (d + 1) 163 79 [(0, .inr (.inr 150)), (2, .inl (y2))] [] (px_G1, s) (px_Qi out)) : ∀ (n : Nat) (s : px_Z) (x2 : Int) (x3 : Int) (out : Int × px_Z), l_M_thing_69 k79 n s x2 x3 = some out → px_D sc (d + 1) 163 69 [(0, .inr (.inr 150)), (2, .inl (x2)), (3, .inl (x3))] [] (px_G1, s) (px_Qi out) := by
  intro n
  induction n with
  | zero => intro s x2 x3 out h; cases h
  | succ n ih =>
    intro s x2 x3 out h
    rw [l_M_thing_69] at h
    refine px_D_st 2 (ip1 := 71) (ls1 := [(0, .inr (.inr 150)), (2, .inl (x2)), (3, .inl (x3))]) (st1 := [.inl (8), .inl (x3)]) (h1 := (px_G1, s)) rfl ?_
    refine px_D_icmp rfl (fun hc => ?_) (fun hc => ?_)
    · have hc9 : (8) ≤ (x3) := of_decide_eq_true hc
      rw [if_pos hc9] at h
      refine px_D_ls [(0, .inr (.inr 150)), (2, .inl (x2))] rfl rfl (List.forall_mem_cons.mpr ⟨rfl, List.forall_mem_cons.mpr ⟨rfl, fun _ h => absurd h List.not_mem_nil⟩⟩) ?_
      exact hk79 _ _ _ h
    · have hc9 : ¬ ((8) ≤ (x3)) := of_decide_eq_false hc
      rw [if_neg hc9] at h
      refine px_D_st 4 (ip1 := 76) (ls1 := [(0, .inr (.inr 150)), (2, .inl (x2)), (3, .inl (x3))]) (st1 := [.inl (0), .inl (x3), .inr (.inr 167)]) (h1 := (px_G1, s)) rfl ?_
      by_cases hc10 : 0 ≤ (x3) ∧ (x3) < 16
      case neg => rw [if_neg hc10] at h; cases h
      rw [if_pos hc10] at h
      refine px_D_iast (k := 162) (n := 16) rfl rfl hc10 ?_
      refine px_D_st 2 (ip1 := 69) (ls1 := [(3, .inl (px_wr (x3 + 1))), (0, .inr (.inr 150)), (2, .inl (x2))]) (st1 := []) (h1 := (px_G1, px_up s 167 x3.toNat 0)) rfl ?_
      refine px_D_ls [(0, .inr (.inr 150)), (2, .inl (x2)), (3, .inl (px_wr (x3 + 1)))] rfl rfl (List.forall_mem_cons.mpr ⟨rfl, List.forall_mem_cons.mpr ⟨rfl, List.forall_mem_cons.mpr ⟨rfl, fun _ h => absurd h List.not_mem_nil⟩⟩⟩) ?_
      exact ih _ _ _ _ h
def j_M_thing_j25 (s : px_Z) (x1 : Int) : Option (Int × px_Z) := if 0 ≤ (s 150 6) ∧ (s 150 6) < 8 then if 0 ≤ (px_wr (8 + (s 150 6))) ∧ (px_wr (8 + (s 150 6))) < 40 then if 0 ≤ (px_wr (16 + (s 150 6))) ∧ (px_wr (16 + (s 150 6))) < 40 then if 0 ≤ (px_wr (24 + (s 150 6))) ∧ (px_wr (24 + (s 150 6))) < 40 then if 0 ≤ (px_wr (32 + (s 150 6))) ∧ (px_wr (32 + (s 150 6))) < 40 then l_M_thing_69 (fun s x2 => some ((x2, px_up (px_up s 150 37 0) 150 3 0))) px_big (px_up (px_up (px_up (px_up (px_up (px_up s 154 (s 150 6).toNat x1) 151 (px_wr (8 + (s 150 6))).toNat 0) 151 (px_wr (16 + (s 150 6))).toNat 0) 151 (px_wr (24 + (s 150 6))).toNat 0) 151 (px_wr (32 + (s 150 6))).toNat 0) 150 6 (px_wr (((px_up (px_up (px_up (px_up (px_up s 154 (s 150 6).toNat x1) 151 (px_wr (8 + (s 150 6))).toNat 0) 151 (px_wr (16 + (s 150 6))).toNat 0) 151 (px_wr (24 + (s 150 6))).toNat 0) 151 (px_wr (32 + (s 150 6))).toNat 0) 150 6) + 1))) (s 150 6) 0 else none else none else none else none else none
set_option maxHeartbeats 4000000 in
set_option maxRecDepth 100000 in
theorem cj_M_thing_j25 {sc : List Int} {d : Nat} {s : px_Z} {x1 : Int} {out : Int × px_Z} (h : j_M_thing_j25 s x1 = some out) : px_D sc (d + 1) 163 25 [(0, .inr (.inr 150)), (1, .inl (x1))] [] (px_G1, s) (px_Qi out) := by
  unfold j_M_thing_j25 at h
  refine px_D_st 7 (ip1 := 32) (ls1 := [(2, .inl (s 150 6)), (0, .inr (.inr 150)), (1, .inl (x1))]) (st1 := [.inl (x1), .inl (s 150 6), .inr (.inr 154)]) (h1 := (px_G1, s)) rfl ?_
  by_cases hc4 : 0 ≤ (s 150 6) ∧ (s 150 6) < 8
  case neg => rw [if_neg hc4] at h; cases h
  rw [if_pos hc4] at h
  refine px_D_iast (k := 149) (n := 8) rfl rfl hc4 ?_
  refine px_D_st 6 (ip1 := 39) (ls1 := [(2, .inl (s 150 6)), (0, .inr (.inr 150)), (1, .inl (x1))]) (st1 := [.inl (0), .inl (px_wr (8 + (s 150 6))), .inr (.inr 151)]) (h1 := (px_G1, px_up s 154 (s 150 6).toNat x1)) rfl ?_
  by_cases hc5 : 0 ≤ (px_wr (8 + (s 150 6))) ∧ (px_wr (8 + (s 150 6))) < 40
  case neg => rw [if_neg hc5] at h; cases h
  rw [if_pos hc5] at h
  refine px_D_iast (k := 146) (n := 40) rfl rfl hc5 ?_
  refine px_D_st 6 (ip1 := 46) (ls1 := [(2, .inl (s 150 6)), (0, .inr (.inr 150)), (1, .inl (x1))]) (st1 := [.inl (0), .inl (px_wr (16 + (s 150 6))), .inr (.inr 151)]) (h1 := (px_G1, px_up (px_up s 154 (s 150 6).toNat x1) 151 (px_wr (8 + (s 150 6))).toNat 0)) rfl ?_
  by_cases hc6 : 0 ≤ (px_wr (16 + (s 150 6))) ∧ (px_wr (16 + (s 150 6))) < 40
  case neg => rw [if_neg hc6] at h; cases h
  rw [if_pos hc6] at h
  refine px_D_iast (k := 146) (n := 40) rfl rfl hc6 ?_
  refine px_D_st 6 (ip1 := 53) (ls1 := [(2, .inl (s 150 6)), (0, .inr (.inr 150)), (1, .inl (x1))]) (st1 := [.inl (0), .inl (px_wr (24 + (s 150 6))), .inr (.inr 151)]) (h1 := (px_G1, px_up (px_up (px_up s 154 (s 150 6).toNat x1) 151 (px_wr (8 + (s 150 6))).toNat 0) 151 (px_wr (16 + (s 150 6))).toNat 0)) rfl ?_
  by_cases hc7 : 0 ≤ (px_wr (24 + (s 150 6))) ∧ (px_wr (24 + (s 150 6))) < 40
  case neg => rw [if_neg hc7] at h; cases h
  rw [if_pos hc7] at h
  refine px_D_iast (k := 146) (n := 40) rfl rfl hc7 ?_
  refine px_D_st 6 (ip1 := 60) (ls1 := [(2, .inl (s 150 6)), (0, .inr (.inr 150)), (1, .inl (x1))]) (st1 := [.inl (0), .inl (px_wr (32 + (s 150 6))), .inr (.inr 151)]) (h1 := (px_G1, px_up (px_up (px_up (px_up s 154 (s 150 6).toNat x1) 151 (px_wr (8 + (s 150 6))).toNat 0) 151 (px_wr (16 + (s 150 6))).toNat 0) 151 (px_wr (24 + (s 150 6))).toNat 0)) rfl ?_
  by_cases hc8 : 0 ≤ (px_wr (32 + (s 150 6))) ∧ (px_wr (32 + (s 150 6))) < 40
  case neg => rw [if_neg hc8] at h; cases h
  rw [if_pos hc8] at h
  refine px_D_iast (k := 146) (n := 40) rfl rfl hc8 ?_
  refine px_D_st 8 (ip1 := 69) (ls1 := [(3, .inl (0)), (2, .inl (s 150 6)), (0, .inr (.inr 150)), (1, .inl (x1))]) (st1 := []) (h1 := (px_G1, px_up (px_up (px_up (px_up (px_up (px_up s 154 (s 150 6).toNat x1) 151 (px_wr (8 + (s 150 6))).toNat 0) 151 (px_wr (16 + (s 150 6))).toNat 0) 151 (px_wr (24 + (s 150 6))).toNat 0) 151 (px_wr (32 + (s 150 6))).toNat 0) 150 6 (px_wr (((px_up (px_up (px_up (px_up (px_up s 154 (s 150 6).toNat x1) 151 (px_wr (8 + (s 150 6))).toNat 0) 151 (px_wr (16 + (s 150 6))).toNat 0) 151 (px_wr (24 + (s 150 6))).toNat 0) 151 (px_wr (32 + (s 150 6))).toNat 0) 150 6) + 1)))) rfl ?_
  refine px_D_ls [(0, .inr (.inr 150)), (2, .inl (s 150 6)), (3, .inl (0))] rfl rfl (List.forall_mem_cons.mpr ⟨rfl, List.forall_mem_cons.mpr ⟨rfl, List.forall_mem_cons.mpr ⟨rfl, fun _ h => absurd h List.not_mem_nil⟩⟩⟩) ?_
  refine cl_M_thing_69 ?_ px_big _ _ _ _ h
  · intro s x2 out h
    refine px_D_st 7 (ip1 := 86) (ls1 := [(0, .inr (.inr 150)), (2, .inl (x2))]) (st1 := [.inl (x2)]) (h1 := (px_G1, px_up (px_up s 150 37 0) 150 3 0)) rfl ?_
    cases h
    exact px_D_iret rfl rfl ⟨rfl, rfl⟩
def f_M_thing (s : px_Z) (x1 : Int) : Option (Int × px_Z) := if (f_M_isIn (px_up s 150 0 0) x1 0 999) = (0) then some (((-1), px_up s 150 0 0)) else (if ((px_up s 150 0 0) 150 6) = (8) then some (((-1), px_up s 150 0 0)) else (if ((px_up s 150 0 0) 150 6) ≤ (0) then j_M_thing_j25 (px_up s 150 0 0) x1 else (f_M_isHome (px_up s 150 0 0) (px_wr (((px_up s 150 0 0) 150 6) - 1))).bind (fun q11 => if (q11) = (0) then j_M_thing_j25 (px_up s 150 0 0) x1 else some (((-1), px_up s 150 0 0)))))
set_option maxHeartbeats 4000000 in
set_option maxRecDepth 100000 in
theorem c_M_thing {sc : List Int} {d : Nat} {s : px_Z} {x1 : Int} {out : Int × px_Z} (h : f_M_thing s x1 = some out) : px_D sc (d + 1) 163 0 [(0, .inr (.inr 150)), (1, .inl (x1))] [] (px_G1, s) (px_Qi out) := by
  unfold f_M_thing at h
  refine px_D_st 7 (ip1 := 7) (ls1 := [(0, .inr (.inr 150)), (1, .inl (x1))]) (st1 := [.inl (999), .inl (0), .inl (x1), .inr (.inr 150)]) (h1 := (px_G1, px_up s 150 0 0)) rfl ?_
  refine px_D_call (as := [.inr (.inr 150), .inl (x1), .inl (0), .inl (999)]) (rest := []) rfl rfl rfl rfl ?_
  refine px_D_mono (c_M_isIn (d := d + 0) rfl) ?_
  rintro _ _ ⟨rfl, rfl⟩
  show px_D sc (d + 1) 163 8 [(0, .inr (.inr 150)), (1, .inl (x1))] [.inl (f_M_isIn (px_up s 150 0 0) x1 0 999)] (px_G1, px_up s 150 0 0) _
  refine px_D_ifc rfl (fun hc => ?_) (fun hc => ?_)
  · have hc1 : (f_M_isIn (px_up s 150 0 0) x1 0 999) = (0) := of_decide_eq_true hc
    rw [if_pos hc1] at h
    refine px_D_st 1 (ip1 := 24) (ls1 := [(0, .inr (.inr 150)), (1, .inl (x1))]) (st1 := [.inl ((-1))]) (h1 := (px_G1, px_up s 150 0 0)) rfl ?_
    cases h
    exact px_D_iret rfl rfl ⟨rfl, rfl⟩
  · have hc1 : ¬ ((f_M_isIn (px_up s 150 0 0) x1 0 999) = (0)) := of_decide_eq_false hc
    rw [if_neg hc1] at h
    refine px_D_st 3 (ip1 := 12) (ls1 := [(0, .inr (.inr 150)), (1, .inl (x1))]) (st1 := [.inl (8), .inl ((px_up s 150 0 0) 150 6)]) (h1 := (px_G1, px_up s 150 0 0)) rfl ?_
    refine px_D_icmp rfl (fun hc => ?_) (fun hc => ?_)
    · have hc2 : ((px_up s 150 0 0) 150 6) = (8) := of_decide_eq_true hc
      rw [if_pos hc2] at h
      refine px_D_st 1 (ip1 := 24) (ls1 := [(0, .inr (.inr 150)), (1, .inl (x1))]) (st1 := [.inl ((-1))]) (h1 := (px_G1, px_up s 150 0 0)) rfl ?_
      cases h
      exact px_D_iret rfl rfl ⟨rfl, rfl⟩
    · have hc2 : ¬ (((px_up s 150 0 0) 150 6) = (8)) := of_decide_eq_false hc
      rw [if_neg hc2] at h
      refine px_D_st 2 (ip1 := 15) (ls1 := [(0, .inr (.inr 150)), (1, .inl (x1))]) (st1 := [.inl ((px_up s 150 0 0) 150 6)]) (h1 := (px_G1, px_up s 150 0 0)) rfl ?_
      refine px_D_ifc rfl (fun hc => ?_) (fun hc => ?_)
      · have hc3 : ((px_up s 150 0 0) 150 6) ≤ (0) := of_decide_eq_true hc
        rw [if_pos hc3] at h
        refine px_D_ls [(0, .inr (.inr 150)), (1, .inl (x1))] rfl rfl (List.forall_mem_cons.mpr ⟨rfl, List.forall_mem_cons.mpr ⟨rfl, fun _ h => absurd h List.not_mem_nil⟩⟩) ?_
        exact cj_M_thing_j25 h
      · have hc3 : ¬ (((px_up s 150 0 0) 150 6) ≤ (0)) := of_decide_eq_false hc
        rw [if_neg hc3] at h
        refine px_D_st 5 (ip1 := 21) (ls1 := [(0, .inr (.inr 150)), (1, .inl (x1))]) (st1 := [.inl (px_wr (((px_up s 150 0 0) 150 6) - 1)), .inr (.inr 150)]) (h1 := (px_G1, px_up s 150 0 0)) rfl ?_
        refine px_D_call (as := [.inr (.inr 150), .inl (px_wr (((px_up s 150 0 0) 150 6) - 1))]) (rest := []) rfl rfl rfl rfl ?_
        obtain ⟨q11, hq11, h⟩ := Option.bind_eq_some_iff.mp h
        refine px_D_mono (c_M_isHome (d := d + 0) hq11) ?_
        rintro _ _ ⟨rfl, rfl⟩
        show px_D sc (d + 1) 163 22 [(0, .inr (.inr 150)), (1, .inl (x1))] [.inl (q11)] (px_G1, px_up s 150 0 0) _
        refine px_D_ifc rfl (fun hc => ?_) (fun hc => ?_)
        · have hc12 : (q11) = (0) := of_decide_eq_true hc
          rw [if_pos hc12] at h
          refine px_D_ls [(0, .inr (.inr 150)), (1, .inl (x1))] rfl rfl (List.forall_mem_cons.mpr ⟨rfl, List.forall_mem_cons.mpr ⟨rfl, fun _ h => absurd h List.not_mem_nil⟩⟩) ?_
          exact cj_M_thing_j25 h
        · have hc12 : ¬ ((q11) = (0)) := of_decide_eq_false hc
          rw [if_neg hc12] at h
          refine px_D_st 1 (ip1 := 24) (ls1 := [(0, .inr (.inr 150)), (1, .inl (x1))]) (st1 := [.inl ((-1))]) (h1 := (px_G1, px_up s 150 0 0)) rfl ?_
          cases h
          exact px_D_iret rfl rfl ⟨rfl, rfl⟩

def f_M_mostOf (s : px_Z) (x1 : Int) : Int := if (x1) = (0) then 99999 else (if (x1) = (1) then 9999 else (if (x1) = (3) then 1000 else (if (x1) = (5) then 60 else (if (x1) = (6) then 999 else 99))))
set_option maxHeartbeats 4000000 in
set_option maxRecDepth 100000 in
theorem c_M_mostOf {sc : List Int} {d : Nat} {s : px_Z} {x1 : Int} {out : Int} (h : f_M_mostOf s x1 = out) : px_D sc (d + 0) 164 0 [(0, .inr (.inr 150)), (1, .inl (x1))] [] (px_G1, s) (px_Qp s out) := by
  unfold f_M_mostOf at h
  refine px_D_st 1 (ip1 := 1) (ls1 := [(0, .inr (.inr 150)), (1, .inl (x1))]) (st1 := [.inl (x1)]) (h1 := (px_G1, s)) rfl ?_
  refine px_D_ifc rfl (fun hc => ?_) (fun hc => ?_)
  · have hc1 : ¬ ((x1) = (0)) := of_decide_eq_true hc
    rw [if_neg hc1] at h
    refine px_D_st 2 (ip1 := 6) (ls1 := [(0, .inr (.inr 150)), (1, .inl (x1))]) (st1 := [.inl (1), .inl (x1)]) (h1 := (px_G1, s)) rfl ?_
    refine px_D_icmp rfl (fun hc => ?_) (fun hc => ?_)
    · have hc2 : ¬ ((x1) = (1)) := of_decide_eq_true hc
      rw [if_neg hc2] at h
      refine px_D_st 2 (ip1 := 11) (ls1 := [(0, .inr (.inr 150)), (1, .inl (x1))]) (st1 := [.inl (3), .inl (x1)]) (h1 := (px_G1, s)) rfl ?_
      refine px_D_icmp rfl (fun hc => ?_) (fun hc => ?_)
      · have hc3 : ¬ ((x1) = (3)) := of_decide_eq_true hc
        rw [if_neg hc3] at h
        refine px_D_st 2 (ip1 := 16) (ls1 := [(0, .inr (.inr 150)), (1, .inl (x1))]) (st1 := [.inl (5), .inl (x1)]) (h1 := (px_G1, s)) rfl ?_
        refine px_D_icmp rfl (fun hc => ?_) (fun hc => ?_)
        · have hc4 : ¬ ((x1) = (5)) := of_decide_eq_true hc
          rw [if_neg hc4] at h
          refine px_D_st 2 (ip1 := 21) (ls1 := [(0, .inr (.inr 150)), (1, .inl (x1))]) (st1 := [.inl (6), .inl (x1)]) (h1 := (px_G1, s)) rfl ?_
          refine px_D_icmp rfl (fun hc => ?_) (fun hc => ?_)
          · have hc5 : ¬ ((x1) = (6)) := of_decide_eq_true hc
            rw [if_neg hc5] at h
            refine px_D_st 1 (ip1 := 25) (ls1 := [(0, .inr (.inr 150)), (1, .inl (x1))]) (st1 := [.inl (99)]) (h1 := (px_G1, s)) rfl ?_
            subst h
            exact px_D_iret rfl rfl ⟨rfl, rfl⟩
          · have hc5 : (x1) = (6) := Decidable.of_not_not (of_decide_eq_false hc)
            rw [if_pos hc5] at h
            refine px_D_st 2 (ip1 := 25) (ls1 := [(0, .inr (.inr 150)), (1, .inl (x1))]) (st1 := [.inl (999)]) (h1 := (px_G1, s)) rfl ?_
            subst h
            exact px_D_iret rfl rfl ⟨rfl, rfl⟩
        · have hc4 : (x1) = (5) := Decidable.of_not_not (of_decide_eq_false hc)
          rw [if_pos hc4] at h
          refine px_D_st 1 (ip1 := 18) (ls1 := [(0, .inr (.inr 150)), (1, .inl (x1))]) (st1 := [.inl (60)]) (h1 := (px_G1, s)) rfl ?_
          subst h
          exact px_D_iret rfl rfl ⟨rfl, rfl⟩
      · have hc3 : (x1) = (3) := Decidable.of_not_not (of_decide_eq_false hc)
        rw [if_pos hc3] at h
        refine px_D_st 1 (ip1 := 13) (ls1 := [(0, .inr (.inr 150)), (1, .inl (x1))]) (st1 := [.inl (1000)]) (h1 := (px_G1, s)) rfl ?_
        subst h
        exact px_D_iret rfl rfl ⟨rfl, rfl⟩
    · have hc2 : (x1) = (1) := Decidable.of_not_not (of_decide_eq_false hc)
      rw [if_pos hc2] at h
      refine px_D_st 1 (ip1 := 8) (ls1 := [(0, .inr (.inr 150)), (1, .inl (x1))]) (st1 := [.inl (9999)]) (h1 := (px_G1, s)) rfl ?_
      subst h
      exact px_D_iret rfl rfl ⟨rfl, rfl⟩
  · have hc1 : (x1) = (0) := Decidable.of_not_not (of_decide_eq_false hc)
    rw [if_pos hc1] at h
    refine px_D_st 1 (ip1 := 3) (ls1 := [(0, .inr (.inr 150)), (1, .inl (x1))]) (st1 := [.inl (99999)]) (h1 := (px_G1, s)) rfl ?_
    subst h
    exact px_D_iret rfl rfl ⟨rfl, rfl⟩

def j_M_set_j77 (s : px_Z) (x1 : Int) (x2 : Int) (x3 : Int) : Option (Int × px_Z) := if (x1) = (7) then (if 0 ≤ (px_wr (8 + x2)) ∧ (px_wr (8 + x2)) < 40 then some ((1, px_up (px_up s 151 (px_wr (8 + x2)).toNat x3) 150 3 0)) else none) else some (1, px_up s 150 3 0)
set_option maxHeartbeats 4000000 in
set_option maxRecDepth 100000 in
theorem cj_M_set_j77 {sc : List Int} {d : Nat} {s : px_Z} {x1 : Int} {x2 : Int} {x3 : Int} {out : Int × px_Z} (h : j_M_set_j77 s x1 x2 x3 = some out) : px_D sc (d + 1) 165 77 [(0, .inr (.inr 150)), (1, .inl (x1)), (2, .inl (x2)), (3, .inl (x3))] [] (px_G1, s) (px_Qi out) := by
  unfold j_M_set_j77 at h
  refine px_D_st 2 (ip1 := 79) (ls1 := [(0, .inr (.inr 150)), (1, .inl (x1)), (2, .inl (x2)), (3, .inl (x3))]) (st1 := [.inl (7), .inl (x1)]) (h1 := (px_G1, s)) rfl ?_
  refine px_D_icmp rfl (fun hc => ?_) (fun hc => ?_)
  · have hc11 : ¬ ((x1) = (7)) := of_decide_eq_true hc
    rw [if_neg hc11] at h
    refine px_D_st 4 (ip1 := 91) (ls1 := [(0, .inr (.inr 150)), (1, .inl (x1)), (2, .inl (x2)), (3, .inl (x3))]) (st1 := [.inl (1)]) (h1 := (px_G1, px_up s 150 3 0)) rfl ?_
    cases h
    exact px_D_iret rfl rfl ⟨rfl, rfl⟩
  · have hc11 : (x1) = (7) := Decidable.of_not_not (of_decide_eq_false hc)
    rw [if_pos hc11] at h
    refine px_D_st 6 (ip1 := 86) (ls1 := [(0, .inr (.inr 150)), (1, .inl (x1)), (2, .inl (x2)), (3, .inl (x3))]) (st1 := [.inl (x3), .inl (px_wr (8 + x2)), .inr (.inr 151)]) (h1 := (px_G1, s)) rfl ?_
    by_cases hc12 : 0 ≤ (px_wr (8 + x2)) ∧ (px_wr (8 + x2)) < 40
    case neg => rw [if_neg hc12] at h; cases h
    rw [if_pos hc12] at h
    refine px_D_iast (k := 146) (n := 40) rfl rfl hc12 ?_
    refine px_D_st 4 (ip1 := 91) (ls1 := [(0, .inr (.inr 150)), (1, .inl (x1)), (2, .inl (x2)), (3, .inl (x3))]) (st1 := [.inl (1)]) (h1 := (px_G1, px_up (px_up s 151 (px_wr (8 + x2)).toNat x3) 150 3 0)) rfl ?_
    cases h
    exact px_D_iret rfl rfl ⟨rfl, rfl⟩
def j_M_set_j69 (s : px_Z) (x1 : Int) (x2 : Int) (x3 : Int) : Option (Int × px_Z) := if (x1) = (6) then (if 0 ≤ (x2) ∧ (x2) < 8 then j_M_set_j77 (px_up s 154 x2.toNat x3) x1 x2 x3 else none) else j_M_set_j77 s x1 x2 x3
set_option maxHeartbeats 4000000 in
set_option maxRecDepth 100000 in
theorem cj_M_set_j69 {sc : List Int} {d : Nat} {s : px_Z} {x1 : Int} {x2 : Int} {x3 : Int} {out : Int × px_Z} (h : j_M_set_j69 s x1 x2 x3 = some out) : px_D sc (d + 1) 165 69 [(0, .inr (.inr 150)), (1, .inl (x1)), (2, .inl (x2)), (3, .inl (x3))] [] (px_G1, s) (px_Qi out) := by
  unfold j_M_set_j69 at h
  refine px_D_st 2 (ip1 := 71) (ls1 := [(0, .inr (.inr 150)), (1, .inl (x1)), (2, .inl (x2)), (3, .inl (x3))]) (st1 := [.inl (6), .inl (x1)]) (h1 := (px_G1, s)) rfl ?_
  refine px_D_icmp rfl (fun hc => ?_) (fun hc => ?_)
  · have hc10 : ¬ ((x1) = (6)) := of_decide_eq_true hc
    rw [if_neg hc10] at h
    refine px_D_ls [(0, .inr (.inr 150)), (1, .inl (x1)), (2, .inl (x2)), (3, .inl (x3))] rfl rfl (List.forall_mem_cons.mpr ⟨rfl, List.forall_mem_cons.mpr ⟨rfl, List.forall_mem_cons.mpr ⟨rfl, List.forall_mem_cons.mpr ⟨rfl, fun _ h => absurd h List.not_mem_nil⟩⟩⟩⟩) ?_
    exact cj_M_set_j77 h
  · have hc10 : (x1) = (6) := Decidable.of_not_not (of_decide_eq_false hc)
    rw [if_pos hc10] at h
    refine px_D_st 4 (ip1 := 76) (ls1 := [(0, .inr (.inr 150)), (1, .inl (x1)), (2, .inl (x2)), (3, .inl (x3))]) (st1 := [.inl (x3), .inl (x2), .inr (.inr 154)]) (h1 := (px_G1, s)) rfl ?_
    by_cases hc13 : 0 ≤ (x2) ∧ (x2) < 8
    case neg => rw [if_neg hc13] at h; cases h
    rw [if_pos hc13] at h
    refine px_D_iast (k := 149) (n := 8) rfl rfl hc13 ?_
    refine px_D_ls [(0, .inr (.inr 150)), (1, .inl (x1)), (2, .inl (x2)), (3, .inl (x3))] rfl rfl (List.forall_mem_cons.mpr ⟨rfl, List.forall_mem_cons.mpr ⟨rfl, List.forall_mem_cons.mpr ⟨rfl, List.forall_mem_cons.mpr ⟨rfl, fun _ h => absurd h List.not_mem_nil⟩⟩⟩⟩) ?_
    exact cj_M_set_j77 h
def j_M_set_j61 (s : px_Z) (x1 : Int) (x2 : Int) (x3 : Int) : Option (Int × px_Z) := if (x1) = (5) then j_M_set_j69 (px_up s 150 10 (px_wr (x3 - 30))) x1 x2 x3 else j_M_set_j69 s x1 x2 x3
set_option maxHeartbeats 4000000 in
set_option maxRecDepth 100000 in
theorem cj_M_set_j61 {sc : List Int} {d : Nat} {s : px_Z} {x1 : Int} {x2 : Int} {x3 : Int} {out : Int × px_Z} (h : j_M_set_j61 s x1 x2 x3 = some out) : px_D sc (d + 1) 165 61 [(0, .inr (.inr 150)), (1, .inl (x1)), (2, .inl (x2)), (3, .inl (x3))] [] (px_G1, s) (px_Qi out) := by
  unfold j_M_set_j61 at h
  refine px_D_st 2 (ip1 := 63) (ls1 := [(0, .inr (.inr 150)), (1, .inl (x1)), (2, .inl (x2)), (3, .inl (x3))]) (st1 := [.inl (5), .inl (x1)]) (h1 := (px_G1, s)) rfl ?_
  refine px_D_icmp rfl (fun hc => ?_) (fun hc => ?_)
  · have hc9 : ¬ ((x1) = (5)) := of_decide_eq_true hc
    rw [if_neg hc9] at h
    refine px_D_ls [(0, .inr (.inr 150)), (1, .inl (x1)), (2, .inl (x2)), (3, .inl (x3))] rfl rfl (List.forall_mem_cons.mpr ⟨rfl, List.forall_mem_cons.mpr ⟨rfl, List.forall_mem_cons.mpr ⟨rfl, List.forall_mem_cons.mpr ⟨rfl, fun _ h => absurd h List.not_mem_nil⟩⟩⟩⟩) ?_
    exact cj_M_set_j69 h
  · have hc9 : (x1) = (5) := Decidable.of_not_not (of_decide_eq_false hc)
    rw [if_pos hc9] at h
    refine px_D_st 5 (ip1 := 69) (ls1 := [(0, .inr (.inr 150)), (1, .inl (x1)), (2, .inl (x2)), (3, .inl (x3))]) (st1 := []) (h1 := (px_G1, px_up s 150 10 (px_wr (x3 - 30)))) rfl ?_
    refine px_D_ls [(0, .inr (.inr 150)), (1, .inl (x1)), (2, .inl (x2)), (3, .inl (x3))] rfl rfl (List.forall_mem_cons.mpr ⟨rfl, List.forall_mem_cons.mpr ⟨rfl, List.forall_mem_cons.mpr ⟨rfl, List.forall_mem_cons.mpr ⟨rfl, fun _ h => absurd h List.not_mem_nil⟩⟩⟩⟩) ?_
    exact cj_M_set_j69 h
def j_M_set_j55 (s : px_Z) (x1 : Int) (x2 : Int) (x3 : Int) : Option (Int × px_Z) := if (x1) = (4) then j_M_set_j61 (px_up s 150 9 x3) x1 x2 x3 else j_M_set_j61 s x1 x2 x3
set_option maxHeartbeats 4000000 in
set_option maxRecDepth 100000 in
theorem cj_M_set_j55 {sc : List Int} {d : Nat} {s : px_Z} {x1 : Int} {x2 : Int} {x3 : Int} {out : Int × px_Z} (h : j_M_set_j55 s x1 x2 x3 = some out) : px_D sc (d + 1) 165 55 [(0, .inr (.inr 150)), (1, .inl (x1)), (2, .inl (x2)), (3, .inl (x3))] [] (px_G1, s) (px_Qi out) := by
  unfold j_M_set_j55 at h
  refine px_D_st 2 (ip1 := 57) (ls1 := [(0, .inr (.inr 150)), (1, .inl (x1)), (2, .inl (x2)), (3, .inl (x3))]) (st1 := [.inl (4), .inl (x1)]) (h1 := (px_G1, s)) rfl ?_
  refine px_D_icmp rfl (fun hc => ?_) (fun hc => ?_)
  · have hc8 : ¬ ((x1) = (4)) := of_decide_eq_true hc
    rw [if_neg hc8] at h
    refine px_D_ls [(0, .inr (.inr 150)), (1, .inl (x1)), (2, .inl (x2)), (3, .inl (x3))] rfl rfl (List.forall_mem_cons.mpr ⟨rfl, List.forall_mem_cons.mpr ⟨rfl, List.forall_mem_cons.mpr ⟨rfl, List.forall_mem_cons.mpr ⟨rfl, fun _ h => absurd h List.not_mem_nil⟩⟩⟩⟩) ?_
    exact cj_M_set_j61 h
  · have hc8 : (x1) = (4) := Decidable.of_not_not (of_decide_eq_false hc)
    rw [if_pos hc8] at h
    refine px_D_st 3 (ip1 := 61) (ls1 := [(0, .inr (.inr 150)), (1, .inl (x1)), (2, .inl (x2)), (3, .inl (x3))]) (st1 := []) (h1 := (px_G1, px_up s 150 9 x3)) rfl ?_
    refine px_D_ls [(0, .inr (.inr 150)), (1, .inl (x1)), (2, .inl (x2)), (3, .inl (x3))] rfl rfl (List.forall_mem_cons.mpr ⟨rfl, List.forall_mem_cons.mpr ⟨rfl, List.forall_mem_cons.mpr ⟨rfl, List.forall_mem_cons.mpr ⟨rfl, fun _ h => absurd h List.not_mem_nil⟩⟩⟩⟩) ?_
    exact cj_M_set_j61 h
def j_M_set_j49 (s : px_Z) (x1 : Int) (x2 : Int) (x3 : Int) : Option (Int × px_Z) := if (x1) = (3) then j_M_set_j55 (px_up s 150 8 x3) x1 x2 x3 else j_M_set_j55 s x1 x2 x3
set_option maxHeartbeats 4000000 in
set_option maxRecDepth 100000 in
theorem cj_M_set_j49 {sc : List Int} {d : Nat} {s : px_Z} {x1 : Int} {x2 : Int} {x3 : Int} {out : Int × px_Z} (h : j_M_set_j49 s x1 x2 x3 = some out) : px_D sc (d + 1) 165 49 [(0, .inr (.inr 150)), (1, .inl (x1)), (2, .inl (x2)), (3, .inl (x3))] [] (px_G1, s) (px_Qi out) := by
  unfold j_M_set_j49 at h
  refine px_D_st 2 (ip1 := 51) (ls1 := [(0, .inr (.inr 150)), (1, .inl (x1)), (2, .inl (x2)), (3, .inl (x3))]) (st1 := [.inl (3), .inl (x1)]) (h1 := (px_G1, s)) rfl ?_
  refine px_D_icmp rfl (fun hc => ?_) (fun hc => ?_)
  · have hc7 : ¬ ((x1) = (3)) := of_decide_eq_true hc
    rw [if_neg hc7] at h
    refine px_D_ls [(0, .inr (.inr 150)), (1, .inl (x1)), (2, .inl (x2)), (3, .inl (x3))] rfl rfl (List.forall_mem_cons.mpr ⟨rfl, List.forall_mem_cons.mpr ⟨rfl, List.forall_mem_cons.mpr ⟨rfl, List.forall_mem_cons.mpr ⟨rfl, fun _ h => absurd h List.not_mem_nil⟩⟩⟩⟩) ?_
    exact cj_M_set_j55 h
  · have hc7 : (x1) = (3) := Decidable.of_not_not (of_decide_eq_false hc)
    rw [if_pos hc7] at h
    refine px_D_st 3 (ip1 := 55) (ls1 := [(0, .inr (.inr 150)), (1, .inl (x1)), (2, .inl (x2)), (3, .inl (x3))]) (st1 := []) (h1 := (px_G1, px_up s 150 8 x3)) rfl ?_
    refine px_D_ls [(0, .inr (.inr 150)), (1, .inl (x1)), (2, .inl (x2)), (3, .inl (x3))] rfl rfl (List.forall_mem_cons.mpr ⟨rfl, List.forall_mem_cons.mpr ⟨rfl, List.forall_mem_cons.mpr ⟨rfl, List.forall_mem_cons.mpr ⟨rfl, fun _ h => absurd h List.not_mem_nil⟩⟩⟩⟩) ?_
    exact cj_M_set_j55 h
def j_M_set_j41 (s : px_Z) (x1 : Int) (x2 : Int) (x3 : Int) : Option (Int × px_Z) := if (x1) = (2) then j_M_set_j49 (px_up s 151 5 x3) x1 x2 x3 else j_M_set_j49 s x1 x2 x3
set_option maxHeartbeats 4000000 in
set_option maxRecDepth 100000 in
theorem cj_M_set_j41 {sc : List Int} {d : Nat} {s : px_Z} {x1 : Int} {x2 : Int} {x3 : Int} {out : Int × px_Z} (h : j_M_set_j41 s x1 x2 x3 = some out) : px_D sc (d + 1) 165 41 [(0, .inr (.inr 150)), (1, .inl (x1)), (2, .inl (x2)), (3, .inl (x3))] [] (px_G1, s) (px_Qi out) := by
  unfold j_M_set_j41 at h
  refine px_D_st 2 (ip1 := 43) (ls1 := [(0, .inr (.inr 150)), (1, .inl (x1)), (2, .inl (x2)), (3, .inl (x3))]) (st1 := [.inl (2), .inl (x1)]) (h1 := (px_G1, s)) rfl ?_
  refine px_D_icmp rfl (fun hc => ?_) (fun hc => ?_)
  · have hc6 : ¬ ((x1) = (2)) := of_decide_eq_true hc
    rw [if_neg hc6] at h
    refine px_D_ls [(0, .inr (.inr 150)), (1, .inl (x1)), (2, .inl (x2)), (3, .inl (x3))] rfl rfl (List.forall_mem_cons.mpr ⟨rfl, List.forall_mem_cons.mpr ⟨rfl, List.forall_mem_cons.mpr ⟨rfl, List.forall_mem_cons.mpr ⟨rfl, fun _ h => absurd h List.not_mem_nil⟩⟩⟩⟩) ?_
    exact cj_M_set_j49 h
  · have hc6 : (x1) = (2) := Decidable.of_not_not (of_decide_eq_false hc)
    rw [if_pos hc6] at h
    refine px_D_st 5 (ip1 := 49) (ls1 := [(0, .inr (.inr 150)), (1, .inl (x1)), (2, .inl (x2)), (3, .inl (x3))]) (st1 := []) (h1 := (px_G1, px_up s 151 5 x3)) rfl ?_
    refine px_D_ls [(0, .inr (.inr 150)), (1, .inl (x1)), (2, .inl (x2)), (3, .inl (x3))] rfl rfl (List.forall_mem_cons.mpr ⟨rfl, List.forall_mem_cons.mpr ⟨rfl, List.forall_mem_cons.mpr ⟨rfl, List.forall_mem_cons.mpr ⟨rfl, fun _ h => absurd h List.not_mem_nil⟩⟩⟩⟩) ?_
    exact cj_M_set_j49 h
def j_M_set_j33 (s : px_Z) (x1 : Int) (x2 : Int) (x3 : Int) : Option (Int × px_Z) := if (x1) = (1) then j_M_set_j41 (px_up s 151 4 x3) x1 x2 x3 else j_M_set_j41 s x1 x2 x3
set_option maxHeartbeats 4000000 in
set_option maxRecDepth 100000 in
theorem cj_M_set_j33 {sc : List Int} {d : Nat} {s : px_Z} {x1 : Int} {x2 : Int} {x3 : Int} {out : Int × px_Z} (h : j_M_set_j33 s x1 x2 x3 = some out) : px_D sc (d + 1) 165 33 [(0, .inr (.inr 150)), (1, .inl (x1)), (2, .inl (x2)), (3, .inl (x3))] [] (px_G1, s) (px_Qi out) := by
  unfold j_M_set_j33 at h
  refine px_D_st 2 (ip1 := 35) (ls1 := [(0, .inr (.inr 150)), (1, .inl (x1)), (2, .inl (x2)), (3, .inl (x3))]) (st1 := [.inl (1), .inl (x1)]) (h1 := (px_G1, s)) rfl ?_
  refine px_D_icmp rfl (fun hc => ?_) (fun hc => ?_)
  · have hc5 : ¬ ((x1) = (1)) := of_decide_eq_true hc
    rw [if_neg hc5] at h
    refine px_D_ls [(0, .inr (.inr 150)), (1, .inl (x1)), (2, .inl (x2)), (3, .inl (x3))] rfl rfl (List.forall_mem_cons.mpr ⟨rfl, List.forall_mem_cons.mpr ⟨rfl, List.forall_mem_cons.mpr ⟨rfl, List.forall_mem_cons.mpr ⟨rfl, fun _ h => absurd h List.not_mem_nil⟩⟩⟩⟩) ?_
    exact cj_M_set_j41 h
  · have hc5 : (x1) = (1) := Decidable.of_not_not (of_decide_eq_false hc)
    rw [if_pos hc5] at h
    refine px_D_st 5 (ip1 := 41) (ls1 := [(0, .inr (.inr 150)), (1, .inl (x1)), (2, .inl (x2)), (3, .inl (x3))]) (st1 := []) (h1 := (px_G1, px_up s 151 4 x3)) rfl ?_
    refine px_D_ls [(0, .inr (.inr 150)), (1, .inl (x1)), (2, .inl (x2)), (3, .inl (x3))] rfl rfl (List.forall_mem_cons.mpr ⟨rfl, List.forall_mem_cons.mpr ⟨rfl, List.forall_mem_cons.mpr ⟨rfl, List.forall_mem_cons.mpr ⟨rfl, fun _ h => absurd h List.not_mem_nil⟩⟩⟩⟩) ?_
    exact cj_M_set_j41 h
def j_M_set_j26 (s : px_Z) (x1 : Int) (x2 : Int) (x3 : Int) : Option (Int × px_Z) := if (x1) = (0) then j_M_set_j33 (px_up s 151 3 x3) x1 x2 x3 else j_M_set_j33 s x1 x2 x3
set_option maxHeartbeats 4000000 in
set_option maxRecDepth 100000 in
theorem cj_M_set_j26 {sc : List Int} {d : Nat} {s : px_Z} {x1 : Int} {x2 : Int} {x3 : Int} {out : Int × px_Z} (h : j_M_set_j26 s x1 x2 x3 = some out) : px_D sc (d + 1) 165 26 [(0, .inr (.inr 150)), (1, .inl (x1)), (2, .inl (x2)), (3, .inl (x3))] [] (px_G1, s) (px_Qi out) := by
  unfold j_M_set_j26 at h
  refine px_D_st 1 (ip1 := 27) (ls1 := [(0, .inr (.inr 150)), (1, .inl (x1)), (2, .inl (x2)), (3, .inl (x3))]) (st1 := [.inl (x1)]) (h1 := (px_G1, s)) rfl ?_
  refine px_D_ifc rfl (fun hc => ?_) (fun hc => ?_)
  · have hc4 : ¬ ((x1) = (0)) := of_decide_eq_true hc
    rw [if_neg hc4] at h
    refine px_D_ls [(0, .inr (.inr 150)), (1, .inl (x1)), (2, .inl (x2)), (3, .inl (x3))] rfl rfl (List.forall_mem_cons.mpr ⟨rfl, List.forall_mem_cons.mpr ⟨rfl, List.forall_mem_cons.mpr ⟨rfl, List.forall_mem_cons.mpr ⟨rfl, fun _ h => absurd h List.not_mem_nil⟩⟩⟩⟩) ?_
    exact cj_M_set_j33 h
  · have hc4 : (x1) = (0) := Decidable.of_not_not (of_decide_eq_false hc)
    rw [if_pos hc4] at h
    refine px_D_st 5 (ip1 := 33) (ls1 := [(0, .inr (.inr 150)), (1, .inl (x1)), (2, .inl (x2)), (3, .inl (x3))]) (st1 := []) (h1 := (px_G1, px_up s 151 3 x3)) rfl ?_
    refine px_D_ls [(0, .inr (.inr 150)), (1, .inl (x1)), (2, .inl (x2)), (3, .inl (x3))] rfl rfl (List.forall_mem_cons.mpr ⟨rfl, List.forall_mem_cons.mpr ⟨rfl, List.forall_mem_cons.mpr ⟨rfl, List.forall_mem_cons.mpr ⟨rfl, fun _ h => absurd h List.not_mem_nil⟩⟩⟩⟩) ?_
    exact cj_M_set_j33 h
def f_M_set (s : px_Z) (x1 : Int) (x2 : Int) (x3 : Int) : Option (Int × px_Z) := if (f_M_isIn (px_up s 150 0 0) x1 0 7) = (0) then some (0, px_up s 150 0 0) else (if (f_M_isIn (px_up s 150 0 0) x3 0 (f_M_mostOf (px_up s 150 0 0) x1)) = (0) then some (0, px_up s 150 0 0) else (if (x1) ≤ (5) then j_M_set_j26 (px_up s 150 0 0) x1 x2 x3 else (if (f_M_isThing (px_up s 150 0 0) x2) = (0) then some (0, px_up s 150 0 0) else j_M_set_j26 (px_up s 150 0 0) x1 x2 x3)))
set_option maxHeartbeats 4000000 in
set_option maxRecDepth 100000 in
theorem c_M_set {sc : List Int} {d : Nat} {s : px_Z} {x1 : Int} {x2 : Int} {x3 : Int} {out : Int × px_Z} (h : f_M_set s x1 x2 x3 = some out) : px_D sc (d + 1) 165 0 [(0, .inr (.inr 150)), (1, .inl (x1)), (2, .inl (x2)), (3, .inl (x3))] [] (px_G1, s) (px_Qi out) := by
  unfold f_M_set at h
  refine px_D_st 7 (ip1 := 7) (ls1 := [(0, .inr (.inr 150)), (1, .inl (x1)), (2, .inl (x2)), (3, .inl (x3))]) (st1 := [.inl (7), .inl (0), .inl (x1), .inr (.inr 150)]) (h1 := (px_G1, px_up s 150 0 0)) rfl ?_
  refine px_D_call (as := [.inr (.inr 150), .inl (x1), .inl (0), .inl (7)]) (rest := []) rfl rfl rfl rfl ?_
  refine px_D_mono (c_M_isIn (d := d + 0) rfl) ?_
  rintro _ _ ⟨rfl, rfl⟩
  show px_D sc (d + 1) 165 8 [(0, .inr (.inr 150)), (1, .inl (x1)), (2, .inl (x2)), (3, .inl (x3))] [.inl (f_M_isIn (px_up s 150 0 0) x1 0 7)] (px_G1, px_up s 150 0 0) _
  refine px_D_ifc rfl (fun hc => ?_) (fun hc => ?_)
  · have hc1 : (f_M_isIn (px_up s 150 0 0) x1 0 7) = (0) := of_decide_eq_true hc
    rw [if_pos hc1] at h
    refine px_D_st 1 (ip1 := 25) (ls1 := [(0, .inr (.inr 150)), (1, .inl (x1)), (2, .inl (x2)), (3, .inl (x3))]) (st1 := [.inl (0)]) (h1 := (px_G1, px_up s 150 0 0)) rfl ?_
    cases h
    exact px_D_iret rfl rfl ⟨rfl, rfl⟩
  · have hc1 : ¬ ((f_M_isIn (px_up s 150 0 0) x1 0 7) = (0)) := of_decide_eq_false hc
    rw [if_neg hc1] at h
    refine px_D_st 5 (ip1 := 14) (ls1 := [(0, .inr (.inr 150)), (1, .inl (x1)), (2, .inl (x2)), (3, .inl (x3))]) (st1 := [.inl (x1), .inr (.inr 150), .inl (0), .inl (x3), .inr (.inr 150)]) (h1 := (px_G1, px_up s 150 0 0)) rfl ?_
    refine px_D_call (as := [.inr (.inr 150), .inl (x1)]) (rest := [.inl (0), .inl (x3), .inr (.inr 150)]) rfl rfl rfl rfl ?_
    refine px_D_mono (c_M_mostOf (d := d + 0) rfl) ?_
    rintro _ _ ⟨rfl, rfl⟩
    show px_D sc (d + 1) 165 15 [(0, .inr (.inr 150)), (1, .inl (x1)), (2, .inl (x2)), (3, .inl (x3))] [.inl (f_M_mostOf (px_up s 150 0 0) x1), .inl (0), .inl (x3), .inr (.inr 150)] (px_G1, px_up s 150 0 0) _
    refine px_D_call (as := [.inr (.inr 150), .inl (x3), .inl (0), .inl (f_M_mostOf (px_up s 150 0 0) x1)]) (rest := []) rfl rfl rfl rfl ?_
    refine px_D_mono (c_M_isIn (d := d + 0) rfl) ?_
    rintro _ _ ⟨rfl, rfl⟩
    show px_D sc (d + 1) 165 16 [(0, .inr (.inr 150)), (1, .inl (x1)), (2, .inl (x2)), (3, .inl (x3))] [.inl (f_M_isIn (px_up s 150 0 0) x3 0 (f_M_mostOf (px_up s 150 0 0) x1))] (px_G1, px_up s 150 0 0) _
    refine px_D_ifc rfl (fun hc => ?_) (fun hc => ?_)
    · have hc2 : (f_M_isIn (px_up s 150 0 0) x3 0 (f_M_mostOf (px_up s 150 0 0) x1)) = (0) := of_decide_eq_true hc
      rw [if_pos hc2] at h
      refine px_D_st 1 (ip1 := 25) (ls1 := [(0, .inr (.inr 150)), (1, .inl (x1)), (2, .inl (x2)), (3, .inl (x3))]) (st1 := [.inl (0)]) (h1 := (px_G1, px_up s 150 0 0)) rfl ?_
      cases h
      exact px_D_iret rfl rfl ⟨rfl, rfl⟩
    · have hc2 : ¬ ((f_M_isIn (px_up s 150 0 0) x3 0 (f_M_mostOf (px_up s 150 0 0) x1)) = (0)) := of_decide_eq_false hc
      rw [if_neg hc2] at h
      refine px_D_st 2 (ip1 := 19) (ls1 := [(0, .inr (.inr 150)), (1, .inl (x1)), (2, .inl (x2)), (3, .inl (x3))]) (st1 := [.inl (5), .inl (x1)]) (h1 := (px_G1, px_up s 150 0 0)) rfl ?_
      refine px_D_icmp rfl (fun hc => ?_) (fun hc => ?_)
      · have hc3 : (x1) ≤ (5) := of_decide_eq_true hc
        rw [if_pos hc3] at h
        refine px_D_ls [(0, .inr (.inr 150)), (1, .inl (x1)), (2, .inl (x2)), (3, .inl (x3))] rfl rfl (List.forall_mem_cons.mpr ⟨rfl, List.forall_mem_cons.mpr ⟨rfl, List.forall_mem_cons.mpr ⟨rfl, List.forall_mem_cons.mpr ⟨rfl, fun _ h => absurd h List.not_mem_nil⟩⟩⟩⟩) ?_
        exact cj_M_set_j26 h
      · have hc3 : ¬ ((x1) ≤ (5)) := of_decide_eq_false hc
        rw [if_neg hc3] at h
        refine px_D_st 2 (ip1 := 22) (ls1 := [(0, .inr (.inr 150)), (1, .inl (x1)), (2, .inl (x2)), (3, .inl (x3))]) (st1 := [.inl (x2), .inr (.inr 150)]) (h1 := (px_G1, px_up s 150 0 0)) rfl ?_
        refine px_D_call (as := [.inr (.inr 150), .inl (x2)]) (rest := []) rfl rfl rfl rfl ?_
        refine px_D_mono (c_M_isThing (d := d + 0) rfl) ?_
        rintro _ _ ⟨rfl, rfl⟩
        show px_D sc (d + 1) 165 23 [(0, .inr (.inr 150)), (1, .inl (x1)), (2, .inl (x2)), (3, .inl (x3))] [.inl (f_M_isThing (px_up s 150 0 0) x2)] (px_G1, px_up s 150 0 0) _
        refine px_D_ifc rfl (fun hc => ?_) (fun hc => ?_)
        · have hc14 : ¬ ((f_M_isThing (px_up s 150 0 0) x2) = (0)) := of_decide_eq_true hc
          rw [if_neg hc14] at h
          refine px_D_ls [(0, .inr (.inr 150)), (1, .inl (x1)), (2, .inl (x2)), (3, .inl (x3))] rfl rfl (List.forall_mem_cons.mpr ⟨rfl, List.forall_mem_cons.mpr ⟨rfl, List.forall_mem_cons.mpr ⟨rfl, List.forall_mem_cons.mpr ⟨rfl, fun _ h => absurd h List.not_mem_nil⟩⟩⟩⟩) ?_
          exact cj_M_set_j26 h
        · have hc14 : (f_M_isThing (px_up s 150 0 0) x2) = (0) := Decidable.of_not_not (of_decide_eq_false hc)
          rw [if_pos hc14] at h
          refine px_D_st 1 (ip1 := 25) (ls1 := [(0, .inr (.inr 150)), (1, .inl (x1)), (2, .inl (x2)), (3, .inl (x3))]) (st1 := [.inl (0)]) (h1 := (px_G1, px_up s 150 0 0)) rfl ?_
          cases h
          exact px_D_iret rfl rfl ⟨rfl, rfl⟩

def l_M_types_2  : Nat → px_Z → Int → Int → Option (px_Z)
  | 0, _, _, _ => none
  | n + 1, s, x1, x2 => if (x2) < (0) then some s else (if 0 ≤ (s 150 13) ∧ (s 150 13) < 400 then l_M_types_2  n (px_up (px_up s 156 (s 150 13).toNat (px_and ((px_shr (x1) (x2))) (255))) 150 13 (px_wr (((px_up s 156 (s 150 13).toNat (px_and ((px_shr (x1) (x2))) (255))) 150 13) + 1))) x1 (px_wr (x2 + (-8))) else none)
set_option maxHeartbeats 4000000 in
set_option maxRecDepth 100000 in
theorem cl_M_types_2 {sc : List Int} {d : Nat}  : ∀ (n : Nat) (s : px_Z) (x1 : Int) (x2 : Int) (out : px_Z), l_M_types_2  n s x1 x2 = some out → px_D sc (d + 0) 166 2 [(0, .inr (.inr 150)), (1, .inl (x1)), (2, .inl (x2))] [] (px_G1, s) (px_Qv out) := by
  intro n
  induction n with
  | zero => intro s x1 x2 out h; cases h
  | succ n ih =>
    intro s x1 x2 out h
    rw [l_M_types_2] at h
    refine px_D_st 1 (ip1 := 3) (ls1 := [(0, .inr (.inr 150)), (1, .inl (x1)), (2, .inl (x2))]) (st1 := [.inl (x2)]) (h1 := (px_G1, s)) rfl ?_
    refine px_D_ifc rfl (fun hc => ?_) (fun hc => ?_)
    · have hc1 : (x2) < (0) := of_decide_eq_true hc
      rw [if_pos hc1] at h
      cases h
      exact px_D_vret rfl ⟨rfl, rfl⟩
    · have hc1 : ¬ ((x2) < (0)) := of_decide_eq_false hc
      rw [if_neg hc1] at h
      refine px_D_st 9 (ip1 := 13) (ls1 := [(0, .inr (.inr 150)), (1, .inl (x1)), (2, .inl (x2))]) (st1 := [.inl (px_and ((px_shr (x1) (x2))) (255)), .inl (s 150 13), .inr (.inr 156)]) (h1 := (px_G1, s)) rfl ?_
      by_cases hc2 : 0 ≤ (s 150 13) ∧ (s 150 13) < 400
      case neg => rw [if_neg hc2] at h; cases h
      rw [if_pos hc2] at h
      refine px_D_iast (k := 151) (n := 400) rfl rfl hc2 ?_
      refine px_D_st 8 (ip1 := 2) (ls1 := [(2, .inl (px_wr (x2 + (-8)))), (0, .inr (.inr 150)), (1, .inl (x1))]) (st1 := []) (h1 := (px_G1, px_up (px_up s 156 (s 150 13).toNat (px_and ((px_shr (x1) (x2))) (255))) 150 13 (px_wr (((px_up s 156 (s 150 13).toNat (px_and ((px_shr (x1) (x2))) (255))) 150 13) + 1)))) rfl ?_
      refine px_D_ls [(0, .inr (.inr 150)), (1, .inl (x1)), (2, .inl (px_wr (x2 + (-8))))] rfl rfl (List.forall_mem_cons.mpr ⟨rfl, List.forall_mem_cons.mpr ⟨rfl, List.forall_mem_cons.mpr ⟨rfl, fun _ h => absurd h List.not_mem_nil⟩⟩⟩) ?_
      exact ih _ _ _ _ h
def f_M_types (s : px_Z) (x1 : Int) : Option (px_Z) := l_M_types_2  px_big s x1 24
set_option maxHeartbeats 4000000 in
set_option maxRecDepth 100000 in
theorem c_M_types {sc : List Int} {d : Nat} {s : px_Z} {x1 : Int} {out : px_Z} (h : f_M_types s x1 = some out) : px_D sc (d + 0) 166 0 [(0, .inr (.inr 150)), (1, .inl (x1))] [] (px_G1, s) (px_Qv out) := by
  unfold f_M_types at h
  refine px_D_st 2 (ip1 := 2) (ls1 := [(2, .inl (24)), (0, .inr (.inr 150)), (1, .inl (x1))]) (st1 := []) (h1 := (px_G1, s)) rfl ?_
  refine px_D_ls [(0, .inr (.inr 150)), (1, .inl (x1)), (2, .inl (24))] rfl rfl (List.forall_mem_cons.mpr ⟨rfl, List.forall_mem_cons.mpr ⟨rfl, List.forall_mem_cons.mpr ⟨rfl, fun _ h => absurd h List.not_mem_nil⟩⟩⟩) ?_
  refine cl_M_types_2  px_big _ _ _ _ h

def f_M_feed (s : px_Z) (x1 : Int) (x2 : Int) (x3 : Int) (x4 : Int) (x5 : Int) : Option (Int × px_Z) := if ((px_up s 150 0 0) 150 13) ≤ (380) then (f_M_types (px_up s 150 0 0) x1).bind (fun q2 => (f_M_types q2 x2).bind (fun q3 => (f_M_types q3 x3).bind (fun q4 => (f_M_types q4 x4).bind (fun q5 => (f_M_types q5 x5).bind (fun q6 => some (q6 150 13, q6)))))) else some (((-1), px_up s 150 0 0))
set_option maxHeartbeats 4000000 in
set_option maxRecDepth 100000 in
theorem c_M_feed {sc : List Int} {d : Nat} {s : px_Z} {x1 : Int} {x2 : Int} {x3 : Int} {x4 : Int} {x5 : Int} {out : Int × px_Z} (h : f_M_feed s x1 x2 x3 x4 x5 = some out) : px_D sc (d + 1) 167 0 [(0, .inr (.inr 150)), (1, .inl (x1)), (2, .inl (x2)), (3, .inl (x3)), (4, .inl (x4)), (5, .inl (x5))] [] (px_G1, s) (px_Qi out) := by
  unfold f_M_feed at h
  refine px_D_st 6 (ip1 := 6) (ls1 := [(0, .inr (.inr 150)), (1, .inl (x1)), (2, .inl (x2)), (3, .inl (x3)), (4, .inl (x4)), (5, .inl (x5))]) (st1 := [.inl (380), .inl ((px_up s 150 0 0) 150 13)]) (h1 := (px_G1, px_up s 150 0 0)) rfl ?_
  refine px_D_icmp rfl (fun hc => ?_) (fun hc => ?_)
  · have hc1 : ((px_up s 150 0 0) 150 13) ≤ (380) := of_decide_eq_true hc
    rw [if_pos hc1] at h
    refine px_D_st 2 (ip1 := 11) (ls1 := [(0, .inr (.inr 150)), (1, .inl (x1)), (2, .inl (x2)), (3, .inl (x3)), (4, .inl (x4)), (5, .inl (x5))]) (st1 := [.inl (x1), .inr (.inr 150)]) (h1 := (px_G1, px_up s 150 0 0)) rfl ?_
    refine px_D_call (as := [.inr (.inr 150), .inl (x1)]) (rest := []) rfl rfl rfl rfl ?_
    obtain ⟨q2, hq2, h⟩ := Option.bind_eq_some_iff.mp h
    refine px_D_mono (c_M_types (d := d + 0) hq2) ?_
    rintro _ _ ⟨rfl, rfl⟩
    show px_D sc (d + 1) 167 12 [(0, .inr (.inr 150)), (1, .inl (x1)), (2, .inl (x2)), (3, .inl (x3)), (4, .inl (x4)), (5, .inl (x5))] [] (px_G1, q2) _
    refine px_D_st 2 (ip1 := 14) (ls1 := [(0, .inr (.inr 150)), (1, .inl (x1)), (2, .inl (x2)), (3, .inl (x3)), (4, .inl (x4)), (5, .inl (x5))]) (st1 := [.inl (x2), .inr (.inr 150)]) (h1 := (px_G1, q2)) rfl ?_
    refine px_D_call (as := [.inr (.inr 150), .inl (x2)]) (rest := []) rfl rfl rfl rfl ?_
    obtain ⟨q3, hq3, h⟩ := Option.bind_eq_some_iff.mp h
    refine px_D_mono (c_M_types (d := d + 0) hq3) ?_
    rintro _ _ ⟨rfl, rfl⟩
    show px_D sc (d + 1) 167 15 [(0, .inr (.inr 150)), (1, .inl (x1)), (2, .inl (x2)), (3, .inl (x3)), (4, .inl (x4)), (5, .inl (x5))] [] (px_G1, q3) _
    refine px_D_st 2 (ip1 := 17) (ls1 := [(0, .inr (.inr 150)), (1, .inl (x1)), (2, .inl (x2)), (3, .inl (x3)), (4, .inl (x4)), (5, .inl (x5))]) (st1 := [.inl (x3), .inr (.inr 150)]) (h1 := (px_G1, q3)) rfl ?_
    refine px_D_call (as := [.inr (.inr 150), .inl (x3)]) (rest := []) rfl rfl rfl rfl ?_
    obtain ⟨q4, hq4, h⟩ := Option.bind_eq_some_iff.mp h
    refine px_D_mono (c_M_types (d := d + 0) hq4) ?_
    rintro _ _ ⟨rfl, rfl⟩
    show px_D sc (d + 1) 167 18 [(0, .inr (.inr 150)), (1, .inl (x1)), (2, .inl (x2)), (3, .inl (x3)), (4, .inl (x4)), (5, .inl (x5))] [] (px_G1, q4) _
    refine px_D_st 2 (ip1 := 20) (ls1 := [(0, .inr (.inr 150)), (1, .inl (x1)), (2, .inl (x2)), (3, .inl (x3)), (4, .inl (x4)), (5, .inl (x5))]) (st1 := [.inl (x4), .inr (.inr 150)]) (h1 := (px_G1, q4)) rfl ?_
    refine px_D_call (as := [.inr (.inr 150), .inl (x4)]) (rest := []) rfl rfl rfl rfl ?_
    obtain ⟨q5, hq5, h⟩ := Option.bind_eq_some_iff.mp h
    refine px_D_mono (c_M_types (d := d + 0) hq5) ?_
    rintro _ _ ⟨rfl, rfl⟩
    show px_D sc (d + 1) 167 21 [(0, .inr (.inr 150)), (1, .inl (x1)), (2, .inl (x2)), (3, .inl (x3)), (4, .inl (x4)), (5, .inl (x5))] [] (px_G1, q5) _
    refine px_D_st 2 (ip1 := 23) (ls1 := [(0, .inr (.inr 150)), (1, .inl (x1)), (2, .inl (x2)), (3, .inl (x3)), (4, .inl (x4)), (5, .inl (x5))]) (st1 := [.inl (x5), .inr (.inr 150)]) (h1 := (px_G1, q5)) rfl ?_
    refine px_D_call (as := [.inr (.inr 150), .inl (x5)]) (rest := []) rfl rfl rfl rfl ?_
    obtain ⟨q6, hq6, h⟩ := Option.bind_eq_some_iff.mp h
    refine px_D_mono (c_M_types (d := d + 0) hq6) ?_
    rintro _ _ ⟨rfl, rfl⟩
    show px_D sc (d + 1) 167 24 [(0, .inr (.inr 150)), (1, .inl (x1)), (2, .inl (x2)), (3, .inl (x3)), (4, .inl (x4)), (5, .inl (x5))] [] (px_G1, q6) _
    refine px_D_st 2 (ip1 := 26) (ls1 := [(0, .inr (.inr 150)), (1, .inl (x1)), (2, .inl (x2)), (3, .inl (x3)), (4, .inl (x4)), (5, .inl (x5))]) (st1 := [.inl (q6 150 13)]) (h1 := (px_G1, q6)) rfl ?_
    cases h
    exact px_D_iret rfl rfl ⟨rfl, rfl⟩
  · have hc1 : ¬ (((px_up s 150 0 0) 150 13) ≤ (380)) := of_decide_eq_false hc
    rw [if_neg hc1] at h
    refine px_D_st 1 (ip1 := 8) (ls1 := [(0, .inr (.inr 150)), (1, .inl (x1)), (2, .inl (x2)), (3, .inl (x3)), (4, .inl (x4)), (5, .inl (x5))]) (st1 := [.inl ((-1))]) (h1 := (px_G1, px_up s 150 0 0)) rfl ?_
    cases h
    exact px_D_iret rfl rfl ⟨rfl, rfl⟩

def f_M_end (s : px_Z) (x1 : Int) : Option (Int × px_Z) := if (f_M_isIn (px_up s 150 0 0) x1 0 ((px_up s 150 0 0) 150 13)) = (0) then some (0, px_up s 150 0 0) else some ((1, px_up (px_up s 150 0 0) 150 13 x1))
set_option maxHeartbeats 4000000 in
set_option maxRecDepth 100000 in
theorem c_M_end {sc : List Int} {d : Nat} {s : px_Z} {x1 : Int} {out : Int × px_Z} (h : f_M_end s x1 = some out) : px_D sc (d + 1) 168 0 [(0, .inr (.inr 150)), (1, .inl (x1))] [] (px_G1, s) (px_Qi out) := by
  unfold f_M_end at h
  refine px_D_st 8 (ip1 := 8) (ls1 := [(0, .inr (.inr 150)), (1, .inl (x1))]) (st1 := [.inl ((px_up s 150 0 0) 150 13), .inl (0), .inl (x1), .inr (.inr 150)]) (h1 := (px_G1, px_up s 150 0 0)) rfl ?_
  refine px_D_call (as := [.inr (.inr 150), .inl (x1), .inl (0), .inl ((px_up s 150 0 0) 150 13)]) (rest := []) rfl rfl rfl rfl ?_
  refine px_D_mono (c_M_isIn (d := d + 0) rfl) ?_
  rintro _ _ ⟨rfl, rfl⟩
  show px_D sc (d + 1) 168 9 [(0, .inr (.inr 150)), (1, .inl (x1))] [.inl (f_M_isIn (px_up s 150 0 0) x1 0 ((px_up s 150 0 0) 150 13))] (px_G1, px_up s 150 0 0) _
  refine px_D_ifc rfl (fun hc => ?_) (fun hc => ?_)
  · have hc1 : ¬ ((f_M_isIn (px_up s 150 0 0) x1 0 ((px_up s 150 0 0) 150 13)) = (0)) := of_decide_eq_true hc
    rw [if_neg hc1] at h
    refine px_D_st 4 (ip1 := 16) (ls1 := [(0, .inr (.inr 150)), (1, .inl (x1))]) (st1 := [.inl (1)]) (h1 := (px_G1, px_up (px_up s 150 0 0) 150 13 x1)) rfl ?_
    cases h
    exact px_D_iret rfl rfl ⟨rfl, rfl⟩
  · have hc1 : (f_M_isIn (px_up s 150 0 0) x1 0 ((px_up s 150 0 0) 150 13)) = (0) := Decidable.of_not_not (of_decide_eq_false hc)
    rw [if_pos hc1] at h
    refine px_D_st 1 (ip1 := 11) (ls1 := [(0, .inr (.inr 150)), (1, .inl (x1))]) (st1 := [.inl (0)]) (h1 := (px_G1, px_up s 150 0 0)) rfl ?_
    cases h
    exact px_D_iret rfl rfl ⟨rfl, rfl⟩

def f_M_raw (s : px_Z) (x1 : Int) : Option (Int) := if (s 150 13) ≤ (x1) then some (-1) else (if 0 ≤ (x1) ∧ (x1) < 400 then some (s 156 x1.toNat) else none)
set_option maxHeartbeats 4000000 in
set_option maxRecDepth 100000 in
theorem c_M_raw {sc : List Int} {d : Nat} {s : px_Z} {x1 : Int} {out : Int} (h : f_M_raw s x1 = some out) : px_D sc (d + 0) 169 0 [(0, .inr (.inr 150)), (1, .inl (x1))] [] (px_G1, s) (px_Qp s out) := by
  unfold f_M_raw at h
  refine px_D_st 3 (ip1 := 3) (ls1 := [(0, .inr (.inr 150)), (1, .inl (x1))]) (st1 := [.inl (s 150 13), .inl (x1)]) (h1 := (px_G1, s)) rfl ?_
  refine px_D_icmp rfl (fun hc => ?_) (fun hc => ?_)
  · have hc1 : (s 150 13) ≤ (x1) := of_decide_eq_true hc
    rw [if_pos hc1] at h
    refine px_D_st 1 (ip1 := 10) (ls1 := [(0, .inr (.inr 150)), (1, .inl (x1))]) (st1 := [.inl ((-1))]) (h1 := (px_G1, s)) rfl ?_
    cases h
    exact px_D_iret rfl rfl ⟨rfl, rfl⟩
  · have hc1 : ¬ ((s 150 13) ≤ (x1)) := of_decide_eq_false hc
    rw [if_neg hc1] at h
    refine px_D_st 3 (ip1 := 7) (ls1 := [(0, .inr (.inr 150)), (1, .inl (x1))]) (st1 := [.inl (x1), .inr (.inr 156)]) (h1 := (px_G1, s)) rfl ?_
    by_cases hc2 : 0 ≤ (x1) ∧ (x1) < 400
    case neg => rw [if_neg hc2] at h; cases h
    rw [if_pos hc2] at h
    refine px_D_iald (k := 151) (n := 400) rfl rfl hc2 ?_
    refine px_D_st 1 (ip1 := 10) (ls1 := [(0, .inr (.inr 150)), (1, .inl (x1))]) (st1 := [.inl (s 156 x1.toNat)]) (h1 := (px_G1, s)) rfl ?_
    cases h
    exact px_D_iret rfl rfl ⟨rfl, rfl⟩

def f_M_isLetter (s : px_Z) (x1 : Int) : Int := if (f_M_isIn s x1 97 122) = (0) then (if (f_M_isIn s x1 65 90) = (0) then 0 else 1) else 1
set_option maxHeartbeats 4000000 in
set_option maxRecDepth 100000 in
theorem c_M_isLetter {sc : List Int} {d : Nat} {s : px_Z} {x1 : Int} {out : Int} (h : f_M_isLetter s x1 = out) : px_D sc (d + 1) 170 0 [(0, .inr (.inr 150)), (1, .inl (x1))] [] (px_G1, s) (px_Qp s out) := by
  unfold f_M_isLetter at h
  refine px_D_st 4 (ip1 := 4) (ls1 := [(0, .inr (.inr 150)), (1, .inl (x1))]) (st1 := [.inl (122), .inl (97), .inl (x1), .inr (.inr 150)]) (h1 := (px_G1, s)) rfl ?_
  refine px_D_call (as := [.inr (.inr 150), .inl (x1), .inl (97), .inl (122)]) (rest := []) rfl rfl rfl rfl ?_
  refine px_D_mono (c_M_isIn (d := d + 0) rfl) ?_
  rintro _ _ ⟨rfl, rfl⟩
  show px_D sc (d + 1) 170 5 [(0, .inr (.inr 150)), (1, .inl (x1))] [.inl (f_M_isIn s x1 97 122)] (px_G1, s) _
  refine px_D_ifc rfl (fun hc => ?_) (fun hc => ?_)
  · have hc1 : ¬ ((f_M_isIn s x1 97 122) = (0)) := of_decide_eq_true hc
    rw [if_neg hc1] at h
    refine px_D_st 2 (ip1 := 15) (ls1 := [(0, .inr (.inr 150)), (1, .inl (x1))]) (st1 := [.inl (1)]) (h1 := (px_G1, s)) rfl ?_
    subst h
    exact px_D_iret rfl rfl ⟨rfl, rfl⟩
  · have hc1 : (f_M_isIn s x1 97 122) = (0) := Decidable.of_not_not (of_decide_eq_false hc)
    rw [if_pos hc1] at h
    refine px_D_st 4 (ip1 := 10) (ls1 := [(0, .inr (.inr 150)), (1, .inl (x1))]) (st1 := [.inl (90), .inl (65), .inl (x1), .inr (.inr 150)]) (h1 := (px_G1, s)) rfl ?_
    refine px_D_call (as := [.inr (.inr 150), .inl (x1), .inl (65), .inl (90)]) (rest := []) rfl rfl rfl rfl ?_
    refine px_D_mono (c_M_isIn (d := d + 0) rfl) ?_
    rintro _ _ ⟨rfl, rfl⟩
    show px_D sc (d + 1) 170 11 [(0, .inr (.inr 150)), (1, .inl (x1))] [.inl (f_M_isIn s x1 65 90)] (px_G1, s) _
    refine px_D_ifc rfl (fun hc => ?_) (fun hc => ?_)
    · have hc2 : (f_M_isIn s x1 65 90) = (0) := of_decide_eq_true hc
      rw [if_pos hc2] at h
      refine px_D_st 1 (ip1 := 15) (ls1 := [(0, .inr (.inr 150)), (1, .inl (x1))]) (st1 := [.inl (0)]) (h1 := (px_G1, s)) rfl ?_
      subst h
      exact px_D_iret rfl rfl ⟨rfl, rfl⟩
    · have hc2 : ¬ ((f_M_isIn s x1 65 90) = (0)) := of_decide_eq_false hc
      rw [if_neg hc2] at h
      refine px_D_st 2 (ip1 := 15) (ls1 := [(0, .inr (.inr 150)), (1, .inl (x1))]) (st1 := [.inl (1)]) (h1 := (px_G1, s)) rfl ?_
      subst h
      exact px_D_iret rfl rfl ⟨rfl, rfl⟩
set_option maxHeartbeats 4000000 in
set_option maxRecDepth 100000 in
theorem bz_M_isLetter {s : px_Z} {x1 : Int} : f_M_isLetter s x1 = 0 ∨ f_M_isLetter s x1 = 1 := by
  unfold f_M_isLetter
  repeat' split
  all_goals first | exact Or.inl rfl | exact Or.inr rfl | exact Or.inl rfl | exact bz_M_isIn

def f_M_isDigit (s : px_Z) (x1 : Int) : Int := f_M_isIn s x1 48 57
set_option maxHeartbeats 4000000 in
set_option maxRecDepth 100000 in
theorem c_M_isDigit {sc : List Int} {d : Nat} {s : px_Z} {x1 : Int} {out : Int} (h : f_M_isDigit s x1 = out) : px_D sc (d + 1) 171 0 [(0, .inr (.inr 150)), (1, .inl (x1))] [] (px_G1, s) (px_Qp s out) := by
  unfold f_M_isDigit at h
  refine px_D_st 4 (ip1 := 4) (ls1 := [(0, .inr (.inr 150)), (1, .inl (x1))]) (st1 := [.inl (57), .inl (48), .inl (x1), .inr (.inr 150)]) (h1 := (px_G1, s)) rfl ?_
  refine px_D_call (as := [.inr (.inr 150), .inl (x1), .inl (48), .inl (57)]) (rest := []) rfl rfl rfl rfl ?_
  refine px_D_mono (c_M_isIn (d := d + 0) rfl) ?_
  rintro _ _ ⟨rfl, rfl⟩
  show px_D sc (d + 1) 171 5 [(0, .inr (.inr 150)), (1, .inl (x1))] [.inl (f_M_isIn s x1 48 57)] (px_G1, s) _
  subst h
  exact px_D_iret rfl (px_bz (bz_M_isIn)) ⟨rfl, rfl⟩
set_option maxHeartbeats 4000000 in
set_option maxRecDepth 100000 in
theorem bz_M_isDigit {s : px_Z} {x1 : Int} : f_M_isDigit s x1 = 0 ∨ f_M_isDigit s x1 = 1 := by
  unfold f_M_isDigit
  repeat' split
  all_goals first | exact Or.inl rfl | exact Or.inr rfl | exact Or.inl rfl | exact bz_M_isIn

def f_M_isMarkSign (s : px_Z) (x1 : Int) : Int := if (x1) = (59) then 1 else (if (x1) = (43) then 1 else (if (x1) = (45) then 1 else (if (x1) = (42) then 1 else (if (x1) = (47) then 1 else (if (x1) = (40) then 1 else (if (x1) = (41) then 1 else (if (x1) = (60) then 1 else (if (x1) = (61) then 1 else (if (x1) = (62) then 1 else 0)))))))))
set_option maxHeartbeats 4000000 in
set_option maxRecDepth 100000 in
theorem c_M_isMarkSign {sc : List Int} {d : Nat} {s : px_Z} {x1 : Int} {out : Int} (h : f_M_isMarkSign s x1 = out) : px_D sc (d + 0) 172 0 [(0, .inr (.inr 150)), (1, .inl (x1))] [] (px_G1, s) (px_Qp s out) := by
  unfold f_M_isMarkSign at h
  refine px_D_st 2 (ip1 := 2) (ls1 := [(0, .inr (.inr 150)), (1, .inl (x1))]) (st1 := [.inl (59), .inl (x1)]) (h1 := (px_G1, s)) rfl ?_
  refine px_D_icmp rfl (fun hc => ?_) (fun hc => ?_)
  · have hc1 : (x1) = (59) := of_decide_eq_true hc
    rw [if_pos hc1] at h
    refine px_D_st 2 (ip1 := 33) (ls1 := [(0, .inr (.inr 150)), (1, .inl (x1))]) (st1 := [.inl (1)]) (h1 := (px_G1, s)) rfl ?_
    subst h
    exact px_D_iret rfl rfl ⟨rfl, rfl⟩
  · have hc1 : ¬ ((x1) = (59)) := of_decide_eq_false hc
    rw [if_neg hc1] at h
    refine px_D_st 2 (ip1 := 5) (ls1 := [(0, .inr (.inr 150)), (1, .inl (x1))]) (st1 := [.inl (43), .inl (x1)]) (h1 := (px_G1, s)) rfl ?_
    refine px_D_icmp rfl (fun hc => ?_) (fun hc => ?_)
    · have hc2 : (x1) = (43) := of_decide_eq_true hc
      rw [if_pos hc2] at h
      refine px_D_st 2 (ip1 := 33) (ls1 := [(0, .inr (.inr 150)), (1, .inl (x1))]) (st1 := [.inl (1)]) (h1 := (px_G1, s)) rfl ?_
      subst h
      exact px_D_iret rfl rfl ⟨rfl, rfl⟩
    · have hc2 : ¬ ((x1) = (43)) := of_decide_eq_false hc
      rw [if_neg hc2] at h
      refine px_D_st 2 (ip1 := 8) (ls1 := [(0, .inr (.inr 150)), (1, .inl (x1))]) (st1 := [.inl (45), .inl (x1)]) (h1 := (px_G1, s)) rfl ?_
      refine px_D_icmp rfl (fun hc => ?_) (fun hc => ?_)
      · have hc3 : (x1) = (45) := of_decide_eq_true hc
        rw [if_pos hc3] at h
        refine px_D_st 2 (ip1 := 33) (ls1 := [(0, .inr (.inr 150)), (1, .inl (x1))]) (st1 := [.inl (1)]) (h1 := (px_G1, s)) rfl ?_
        subst h
        exact px_D_iret rfl rfl ⟨rfl, rfl⟩
      · have hc3 : ¬ ((x1) = (45)) := of_decide_eq_false hc
        rw [if_neg hc3] at h
        refine px_D_st 2 (ip1 := 11) (ls1 := [(0, .inr (.inr 150)), (1, .inl (x1))]) (st1 := [.inl (42), .inl (x1)]) (h1 := (px_G1, s)) rfl ?_
        refine px_D_icmp rfl (fun hc => ?_) (fun hc => ?_)
        · have hc4 : (x1) = (42) := of_decide_eq_true hc
          rw [if_pos hc4] at h
          refine px_D_st 2 (ip1 := 33) (ls1 := [(0, .inr (.inr 150)), (1, .inl (x1))]) (st1 := [.inl (1)]) (h1 := (px_G1, s)) rfl ?_
          subst h
          exact px_D_iret rfl rfl ⟨rfl, rfl⟩
        · have hc4 : ¬ ((x1) = (42)) := of_decide_eq_false hc
          rw [if_neg hc4] at h
          refine px_D_st 2 (ip1 := 14) (ls1 := [(0, .inr (.inr 150)), (1, .inl (x1))]) (st1 := [.inl (47), .inl (x1)]) (h1 := (px_G1, s)) rfl ?_
          refine px_D_icmp rfl (fun hc => ?_) (fun hc => ?_)
          · have hc5 : (x1) = (47) := of_decide_eq_true hc
            rw [if_pos hc5] at h
            refine px_D_st 2 (ip1 := 33) (ls1 := [(0, .inr (.inr 150)), (1, .inl (x1))]) (st1 := [.inl (1)]) (h1 := (px_G1, s)) rfl ?_
            subst h
            exact px_D_iret rfl rfl ⟨rfl, rfl⟩
          · have hc5 : ¬ ((x1) = (47)) := of_decide_eq_false hc
            rw [if_neg hc5] at h
            refine px_D_st 2 (ip1 := 17) (ls1 := [(0, .inr (.inr 150)), (1, .inl (x1))]) (st1 := [.inl (40), .inl (x1)]) (h1 := (px_G1, s)) rfl ?_
            refine px_D_icmp rfl (fun hc => ?_) (fun hc => ?_)
            · have hc6 : (x1) = (40) := of_decide_eq_true hc
              rw [if_pos hc6] at h
              refine px_D_st 2 (ip1 := 33) (ls1 := [(0, .inr (.inr 150)), (1, .inl (x1))]) (st1 := [.inl (1)]) (h1 := (px_G1, s)) rfl ?_
              subst h
              exact px_D_iret rfl rfl ⟨rfl, rfl⟩
            · have hc6 : ¬ ((x1) = (40)) := of_decide_eq_false hc
              rw [if_neg hc6] at h
              refine px_D_st 2 (ip1 := 20) (ls1 := [(0, .inr (.inr 150)), (1, .inl (x1))]) (st1 := [.inl (41), .inl (x1)]) (h1 := (px_G1, s)) rfl ?_
              refine px_D_icmp rfl (fun hc => ?_) (fun hc => ?_)
              · have hc7 : (x1) = (41) := of_decide_eq_true hc
                rw [if_pos hc7] at h
                refine px_D_st 2 (ip1 := 33) (ls1 := [(0, .inr (.inr 150)), (1, .inl (x1))]) (st1 := [.inl (1)]) (h1 := (px_G1, s)) rfl ?_
                subst h
                exact px_D_iret rfl rfl ⟨rfl, rfl⟩
              · have hc7 : ¬ ((x1) = (41)) := of_decide_eq_false hc
                rw [if_neg hc7] at h
                refine px_D_st 2 (ip1 := 23) (ls1 := [(0, .inr (.inr 150)), (1, .inl (x1))]) (st1 := [.inl (60), .inl (x1)]) (h1 := (px_G1, s)) rfl ?_
                refine px_D_icmp rfl (fun hc => ?_) (fun hc => ?_)
                · have hc8 : (x1) = (60) := of_decide_eq_true hc
                  rw [if_pos hc8] at h
                  refine px_D_st 2 (ip1 := 33) (ls1 := [(0, .inr (.inr 150)), (1, .inl (x1))]) (st1 := [.inl (1)]) (h1 := (px_G1, s)) rfl ?_
                  subst h
                  exact px_D_iret rfl rfl ⟨rfl, rfl⟩
                · have hc8 : ¬ ((x1) = (60)) := of_decide_eq_false hc
                  rw [if_neg hc8] at h
                  refine px_D_st 2 (ip1 := 26) (ls1 := [(0, .inr (.inr 150)), (1, .inl (x1))]) (st1 := [.inl (61), .inl (x1)]) (h1 := (px_G1, s)) rfl ?_
                  refine px_D_icmp rfl (fun hc => ?_) (fun hc => ?_)
                  · have hc9 : (x1) = (61) := of_decide_eq_true hc
                    rw [if_pos hc9] at h
                    refine px_D_st 2 (ip1 := 33) (ls1 := [(0, .inr (.inr 150)), (1, .inl (x1))]) (st1 := [.inl (1)]) (h1 := (px_G1, s)) rfl ?_
                    subst h
                    exact px_D_iret rfl rfl ⟨rfl, rfl⟩
                  · have hc9 : ¬ ((x1) = (61)) := of_decide_eq_false hc
                    rw [if_neg hc9] at h
                    refine px_D_st 2 (ip1 := 29) (ls1 := [(0, .inr (.inr 150)), (1, .inl (x1))]) (st1 := [.inl (62), .inl (x1)]) (h1 := (px_G1, s)) rfl ?_
                    refine px_D_icmp rfl (fun hc => ?_) (fun hc => ?_)
                    · have hc10 : ¬ ((x1) = (62)) := of_decide_eq_true hc
                      rw [if_neg hc10] at h
                      refine px_D_st 1 (ip1 := 33) (ls1 := [(0, .inr (.inr 150)), (1, .inl (x1))]) (st1 := [.inl (0)]) (h1 := (px_G1, s)) rfl ?_
                      subst h
                      exact px_D_iret rfl rfl ⟨rfl, rfl⟩
                    · have hc10 : (x1) = (62) := Decidable.of_not_not (of_decide_eq_false hc)
                      rw [if_pos hc10] at h
                      refine px_D_st 2 (ip1 := 33) (ls1 := [(0, .inr (.inr 150)), (1, .inl (x1))]) (st1 := [.inl (1)]) (h1 := (px_G1, s)) rfl ?_
                      subst h
                      exact px_D_iret rfl rfl ⟨rfl, rfl⟩
set_option maxHeartbeats 4000000 in
set_option maxRecDepth 100000 in
theorem bz_M_isMarkSign {s : px_Z} {x1 : Int} : f_M_isMarkSign s x1 = 0 ∨ f_M_isMarkSign s x1 = 1 := by
  unfold f_M_isMarkSign
  repeat' split
  all_goals first | exact Or.inl rfl | exact Or.inr rfl | exact Or.inl rfl

def l_M_wordAt_13 (s : px_Z) (k38 : Int → Int → Int → Int → Int → Option (Int)) : Nat → Int → Int → Int → Int → Int → Option (Int)
  | 0, _, _, _, _, _ => none
  | n + 1, x1, x2, x3, x4, x5 => if (x2) ≤ (px_wr (x1 + x5)) then k38 x1 x2 x3 x4 x5 else (if 0 ≤ (px_wr ((px_wr (x4 + 1)) + x5)) ∧ (px_wr ((px_wr (x4 + 1)) + x5)) < 139 then if 0 ≤ (px_wr (x1 + x5)) ∧ (px_wr (x1 + x5)) < 400 then if (s 157 (px_wr ((px_wr (x4 + 1)) + x5)).toNat) = (s 156 (px_wr (x1 + x5)).toNat) then l_M_wordAt_13 s k38 n x1 x2 x3 x4 (px_wr (x5 + 1)) else k38 x1 x2 x3 x4 x5 else none else none)
set_option maxHeartbeats 4000000 in
set_option maxRecDepth 100000 in
theorem cl_M_wordAt_13 {sc : List Int} {d : Nat} {s : px_Z} {k38 : Int → Int → Int → Int → Int → Option (Int)}  (hk38 : ∀ (y1 : Int) (y2 : Int) (y3 : Int) (y4 : Int) (y5 : Int) (out : Int), k38 y1 y2 y3 y4 y5 = some out → px_D sc (d + 0) 173 38 [(0, .inr (.inr 150)), (1, .inl (y1)), (2, .inl (y2)), (3, .inl (y3)), (4, .inl (y4)), (5, .inl (y5))] [] (px_G1, s) (px_Qp s out)) : ∀ (n : Nat) (x1 : Int) (x2 : Int) (x3 : Int) (x4 : Int) (x5 : Int) (out : Int), l_M_wordAt_13 s k38 n x1 x2 x3 x4 x5 = some out → px_D sc (d + 0) 173 13 [(0, .inr (.inr 150)), (1, .inl (x1)), (2, .inl (x2)), (3, .inl (x3)), (4, .inl (x4)), (5, .inl (x5))] [] (px_G1, s) (px_Qp s out) := by
  intro n
  induction n with
  | zero => intro x1 x2 x3 x4 x5 out h; cases h
  | succ n ih =>
    intro x1 x2 x3 x4 x5 out h
    rw [l_M_wordAt_13] at h
    refine px_D_st 4 (ip1 := 17) (ls1 := [(0, .inr (.inr 150)), (1, .inl (x1)), (2, .inl (x2)), (3, .inl (x3)), (4, .inl (x4)), (5, .inl (x5))]) (st1 := [.inl (x2), .inl (px_wr (x1 + x5))]) (h1 := (px_G1, s)) rfl ?_
    refine px_D_icmp rfl (fun hc => ?_) (fun hc => ?_)
    · have hc2 : (x2) ≤ (px_wr (x1 + x5)) := of_decide_eq_true hc
      rw [if_pos hc2] at h
      refine px_D_ls [(0, .inr (.inr 150)), (1, .inl (x1)), (2, .inl (x2)), (3, .inl (x3)), (4, .inl (x4)), (5, .inl (x5))] rfl rfl (List.forall_mem_cons.mpr ⟨rfl, List.forall_mem_cons.mpr ⟨rfl, List.forall_mem_cons.mpr ⟨rfl, List.forall_mem_cons.mpr ⟨rfl, List.forall_mem_cons.mpr ⟨rfl, List.forall_mem_cons.mpr ⟨rfl, fun _ h => absurd h List.not_mem_nil⟩⟩⟩⟩⟩⟩) ?_
      exact hk38 _ _ _ _ _ _ h
    · have hc2 : ¬ ((x2) ≤ (px_wr (x1 + x5))) := of_decide_eq_false hc
      rw [if_neg hc2] at h
      refine px_D_st 7 (ip1 := 25) (ls1 := [(0, .inr (.inr 150)), (1, .inl (x1)), (2, .inl (x2)), (3, .inl (x3)), (4, .inl (x4)), (5, .inl (x5))]) (st1 := [.inl (px_wr ((px_wr (x4 + 1)) + x5)), .inr (.inr 157)]) (h1 := (px_G1, s)) rfl ?_
      by_cases hc3 : 0 ≤ (px_wr ((px_wr (x4 + 1)) + x5)) ∧ (px_wr ((px_wr (x4 + 1)) + x5)) < 139
      case neg => rw [if_neg hc3] at h; cases h
      rw [if_pos hc3] at h
      refine px_D_iald (k := 152) (n := 139) rfl rfl hc3 ?_
      refine px_D_st 5 (ip1 := 31) (ls1 := [(0, .inr (.inr 150)), (1, .inl (x1)), (2, .inl (x2)), (3, .inl (x3)), (4, .inl (x4)), (5, .inl (x5))]) (st1 := [.inl (px_wr (x1 + x5)), .inr (.inr 156), .inl (s 157 (px_wr ((px_wr (x4 + 1)) + x5)).toNat)]) (h1 := (px_G1, s)) rfl ?_
      by_cases hc4 : 0 ≤ (px_wr (x1 + x5)) ∧ (px_wr (x1 + x5)) < 400
      case neg => rw [if_neg hc4] at h; cases h
      rw [if_pos hc4] at h
      refine px_D_iald (k := 151) (n := 400) rfl rfl hc4 ?_
      refine px_D_icmp rfl (fun hc => ?_) (fun hc => ?_)
      · have hc5 : ¬ ((s 157 (px_wr ((px_wr (x4 + 1)) + x5)).toNat) = (s 156 (px_wr (x1 + x5)).toNat)) := of_decide_eq_true hc
        rw [if_neg hc5] at h
        refine px_D_ls [(0, .inr (.inr 150)), (1, .inl (x1)), (2, .inl (x2)), (3, .inl (x3)), (4, .inl (x4)), (5, .inl (x5))] rfl rfl (List.forall_mem_cons.mpr ⟨rfl, List.forall_mem_cons.mpr ⟨rfl, List.forall_mem_cons.mpr ⟨rfl, List.forall_mem_cons.mpr ⟨rfl, List.forall_mem_cons.mpr ⟨rfl, List.forall_mem_cons.mpr ⟨rfl, fun _ h => absurd h List.not_mem_nil⟩⟩⟩⟩⟩⟩) ?_
        exact hk38 _ _ _ _ _ _ h
      · have hc5 : (s 157 (px_wr ((px_wr (x4 + 1)) + x5)).toNat) = (s 156 (px_wr (x1 + x5)).toNat) := Decidable.of_not_not (of_decide_eq_false hc)
        rw [if_pos hc5] at h
        refine px_D_st 5 (ip1 := 13) (ls1 := [(5, .inl (px_wr (x5 + 1))), (0, .inr (.inr 150)), (1, .inl (x1)), (2, .inl (x2)), (3, .inl (x3)), (4, .inl (x4))]) (st1 := []) (h1 := (px_G1, s)) rfl ?_
        refine px_D_ls [(0, .inr (.inr 150)), (1, .inl (x1)), (2, .inl (x2)), (3, .inl (x3)), (4, .inl (x4)), (5, .inl (px_wr (x5 + 1)))] rfl rfl (List.forall_mem_cons.mpr ⟨rfl, List.forall_mem_cons.mpr ⟨rfl, List.forall_mem_cons.mpr ⟨rfl, List.forall_mem_cons.mpr ⟨rfl, List.forall_mem_cons.mpr ⟨rfl, List.forall_mem_cons.mpr ⟨rfl, fun _ h => absurd h List.not_mem_nil⟩⟩⟩⟩⟩⟩) ?_
        exact ih _ _ _ _ _ _ h
def l_M_wordAt_59 (s : px_Z) (k70 : Int → Int → Int → Int → Option (Int)) : Nat → Int → Int → Int → Int → Option (Int)
  | 0, _, _, _, _ => none
  | n + 1, x1, x2, x3, x4 => if 0 ≤ (x4) ∧ (x4) < 139 then if (s 157 x4.toNat) = (32) then k70 x1 x2 x3 x4 else l_M_wordAt_59 s k70 n x1 x2 x3 (px_wr (x4 + 1)) else none
set_option maxHeartbeats 4000000 in
set_option maxRecDepth 100000 in
theorem cl_M_wordAt_59 {sc : List Int} {d : Nat} {s : px_Z} {k70 : Int → Int → Int → Int → Option (Int)}  (hk70 : ∀ (y1 : Int) (y2 : Int) (y3 : Int) (y4 : Int) (out : Int), k70 y1 y2 y3 y4 = some out → px_D sc (d + 0) 173 70 [(0, .inr (.inr 150)), (1, .inl (y1)), (2, .inl (y2)), (3, .inl (y3)), (4, .inl (y4))] [] (px_G1, s) (px_Qp s out)) : ∀ (n : Nat) (x1 : Int) (x2 : Int) (x3 : Int) (x4 : Int) (out : Int), l_M_wordAt_59 s k70 n x1 x2 x3 x4 = some out → px_D sc (d + 0) 173 59 [(0, .inr (.inr 150)), (1, .inl (x1)), (2, .inl (x2)), (3, .inl (x3)), (4, .inl (x4))] [] (px_G1, s) (px_Qp s out) := by
  intro n
  induction n with
  | zero => intro x1 x2 x3 x4 out h; cases h
  | succ n ih =>
    intro x1 x2 x3 x4 out h
    rw [l_M_wordAt_59] at h
    refine px_D_st 3 (ip1 := 62) (ls1 := [(0, .inr (.inr 150)), (1, .inl (x1)), (2, .inl (x2)), (3, .inl (x3)), (4, .inl (x4))]) (st1 := [.inl (x4), .inr (.inr 157)]) (h1 := (px_G1, s)) rfl ?_
    by_cases hc7 : 0 ≤ (x4) ∧ (x4) < 139
    case neg => rw [if_neg hc7] at h; cases h
    rw [if_pos hc7] at h
    refine px_D_iald (k := 152) (n := 139) rfl rfl hc7 ?_
    refine px_D_st 1 (ip1 := 64) (ls1 := [(0, .inr (.inr 150)), (1, .inl (x1)), (2, .inl (x2)), (3, .inl (x3)), (4, .inl (x4))]) (st1 := [.inl (32), .inl (s 157 x4.toNat)]) (h1 := (px_G1, s)) rfl ?_
    refine px_D_icmp rfl (fun hc => ?_) (fun hc => ?_)
    · have hc8 : (s 157 x4.toNat) = (32) := of_decide_eq_true hc
      rw [if_pos hc8] at h
      refine px_D_ls [(0, .inr (.inr 150)), (1, .inl (x1)), (2, .inl (x2)), (3, .inl (x3)), (4, .inl (x4))] rfl rfl (List.forall_mem_cons.mpr ⟨rfl, List.forall_mem_cons.mpr ⟨rfl, List.forall_mem_cons.mpr ⟨rfl, List.forall_mem_cons.mpr ⟨rfl, List.forall_mem_cons.mpr ⟨rfl, fun _ h => absurd h List.not_mem_nil⟩⟩⟩⟩⟩) ?_
      exact hk70 _ _ _ _ _ h
    · have hc8 : ¬ ((s 157 x4.toNat) = (32)) := of_decide_eq_false hc
      rw [if_neg hc8] at h
      refine px_D_st 5 (ip1 := 59) (ls1 := [(4, .inl (px_wr (x4 + 1))), (0, .inr (.inr 150)), (1, .inl (x1)), (2, .inl (x2)), (3, .inl (x3))]) (st1 := []) (h1 := (px_G1, s)) rfl ?_
      refine px_D_ls [(0, .inr (.inr 150)), (1, .inl (x1)), (2, .inl (x2)), (3, .inl (x3)), (4, .inl (px_wr (x4 + 1)))] rfl rfl (List.forall_mem_cons.mpr ⟨rfl, List.forall_mem_cons.mpr ⟨rfl, List.forall_mem_cons.mpr ⟨rfl, List.forall_mem_cons.mpr ⟨rfl, List.forall_mem_cons.mpr ⟨rfl, fun _ h => absurd h List.not_mem_nil⟩⟩⟩⟩⟩) ?_
      exact ih _ _ _ _ _ h
def l_M_wordAt_4 (s : px_Z)  : Nat → Int → Int → Int → Int → Option (Int)
  | 0, _, _, _, _ => none
  | n + 1, x1, x2, x3, x4 => if (138) ≤ (x4) then some (-1) else l_M_wordAt_13 s (fun x1 x2 x3 x4 x5 => if (px_wr (x1 + x5)) = (x2) then (if 0 ≤ (px_wr ((px_wr (x4 + 1)) + x5)) ∧ (px_wr ((px_wr (x4 + 1)) + x5)) < 139 then if (s 157 (px_wr ((px_wr (x4 + 1)) + x5)).toNat) = (32) then some x3 else l_M_wordAt_59 s (fun x1 x2 x3 x4 => l_M_wordAt_4 s  n x1 x2 x3 x4) px_big x1 x2 x3 (px_wr (x4 + 1)) else none) else l_M_wordAt_59 s (fun x1 x2 x3 x4 => l_M_wordAt_4 s  n x1 x2 x3 x4) px_big x1 x2 x3 (px_wr (x4 + 1))) px_big x1 x2 (px_wr (x3 + 1)) x4 0
set_option maxHeartbeats 4000000 in
set_option maxRecDepth 100000 in
theorem cl_M_wordAt_4 {sc : List Int} {d : Nat} {s : px_Z}  : ∀ (n : Nat) (x1 : Int) (x2 : Int) (x3 : Int) (x4 : Int) (out : Int), l_M_wordAt_4 s  n x1 x2 x3 x4 = some out → px_D sc (d + 0) 173 4 [(0, .inr (.inr 150)), (1, .inl (x1)), (2, .inl (x2)), (3, .inl (x3)), (4, .inl (x4))] [] (px_G1, s) (px_Qp s out) := by
  intro n
  induction n with
  | zero => intro x1 x2 x3 x4 out h; cases h
  | succ n ih =>
    intro x1 x2 x3 x4 out h
    rw [l_M_wordAt_4] at h
    refine px_D_st 2 (ip1 := 6) (ls1 := [(0, .inr (.inr 150)), (1, .inl (x1)), (2, .inl (x2)), (3, .inl (x3)), (4, .inl (x4))]) (st1 := [.inl (138), .inl (x4)]) (h1 := (px_G1, s)) rfl ?_
    refine px_D_icmp rfl (fun hc => ?_) (fun hc => ?_)
    · have hc1 : (138) ≤ (x4) := of_decide_eq_true hc
      rw [if_pos hc1] at h
      refine px_D_st 1 (ip1 := 72) (ls1 := [(0, .inr (.inr 150)), (1, .inl (x1)), (2, .inl (x2)), (3, .inl (x3)), (4, .inl (x4))]) (st1 := [.inl ((-1))]) (h1 := (px_G1, s)) rfl ?_
      cases h
      exact px_D_iret rfl rfl ⟨rfl, rfl⟩
    · have hc1 : ¬ ((138) ≤ (x4)) := of_decide_eq_false hc
      rw [if_neg hc1] at h
      refine px_D_st 6 (ip1 := 13) (ls1 := [(3, .inl (px_wr (x3 + 1))), (5, .inl (0)), (0, .inr (.inr 150)), (1, .inl (x1)), (2, .inl (x2)), (4, .inl (x4))]) (st1 := []) (h1 := (px_G1, s)) rfl ?_
      refine px_D_ls [(0, .inr (.inr 150)), (1, .inl (x1)), (2, .inl (x2)), (3, .inl (px_wr (x3 + 1))), (4, .inl (x4)), (5, .inl (0))] rfl rfl (List.forall_mem_cons.mpr ⟨rfl, List.forall_mem_cons.mpr ⟨rfl, List.forall_mem_cons.mpr ⟨rfl, List.forall_mem_cons.mpr ⟨rfl, List.forall_mem_cons.mpr ⟨rfl, List.forall_mem_cons.mpr ⟨rfl, fun _ h => absurd h List.not_mem_nil⟩⟩⟩⟩⟩⟩) ?_
      refine cl_M_wordAt_13 ?_ px_big _ _ _ _ _ _ h
      · intro x1 x2 x3 x4 x5 out h
        refine px_D_st 4 (ip1 := 42) (ls1 := [(0, .inr (.inr 150)), (1, .inl (x1)), (2, .inl (x2)), (3, .inl (x3)), (4, .inl (x4)), (5, .inl (x5))]) (st1 := [.inl (x2), .inl (px_wr (x1 + x5))]) (h1 := (px_G1, s)) rfl ?_
        refine px_D_icmp rfl (fun hc => ?_) (fun hc => ?_)
        · have hc6 : ¬ ((px_wr (x1 + x5)) = (x2)) := of_decide_eq_true hc
          rw [if_neg hc6] at h
          refine px_D_st 4 (ip1 := 59) (ls1 := [(4, .inl (px_wr (x4 + 1))), (0, .inr (.inr 150)), (1, .inl (x1)), (2, .inl (x2)), (3, .inl (x3)), (5, .inl (x5))]) (st1 := []) (h1 := (px_G1, s)) rfl ?_
          refine px_D_ls [(0, .inr (.inr 150)), (1, .inl (x1)), (2, .inl (x2)), (3, .inl (x3)), (4, .inl (px_wr (x4 + 1)))] rfl rfl (List.forall_mem_cons.mpr ⟨rfl, List.forall_mem_cons.mpr ⟨rfl, List.forall_mem_cons.mpr ⟨rfl, List.forall_mem_cons.mpr ⟨rfl, List.forall_mem_cons.mpr ⟨rfl, fun _ h => absurd h List.not_mem_nil⟩⟩⟩⟩⟩) ?_
          refine cl_M_wordAt_59 ?_ px_big _ _ _ _ _ h
          · intro x1 x2 x3 x4 out h
            refine px_D_st 1 (ip1 := 4) (ls1 := [(0, .inr (.inr 150)), (1, .inl (x1)), (2, .inl (x2)), (3, .inl (x3)), (4, .inl (x4))]) (st1 := []) (h1 := (px_G1, s)) rfl ?_
            refine px_D_ls [(0, .inr (.inr 150)), (1, .inl (x1)), (2, .inl (x2)), (3, .inl (x3)), (4, .inl (x4))] rfl rfl (List.forall_mem_cons.mpr ⟨rfl, List.forall_mem_cons.mpr ⟨rfl, List.forall_mem_cons.mpr ⟨rfl, List.forall_mem_cons.mpr ⟨rfl, List.forall_mem_cons.mpr ⟨rfl, fun _ h => absurd h List.not_mem_nil⟩⟩⟩⟩⟩) ?_
            exact ih _ _ _ _ _ h
        · have hc6 : (px_wr (x1 + x5)) = (x2) := Decidable.of_not_not (of_decide_eq_false hc)
          rw [if_pos hc6] at h
          refine px_D_st 7 (ip1 := 50) (ls1 := [(0, .inr (.inr 150)), (1, .inl (x1)), (2, .inl (x2)), (3, .inl (x3)), (4, .inl (x4)), (5, .inl (x5))]) (st1 := [.inl (px_wr ((px_wr (x4 + 1)) + x5)), .inr (.inr 157)]) (h1 := (px_G1, s)) rfl ?_
          by_cases hc9 : 0 ≤ (px_wr ((px_wr (x4 + 1)) + x5)) ∧ (px_wr ((px_wr (x4 + 1)) + x5)) < 139
          case neg => rw [if_neg hc9] at h; cases h
          rw [if_pos hc9] at h
          refine px_D_iald (k := 152) (n := 139) rfl rfl hc9 ?_
          refine px_D_st 1 (ip1 := 52) (ls1 := [(0, .inr (.inr 150)), (1, .inl (x1)), (2, .inl (x2)), (3, .inl (x3)), (4, .inl (x4)), (5, .inl (x5))]) (st1 := [.inl (32), .inl (s 157 (px_wr ((px_wr (x4 + 1)) + x5)).toNat)]) (h1 := (px_G1, s)) rfl ?_
          refine px_D_icmp rfl (fun hc => ?_) (fun hc => ?_)
          · have hc10 : ¬ ((s 157 (px_wr ((px_wr (x4 + 1)) + x5)).toNat) = (32)) := of_decide_eq_true hc
            rw [if_neg hc10] at h
            refine px_D_st 4 (ip1 := 59) (ls1 := [(4, .inl (px_wr (x4 + 1))), (0, .inr (.inr 150)), (1, .inl (x1)), (2, .inl (x2)), (3, .inl (x3)), (5, .inl (x5))]) (st1 := []) (h1 := (px_G1, s)) rfl ?_
            refine px_D_ls [(0, .inr (.inr 150)), (1, .inl (x1)), (2, .inl (x2)), (3, .inl (x3)), (4, .inl (px_wr (x4 + 1)))] rfl rfl (List.forall_mem_cons.mpr ⟨rfl, List.forall_mem_cons.mpr ⟨rfl, List.forall_mem_cons.mpr ⟨rfl, List.forall_mem_cons.mpr ⟨rfl, List.forall_mem_cons.mpr ⟨rfl, fun _ h => absurd h List.not_mem_nil⟩⟩⟩⟩⟩) ?_
            refine cl_M_wordAt_59 ?_ px_big _ _ _ _ _ h
            · intro x1 x2 x3 x4 out h
              refine px_D_st 1 (ip1 := 4) (ls1 := [(0, .inr (.inr 150)), (1, .inl (x1)), (2, .inl (x2)), (3, .inl (x3)), (4, .inl (x4))]) (st1 := []) (h1 := (px_G1, s)) rfl ?_
              refine px_D_ls [(0, .inr (.inr 150)), (1, .inl (x1)), (2, .inl (x2)), (3, .inl (x3)), (4, .inl (x4))] rfl rfl (List.forall_mem_cons.mpr ⟨rfl, List.forall_mem_cons.mpr ⟨rfl, List.forall_mem_cons.mpr ⟨rfl, List.forall_mem_cons.mpr ⟨rfl, List.forall_mem_cons.mpr ⟨rfl, fun _ h => absurd h List.not_mem_nil⟩⟩⟩⟩⟩) ?_
              exact ih _ _ _ _ _ h
          · have hc10 : (s 157 (px_wr ((px_wr (x4 + 1)) + x5)).toNat) = (32) := Decidable.of_not_not (of_decide_eq_false hc)
            rw [if_pos hc10] at h
            refine px_D_st 1 (ip1 := 54) (ls1 := [(0, .inr (.inr 150)), (1, .inl (x1)), (2, .inl (x2)), (3, .inl (x3)), (4, .inl (x4)), (5, .inl (x5))]) (st1 := [.inl (x3)]) (h1 := (px_G1, s)) rfl ?_
            cases h
            exact px_D_iret rfl rfl ⟨rfl, rfl⟩
def f_M_wordAt (s : px_Z) (x1 : Int) (x2 : Int) : Option (Int) := l_M_wordAt_4 s  px_big x1 x2 (-1) 0
set_option maxHeartbeats 4000000 in
set_option maxRecDepth 100000 in
theorem c_M_wordAt {sc : List Int} {d : Nat} {s : px_Z} {x1 : Int} {x2 : Int} {out : Int} (h : f_M_wordAt s x1 x2 = some out) : px_D sc (d + 0) 173 0 [(0, .inr (.inr 150)), (1, .inl (x1)), (2, .inl (x2))] [] (px_G1, s) (px_Qp s out) := by
  unfold f_M_wordAt at h
  refine px_D_st 4 (ip1 := 4) (ls1 := [(4, .inl (0)), (3, .inl ((-1))), (0, .inr (.inr 150)), (1, .inl (x1)), (2, .inl (x2))]) (st1 := []) (h1 := (px_G1, s)) rfl ?_
  refine px_D_ls [(0, .inr (.inr 150)), (1, .inl (x1)), (2, .inl (x2)), (3, .inl ((-1))), (4, .inl (0))] rfl rfl (List.forall_mem_cons.mpr ⟨rfl, List.forall_mem_cons.mpr ⟨rfl, List.forall_mem_cons.mpr ⟨rfl, List.forall_mem_cons.mpr ⟨rfl, List.forall_mem_cons.mpr ⟨rfl, fun _ h => absurd h List.not_mem_nil⟩⟩⟩⟩⟩) ?_
  refine cl_M_wordAt_4  px_big _ _ _ _ _ h

def l_M_reads_0 (k19 : px_Z → Option (px_Z)) : Nat → px_Z → Option (px_Z)
  | 0, _ => none
  | n + 1, s => (f_M_raw s (s 150 14)).bind (fun q1 => if (q1) = (32) then l_M_reads_0 k19 n (px_up s 150 14 (px_wr ((s 150 14) + 1)))  else (f_M_raw s (s 150 14)).bind (fun q3 => if (q3) = (10) then l_M_reads_0 k19 n (px_up s 150 14 (px_wr ((s 150 14) + 1)))  else k19 s ))
set_option maxHeartbeats 4000000 in
set_option maxRecDepth 100000 in
theorem cl_M_reads_0 {sc : List Int} {d : Nat} {k19 : px_Z → Option (px_Z)}  (hk19 : ∀ (s : px_Z) (out : px_Z), k19 s  = some out → px_D sc (d + 2) 174 19 [(0, .inr (.inr 150))] [] (px_G1, s) (px_Qv out)) : ∀ (n : Nat) (s : px_Z) (out : px_Z), l_M_reads_0 k19 n s  = some out → px_D sc (d + 2) 174 0 [(0, .inr (.inr 150))] [] (px_G1, s) (px_Qv out) := by
  intro n
  induction n with
  | zero => intro s out h; cases h
  | succ n ih =>
    intro s out h
    rw [l_M_reads_0] at h
    refine px_D_st 3 (ip1 := 3) (ls1 := [(0, .inr (.inr 150))]) (st1 := [.inl (s 150 14), .inr (.inr 150)]) (h1 := (px_G1, s)) rfl ?_
    refine px_D_call (as := [.inr (.inr 150), .inl (s 150 14)]) (rest := []) rfl rfl rfl rfl ?_
    obtain ⟨q1, hq1, h⟩ := Option.bind_eq_some_iff.mp h
    refine px_D_mono (c_M_raw (d := d + 1) hq1) ?_
    rintro _ _ ⟨rfl, rfl⟩
    show px_D sc (d + 2) 174 4 [(0, .inr (.inr 150))] [.inl (q1)] (px_G1, s) _
    refine px_D_st 1 (ip1 := 5) (ls1 := [(0, .inr (.inr 150))]) (st1 := [.inl (32), .inl (q1)]) (h1 := (px_G1, s)) rfl ?_
    refine px_D_icmp rfl (fun hc => ?_) (fun hc => ?_)
    · have hc2 : (q1) = (32) := of_decide_eq_true hc
      rw [if_pos hc2] at h
      refine px_D_st 7 (ip1 := 0) (ls1 := [(0, .inr (.inr 150))]) (st1 := []) (h1 := (px_G1, px_up s 150 14 (px_wr ((s 150 14) + 1)))) rfl ?_
      refine px_D_ls [(0, .inr (.inr 150))] rfl rfl (List.forall_mem_cons.mpr ⟨rfl, fun _ h => absurd h List.not_mem_nil⟩) ?_
      exact ih _ _ h
    · have hc2 : ¬ ((q1) = (32)) := of_decide_eq_false hc
      rw [if_neg hc2] at h
      refine px_D_st 3 (ip1 := 9) (ls1 := [(0, .inr (.inr 150))]) (st1 := [.inl (s 150 14), .inr (.inr 150)]) (h1 := (px_G1, s)) rfl ?_
      refine px_D_call (as := [.inr (.inr 150), .inl (s 150 14)]) (rest := []) rfl rfl rfl rfl ?_
      obtain ⟨q3, hq3, h⟩ := Option.bind_eq_some_iff.mp h
      refine px_D_mono (c_M_raw (d := d + 1) hq3) ?_
      rintro _ _ ⟨rfl, rfl⟩
      show px_D sc (d + 2) 174 10 [(0, .inr (.inr 150))] [.inl (q3)] (px_G1, s) _
      refine px_D_st 1 (ip1 := 11) (ls1 := [(0, .inr (.inr 150))]) (st1 := [.inl (10), .inl (q3)]) (h1 := (px_G1, s)) rfl ?_
      refine px_D_icmp rfl (fun hc => ?_) (fun hc => ?_)
      · have hc4 : ¬ ((q3) = (10)) := of_decide_eq_true hc
        rw [if_neg hc4] at h
        refine px_D_ls [(0, .inr (.inr 150))] rfl rfl (List.forall_mem_cons.mpr ⟨rfl, fun _ h => absurd h List.not_mem_nil⟩) ?_
        exact hk19 _ _ h
      · have hc4 : (q3) = (10) := Decidable.of_not_not (of_decide_eq_false hc)
        rw [if_pos hc4] at h
        refine px_D_st 7 (ip1 := 0) (ls1 := [(0, .inr (.inr 150))]) (st1 := []) (h1 := (px_G1, px_up s 150 14 (px_wr ((s 150 14) + 1)))) rfl ?_
        refine px_D_ls [(0, .inr (.inr 150))] rfl rfl (List.forall_mem_cons.mpr ⟨rfl, fun _ h => absurd h List.not_mem_nil⟩) ?_
        exact ih _ _ h
def l_M_reads_90 (k124 : px_Z → Option (px_Z)) : Nat → px_Z → Option (px_Z)
  | 0, _ => none
  | n + 1, s => (f_M_raw s (s 150 14)).bind (fun q10 => if (f_M_isDigit s q10) = (0) then k124 s  else (if (10000) ≤ (s 150 17) then l_M_reads_90 k124 n (px_up (px_up s 150 17 (s 150 17)) 150 14 (px_wr (((px_up s 150 17 (s 150 17)) 150 14) + 1)))  else (f_M_raw s (s 150 14)).bind (fun q13 => l_M_reads_90 k124 n (px_up (px_up s 150 17 (px_wr ((px_wr ((px_wr (10 * (s 150 17))) + q13)) - 48))) 150 14 (px_wr (((px_up s 150 17 (px_wr ((px_wr ((px_wr (10 * (s 150 17))) + q13)) - 48))) 150 14) + 1))) )))
set_option maxHeartbeats 4000000 in
set_option maxRecDepth 100000 in
theorem cl_M_reads_90 {sc : List Int} {d : Nat} {k124 : px_Z → Option (px_Z)}  (hk124 : ∀ (s : px_Z) (out : px_Z), k124 s  = some out → px_D sc (d + 2) 174 124 [(0, .inr (.inr 150))] [] (px_G1, s) (px_Qv out)) : ∀ (n : Nat) (s : px_Z) (out : px_Z), l_M_reads_90 k124 n s  = some out → px_D sc (d + 2) 174 90 [(0, .inr (.inr 150))] [] (px_G1, s) (px_Qv out) := by
  intro n
  induction n with
  | zero => intro s out h; cases h
  | succ n ih =>
    intro s out h
    rw [l_M_reads_90] at h
    refine px_D_st 4 (ip1 := 94) (ls1 := [(0, .inr (.inr 150))]) (st1 := [.inl (s 150 14), .inr (.inr 150), .inr (.inr 150)]) (h1 := (px_G1, s)) rfl ?_
    refine px_D_call (as := [.inr (.inr 150), .inl (s 150 14)]) (rest := [.inr (.inr 150)]) rfl rfl rfl rfl ?_
    obtain ⟨q10, hq10, h⟩ := Option.bind_eq_some_iff.mp h
    refine px_D_mono (c_M_raw (d := d + 1) hq10) ?_
    rintro _ _ ⟨rfl, rfl⟩
    show px_D sc (d + 2) 174 95 [(0, .inr (.inr 150))] [.inl (q10), .inr (.inr 150)] (px_G1, s) _
    refine px_D_call (as := [.inr (.inr 150), .inl (q10)]) (rest := []) rfl rfl rfl rfl ?_
    refine px_D_mono (c_M_isDigit (d := d + 0) rfl) ?_
    rintro _ _ ⟨rfl, rfl⟩
    show px_D sc (d + 2) 174 96 [(0, .inr (.inr 150))] [.inl (f_M_isDigit s q10)] (px_G1, s) _
    refine px_D_ifc rfl (fun hc => ?_) (fun hc => ?_)
    · have hc11 : (f_M_isDigit s q10) = (0) := of_decide_eq_true hc
      rw [if_pos hc11] at h
      refine px_D_ls [(0, .inr (.inr 150))] rfl rfl (List.forall_mem_cons.mpr ⟨rfl, fun _ h => absurd h List.not_mem_nil⟩) ?_
      exact hk124 _ _ h
    · have hc11 : ¬ ((f_M_isDigit s q10) = (0)) := of_decide_eq_false hc
      rw [if_neg hc11] at h
      refine px_D_st 4 (ip1 := 101) (ls1 := [(0, .inr (.inr 150))]) (st1 := [.inl (10000), .inl (s 150 17), .inr (.inr 150)]) (h1 := (px_G1, s)) rfl ?_
      refine px_D_icmp rfl (fun hc => ?_) (fun hc => ?_)
      · have hc12 : (10000) ≤ (s 150 17) := of_decide_eq_true hc
        rw [if_pos hc12] at h
        refine px_D_st 10 (ip1 := 90) (ls1 := [(0, .inr (.inr 150))]) (st1 := []) (h1 := (px_G1, px_up (px_up s 150 17 (s 150 17)) 150 14 (px_wr (((px_up s 150 17 (s 150 17)) 150 14) + 1)))) rfl ?_
        refine px_D_ls [(0, .inr (.inr 150))] rfl rfl (List.forall_mem_cons.mpr ⟨rfl, fun _ h => absurd h List.not_mem_nil⟩) ?_
        exact ih _ _ h
      · have hc12 : ¬ ((10000) ≤ (s 150 17)) := of_decide_eq_false hc
        rw [if_neg hc12] at h
        refine px_D_st 7 (ip1 := 109) (ls1 := [(0, .inr (.inr 150))]) (st1 := [.inl (s 150 14), .inr (.inr 150), .inl (px_wr (10 * (s 150 17))), .inr (.inr 150)]) (h1 := (px_G1, s)) rfl ?_
        refine px_D_call (as := [.inr (.inr 150), .inl (s 150 14)]) (rest := [.inl (px_wr (10 * (s 150 17))), .inr (.inr 150)]) rfl rfl rfl rfl ?_
        obtain ⟨q13, hq13, h⟩ := Option.bind_eq_some_iff.mp h
        refine px_D_mono (c_M_raw (d := d + 1) hq13) ?_
        rintro _ _ ⟨rfl, rfl⟩
        show px_D sc (d + 2) 174 110 [(0, .inr (.inr 150))] [.inl (q13), .inl (px_wr (10 * (s 150 17))), .inr (.inr 150)] (px_G1, s) _
        refine px_D_st 12 (ip1 := 90) (ls1 := [(0, .inr (.inr 150))]) (st1 := []) (h1 := (px_G1, px_up (px_up s 150 17 (px_wr ((px_wr ((px_wr (10 * (s 150 17))) + q13)) - 48))) 150 14 (px_wr (((px_up s 150 17 (px_wr ((px_wr ((px_wr (10 * (s 150 17))) + q13)) - 48))) 150 14) + 1)))) rfl ?_
        refine px_D_ls [(0, .inr (.inr 150))] rfl rfl (List.forall_mem_cons.mpr ⟨rfl, fun _ h => absurd h List.not_mem_nil⟩) ?_
        exact ih _ _ h
def l_M_reads_51 (k65 : px_Z → Option (px_Z)) : Nat → px_Z → Option (px_Z)
  | 0, _ => none
  | n + 1, s => (f_M_raw s (s 150 14)).bind (fun q15 => if (f_M_isLetter s q15) = (0) then k65 s  else l_M_reads_51 k65 n (px_up s 150 14 (px_wr ((s 150 14) + 1))) )
set_option maxHeartbeats 4000000 in
set_option maxRecDepth 100000 in
theorem cl_M_reads_51 {sc : List Int} {d : Nat} {k65 : px_Z → Option (px_Z)}  (hk65 : ∀ (s : px_Z) (out : px_Z), k65 s  = some out → px_D sc (d + 2) 174 65 [(0, .inr (.inr 150))] [] (px_G1, s) (px_Qv out)) : ∀ (n : Nat) (s : px_Z) (out : px_Z), l_M_reads_51 k65 n s  = some out → px_D sc (d + 2) 174 51 [(0, .inr (.inr 150))] [] (px_G1, s) (px_Qv out) := by
  intro n
  induction n with
  | zero => intro s out h; cases h
  | succ n ih =>
    intro s out h
    rw [l_M_reads_51] at h
    refine px_D_st 4 (ip1 := 55) (ls1 := [(0, .inr (.inr 150))]) (st1 := [.inl (s 150 14), .inr (.inr 150), .inr (.inr 150)]) (h1 := (px_G1, s)) rfl ?_
    refine px_D_call (as := [.inr (.inr 150), .inl (s 150 14)]) (rest := [.inr (.inr 150)]) rfl rfl rfl rfl ?_
    obtain ⟨q15, hq15, h⟩ := Option.bind_eq_some_iff.mp h
    refine px_D_mono (c_M_raw (d := d + 1) hq15) ?_
    rintro _ _ ⟨rfl, rfl⟩
    show px_D sc (d + 2) 174 56 [(0, .inr (.inr 150))] [.inl (q15), .inr (.inr 150)] (px_G1, s) _
    refine px_D_call (as := [.inr (.inr 150), .inl (q15)]) (rest := []) rfl rfl rfl rfl ?_
    refine px_D_mono (c_M_isLetter (d := d + 0) rfl) ?_
    rintro _ _ ⟨rfl, rfl⟩
    show px_D sc (d + 2) 174 57 [(0, .inr (.inr 150))] [.inl (f_M_isLetter s q15)] (px_G1, s) _
    refine px_D_ifc rfl (fun hc => ?_) (fun hc => ?_)
    · have hc16 : (f_M_isLetter s q15) = (0) := of_decide_eq_true hc
      rw [if_pos hc16] at h
      refine px_D_ls [(0, .inr (.inr 150))] rfl rfl (List.forall_mem_cons.mpr ⟨rfl, fun _ h => absurd h List.not_mem_nil⟩) ?_
      exact hk65 _ _ h
    · have hc16 : ¬ ((f_M_isLetter s q15) = (0)) := of_decide_eq_false hc
      rw [if_neg hc16] at h
      refine px_D_st 7 (ip1 := 51) (ls1 := [(0, .inr (.inr 150))]) (st1 := []) (h1 := (px_G1, px_up s 150 14 (px_wr ((s 150 14) + 1)))) rfl ?_
      refine px_D_ls [(0, .inr (.inr 150))] rfl rfl (List.forall_mem_cons.mpr ⟨rfl, fun _ h => absurd h List.not_mem_nil⟩) ?_
      exact ih _ _ h
def f_M_reads (s : px_Z) : Option (px_Z) := l_M_reads_0 (fun s => (f_M_raw (px_up (px_up s 150 15 (s 150 14)) 150 16 1) ((px_up (px_up s 150 15 (s 150 14)) 150 16 1) 150 14)).bind (fun q5 => if (q5) = ((-1)) then some (px_up (px_up (px_up s 150 15 (s 150 14)) 150 16 1) 150 16 0) else (if (f_M_isLetter (px_up (px_up (px_up (px_up s 150 15 (s 150 14)) 150 16 1) 150 14 (px_wr (((px_up (px_up s 150 15 (s 150 14)) 150 16 1) 150 14) + 1))) 150 17 q5) q5) = (0) then (if (f_M_isDigit (px_up (px_up (px_up (px_up s 150 15 (s 150 14)) 150 16 1) 150 14 (px_wr (((px_up (px_up s 150 15 (s 150 14)) 150 16 1) 150 14) + 1))) 150 17 q5) q5) = (0) then (if (f_M_isMarkSign (px_up (px_up (px_up (px_up s 150 15 (s 150 14)) 150 16 1) 150 14 (px_wr (((px_up (px_up s 150 15 (s 150 14)) 150 16 1) 150 14) + 1))) 150 17 q5) q5) = (0) then some (px_up (px_up (px_up (px_up s 150 15 (s 150 14)) 150 16 1) 150 14 (px_wr (((px_up (px_up s 150 15 (s 150 14)) 150 16 1) 150 14) + 1))) 150 17 q5) else some (px_up (px_up (px_up (px_up (px_up s 150 15 (s 150 14)) 150 16 1) 150 14 (px_wr (((px_up (px_up s 150 15 (s 150 14)) 150 16 1) 150 14) + 1))) 150 17 q5) 150 16 4)) else l_M_reads_90 (fun s => if (5) ≤ (px_wr ((s 150 14) - (s 150 15))) then some s else some (px_up s 150 16 3)) px_big (px_up (px_up (px_up (px_up (px_up s 150 15 (s 150 14)) 150 16 1) 150 14 (px_wr (((px_up (px_up s 150 15 (s 150 14)) 150 16 1) 150 14) + 1))) 150 17 q5) 150 17 (px_wr (q5 - 48))) ) else l_M_reads_51 (fun s => (f_M_wordAt s (s 150 15) (s 150 14)).bind (fun q17 => if ((px_up s 150 17 q17) 150 17) = ((-1)) then some (px_up s 150 17 q17) else some (px_up (px_up s 150 17 q17) 150 16 2))) px_big (px_up (px_up (px_up (px_up s 150 15 (s 150 14)) 150 16 1) 150 14 (px_wr (((px_up (px_up s 150 15 (s 150 14)) 150 16 1) 150 14) + 1))) 150 17 q5) ))) px_big s 
set_option maxHeartbeats 4000000 in
set_option maxRecDepth 100000 in
theorem c_M_reads {sc : List Int} {d : Nat} {s : px_Z} {out : px_Z} (h : f_M_reads s  = some out) : px_D sc (d + 2) 174 0 [(0, .inr (.inr 150))] [] (px_G1, s) (px_Qv out) := by
  unfold f_M_reads at h
  refine px_D_ls [(0, .inr (.inr 150))] rfl rfl (List.forall_mem_cons.mpr ⟨rfl, fun _ h => absurd h List.not_mem_nil⟩) ?_
  refine cl_M_reads_0 ?_ px_big _ _ h
  · intro s out h
    refine px_D_st 10 (ip1 := 29) (ls1 := [(0, .inr (.inr 150))]) (st1 := [.inl ((px_up (px_up s 150 15 (s 150 14)) 150 16 1) 150 14), .inr (.inr 150)]) (h1 := (px_G1, px_up (px_up s 150 15 (s 150 14)) 150 16 1)) rfl ?_
    refine px_D_call (as := [.inr (.inr 150), .inl ((px_up (px_up s 150 15 (s 150 14)) 150 16 1) 150 14)]) (rest := []) rfl rfl rfl rfl ?_
    obtain ⟨q5, hq5, h⟩ := Option.bind_eq_some_iff.mp h
    refine px_D_mono (c_M_raw (d := d + 1) hq5) ?_
    rintro _ _ ⟨rfl, rfl⟩
    show px_D sc (d + 2) 174 30 [(0, .inr (.inr 150))] [.inl (q5)] (px_G1, px_up (px_up s 150 15 (s 150 14)) 150 16 1) _
    refine px_D_st 3 (ip1 := 33) (ls1 := [(1, .inl (q5)), (0, .inr (.inr 150))]) (st1 := [.inl ((-1)), .inl (q5)]) (h1 := (px_G1, px_up (px_up s 150 15 (s 150 14)) 150 16 1)) rfl ?_
    refine px_D_icmp rfl (fun hc => ?_) (fun hc => ?_)
    · have hc6 : ¬ ((q5) = ((-1))) := of_decide_eq_true hc
      rw [if_neg hc6] at h
      refine px_D_st 11 (ip1 := 49) (ls1 := [(1, .inl (q5)), (0, .inr (.inr 150))]) (st1 := [.inl (q5), .inr (.inr 150)]) (h1 := (px_G1, px_up (px_up (px_up (px_up s 150 15 (s 150 14)) 150 16 1) 150 14 (px_wr (((px_up (px_up s 150 15 (s 150 14)) 150 16 1) 150 14) + 1))) 150 17 q5)) rfl ?_
      refine px_D_call (as := [.inr (.inr 150), .inl (q5)]) (rest := []) rfl rfl rfl rfl ?_
      refine px_D_mono (c_M_isLetter (d := d + 0) rfl) ?_
      rintro _ _ ⟨rfl, rfl⟩
      show px_D sc (d + 2) 174 50 [(1, .inl (q5)), (0, .inr (.inr 150))] [.inl (f_M_isLetter (px_up (px_up (px_up (px_up s 150 15 (s 150 14)) 150 16 1) 150 14 (px_wr (((px_up (px_up s 150 15 (s 150 14)) 150 16 1) 150 14) + 1))) 150 17 q5) q5)] (px_G1, px_up (px_up (px_up (px_up s 150 15 (s 150 14)) 150 16 1) 150 14 (px_wr (((px_up (px_up s 150 15 (s 150 14)) 150 16 1) 150 14) + 1))) 150 17 q5) _
      refine px_D_ifc rfl (fun hc => ?_) (fun hc => ?_)
      · have hc7 : (f_M_isLetter (px_up (px_up (px_up (px_up s 150 15 (s 150 14)) 150 16 1) 150 14 (px_wr (((px_up (px_up s 150 15 (s 150 14)) 150 16 1) 150 14) + 1))) 150 17 q5) q5) = (0) := of_decide_eq_true hc
        rw [if_pos hc7] at h
        refine px_D_st 2 (ip1 := 83) (ls1 := [(1, .inl (q5)), (0, .inr (.inr 150))]) (st1 := [.inl (q5), .inr (.inr 150)]) (h1 := (px_G1, px_up (px_up (px_up (px_up s 150 15 (s 150 14)) 150 16 1) 150 14 (px_wr (((px_up (px_up s 150 15 (s 150 14)) 150 16 1) 150 14) + 1))) 150 17 q5)) rfl ?_
        refine px_D_call (as := [.inr (.inr 150), .inl (q5)]) (rest := []) rfl rfl rfl rfl ?_
        refine px_D_mono (c_M_isDigit (d := d + 0) rfl) ?_
        rintro _ _ ⟨rfl, rfl⟩
        show px_D sc (d + 2) 174 84 [(1, .inl (q5)), (0, .inr (.inr 150))] [.inl (f_M_isDigit (px_up (px_up (px_up (px_up s 150 15 (s 150 14)) 150 16 1) 150 14 (px_wr (((px_up (px_up s 150 15 (s 150 14)) 150 16 1) 150 14) + 1))) 150 17 q5) q5)] (px_G1, px_up (px_up (px_up (px_up s 150 15 (s 150 14)) 150 16 1) 150 14 (px_wr (((px_up (px_up s 150 15 (s 150 14)) 150 16 1) 150 14) + 1))) 150 17 q5) _
        refine px_D_ifc rfl (fun hc => ?_) (fun hc => ?_)
        · have hc8 : (f_M_isDigit (px_up (px_up (px_up (px_up s 150 15 (s 150 14)) 150 16 1) 150 14 (px_wr (((px_up (px_up s 150 15 (s 150 14)) 150 16 1) 150 14) + 1))) 150 17 q5) q5) = (0) := of_decide_eq_true hc
          rw [if_pos hc8] at h
          refine px_D_st 2 (ip1 := 137) (ls1 := [(1, .inl (q5)), (0, .inr (.inr 150))]) (st1 := [.inl (q5), .inr (.inr 150)]) (h1 := (px_G1, px_up (px_up (px_up (px_up s 150 15 (s 150 14)) 150 16 1) 150 14 (px_wr (((px_up (px_up s 150 15 (s 150 14)) 150 16 1) 150 14) + 1))) 150 17 q5)) rfl ?_
          refine px_D_call (as := [.inr (.inr 150), .inl (q5)]) (rest := []) rfl rfl rfl rfl ?_
          refine px_D_mono (c_M_isMarkSign (d := d + 1) rfl) ?_
          rintro _ _ ⟨rfl, rfl⟩
          show px_D sc (d + 2) 174 138 [(1, .inl (q5)), (0, .inr (.inr 150))] [.inl (f_M_isMarkSign (px_up (px_up (px_up (px_up s 150 15 (s 150 14)) 150 16 1) 150 14 (px_wr (((px_up (px_up s 150 15 (s 150 14)) 150 16 1) 150 14) + 1))) 150 17 q5) q5)] (px_G1, px_up (px_up (px_up (px_up s 150 15 (s 150 14)) 150 16 1) 150 14 (px_wr (((px_up (px_up s 150 15 (s 150 14)) 150 16 1) 150 14) + 1))) 150 17 q5) _
          refine px_D_ifc rfl (fun hc => ?_) (fun hc => ?_)
          · have hc9 : (f_M_isMarkSign (px_up (px_up (px_up (px_up s 150 15 (s 150 14)) 150 16 1) 150 14 (px_wr (((px_up (px_up s 150 15 (s 150 14)) 150 16 1) 150 14) + 1))) 150 17 q5) q5) = (0) := of_decide_eq_true hc
            rw [if_pos hc9] at h
            cases h
            exact px_D_vret rfl ⟨rfl, rfl⟩
          · have hc9 : ¬ ((f_M_isMarkSign (px_up (px_up (px_up (px_up s 150 15 (s 150 14)) 150 16 1) 150 14 (px_wr (((px_up (px_up s 150 15 (s 150 14)) 150 16 1) 150 14) + 1))) 150 17 q5) q5) = (0)) := of_decide_eq_false hc
            rw [if_neg hc9] at h
            refine px_D_st 3 (ip1 := 142) (ls1 := [(1, .inl (q5)), (0, .inr (.inr 150))]) (st1 := []) (h1 := (px_G1, px_up (px_up (px_up (px_up (px_up s 150 15 (s 150 14)) 150 16 1) 150 14 (px_wr (((px_up (px_up s 150 15 (s 150 14)) 150 16 1) 150 14) + 1))) 150 17 q5) 150 16 4)) rfl ?_
            cases h
            exact px_D_vret rfl ⟨rfl, rfl⟩
        · have hc8 : ¬ ((f_M_isDigit (px_up (px_up (px_up (px_up s 150 15 (s 150 14)) 150 16 1) 150 14 (px_wr (((px_up (px_up s 150 15 (s 150 14)) 150 16 1) 150 14) + 1))) 150 17 q5) q5) = (0)) := of_decide_eq_false hc
          rw [if_neg hc8] at h
          refine px_D_st 5 (ip1 := 90) (ls1 := [(1, .inl (q5)), (0, .inr (.inr 150))]) (st1 := []) (h1 := (px_G1, px_up (px_up (px_up (px_up (px_up s 150 15 (s 150 14)) 150 16 1) 150 14 (px_wr (((px_up (px_up s 150 15 (s 150 14)) 150 16 1) 150 14) + 1))) 150 17 q5) 150 17 (px_wr (q5 - 48)))) rfl ?_
          refine px_D_ls [(0, .inr (.inr 150))] rfl rfl (List.forall_mem_cons.mpr ⟨rfl, fun _ h => absurd h List.not_mem_nil⟩) ?_
          refine cl_M_reads_90 ?_ px_big _ _ h
          · intro s out h
            refine px_D_st 6 (ip1 := 130) (ls1 := [(0, .inr (.inr 150))]) (st1 := [.inl (5), .inl (px_wr ((s 150 14) - (s 150 15)))]) (h1 := (px_G1, s)) rfl ?_
            refine px_D_icmp rfl (fun hc => ?_) (fun hc => ?_)
            · have hc14 : (5) ≤ (px_wr ((s 150 14) - (s 150 15))) := of_decide_eq_true hc
              rw [if_pos hc14] at h
              cases h
              exact px_D_vret rfl ⟨rfl, rfl⟩
            · have hc14 : ¬ ((5) ≤ (px_wr ((s 150 14) - (s 150 15)))) := of_decide_eq_false hc
              rw [if_neg hc14] at h
              refine px_D_st 4 (ip1 := 142) (ls1 := [(0, .inr (.inr 150))]) (st1 := []) (h1 := (px_G1, px_up s 150 16 3)) rfl ?_
              cases h
              exact px_D_vret rfl ⟨rfl, rfl⟩
      · have hc7 : ¬ ((f_M_isLetter (px_up (px_up (px_up (px_up s 150 15 (s 150 14)) 150 16 1) 150 14 (px_wr (((px_up (px_up s 150 15 (s 150 14)) 150 16 1) 150 14) + 1))) 150 17 q5) q5) = (0)) := of_decide_eq_false hc
        rw [if_neg hc7] at h
        refine px_D_ls [(0, .inr (.inr 150))] rfl rfl (List.forall_mem_cons.mpr ⟨rfl, fun _ h => absurd h List.not_mem_nil⟩) ?_
        refine cl_M_reads_51 ?_ px_big _ _ h
        · intro s out h
          refine px_D_st 6 (ip1 := 71) (ls1 := [(0, .inr (.inr 150))]) (st1 := [.inl (s 150 14), .inl (s 150 15), .inr (.inr 150), .inr (.inr 150)]) (h1 := (px_G1, s)) rfl ?_
          refine px_D_call (as := [.inr (.inr 150), .inl (s 150 15), .inl (s 150 14)]) (rest := [.inr (.inr 150)]) rfl rfl rfl rfl ?_
          obtain ⟨q17, hq17, h⟩ := Option.bind_eq_some_iff.mp h
          refine px_D_mono (c_M_wordAt (d := d + 1) hq17) ?_
          rintro _ _ ⟨rfl, rfl⟩
          show px_D sc (d + 2) 174 72 [(0, .inr (.inr 150))] [.inl (q17), .inr (.inr 150)] (px_G1, s) _
          refine px_D_st 4 (ip1 := 76) (ls1 := [(0, .inr (.inr 150))]) (st1 := [.inl ((-1)), .inl ((px_up s 150 17 q17) 150 17)]) (h1 := (px_G1, px_up s 150 17 q17)) rfl ?_
          refine px_D_icmp rfl (fun hc => ?_) (fun hc => ?_)
          · have hc18 : ((px_up s 150 17 q17) 150 17) = ((-1)) := of_decide_eq_true hc
            rw [if_pos hc18] at h
            cases h
            exact px_D_vret rfl ⟨rfl, rfl⟩
          · have hc18 : ¬ (((px_up s 150 17 q17) 150 17) = ((-1))) := of_decide_eq_false hc
            rw [if_neg hc18] at h
            refine px_D_st 4 (ip1 := 142) (ls1 := [(0, .inr (.inr 150))]) (st1 := []) (h1 := (px_G1, px_up (px_up s 150 17 q17) 150 16 2)) rfl ?_
            cases h
            exact px_D_vret rfl ⟨rfl, rfl⟩
    · have hc6 : (q5) = ((-1)) := Decidable.of_not_not (of_decide_eq_false hc)
      rw [if_pos hc6] at h
      refine px_D_st 3 (ip1 := 37) (ls1 := [(1, .inl (q5)), (0, .inr (.inr 150))]) (st1 := []) (h1 := (px_G1, px_up (px_up (px_up s 150 15 (s 150 14)) 150 16 1) 150 16 0)) rfl ?_
      cases h
      exact px_D_vret rfl ⟨rfl, rfl⟩

def f_M_errs (s : px_Z) (x1 : Int) : Option (Int × px_Z) := some (((-1), px_up (px_up s 150 31 x1) 150 32 ((px_up s 150 31 x1) 150 15)))
set_option maxHeartbeats 4000000 in
set_option maxRecDepth 100000 in
theorem c_M_errs {sc : List Int} {d : Nat} {s : px_Z} {x1 : Int} {out : Int × px_Z} (h : f_M_errs s x1 = some out) : px_D sc (d + 0) 175 0 [(0, .inr (.inr 150)), (1, .inl (x1))] [] (px_G1, s) (px_Qi out) := by
  unfold f_M_errs at h
  refine px_D_st 8 (ip1 := 8) (ls1 := [(0, .inr (.inr 150)), (1, .inl (x1))]) (st1 := [.inl ((-1))]) (h1 := (px_G1, px_up (px_up s 150 31 x1) 150 32 ((px_up s 150 31 x1) 150 15))) rfl ?_
  cases h
  exact px_D_iret rfl rfl ⟨rfl, rfl⟩

def f_M_isWord (s : px_Z) (x1 : Int) : Int := if (s 150 16) = (2) then (if (s 150 17) = (x1) then 1 else 0) else 0
set_option maxHeartbeats 4000000 in
set_option maxRecDepth 100000 in
theorem c_M_isWord {sc : List Int} {d : Nat} {s : px_Z} {x1 : Int} {out : Int} (h : f_M_isWord s x1 = out) : px_D sc (d + 0) 176 0 [(0, .inr (.inr 150)), (1, .inl (x1))] [] (px_G1, s) (px_Qp s out) := by
  unfold f_M_isWord at h
  refine px_D_st 3 (ip1 := 3) (ls1 := [(0, .inr (.inr 150)), (1, .inl (x1))]) (st1 := [.inl (2), .inl (s 150 16)]) (h1 := (px_G1, s)) rfl ?_
  refine px_D_icmp rfl (fun hc => ?_) (fun hc => ?_)
  · have hc1 : ¬ ((s 150 16) = (2)) := of_decide_eq_true hc
    rw [if_neg hc1] at h
    refine px_D_st 1 (ip1 := 11) (ls1 := [(0, .inr (.inr 150)), (1, .inl (x1))]) (st1 := [.inl (0)]) (h1 := (px_G1, s)) rfl ?_
    subst h
    exact px_D_iret rfl rfl ⟨rfl, rfl⟩
  · have hc1 : (s 150 16) = (2) := Decidable.of_not_not (of_decide_eq_false hc)
    rw [if_pos hc1] at h
    refine px_D_st 3 (ip1 := 7) (ls1 := [(0, .inr (.inr 150)), (1, .inl (x1))]) (st1 := [.inl (x1), .inl (s 150 17)]) (h1 := (px_G1, s)) rfl ?_
    refine px_D_icmp rfl (fun hc => ?_) (fun hc => ?_)
    · have hc2 : ¬ ((s 150 17) = (x1)) := of_decide_eq_true hc
      rw [if_neg hc2] at h
      refine px_D_st 1 (ip1 := 11) (ls1 := [(0, .inr (.inr 150)), (1, .inl (x1))]) (st1 := [.inl (0)]) (h1 := (px_G1, s)) rfl ?_
      subst h
      exact px_D_iret rfl rfl ⟨rfl, rfl⟩
    · have hc2 : (s 150 17) = (x1) := Decidable.of_not_not (of_decide_eq_false hc)
      rw [if_pos hc2] at h
      refine px_D_st 2 (ip1 := 11) (ls1 := [(0, .inr (.inr 150)), (1, .inl (x1))]) (st1 := [.inl (1)]) (h1 := (px_G1, s)) rfl ?_
      subst h
      exact px_D_iret rfl rfl ⟨rfl, rfl⟩
set_option maxHeartbeats 4000000 in
set_option maxRecDepth 100000 in
theorem bz_M_isWord {s : px_Z} {x1 : Int} : f_M_isWord s x1 = 0 ∨ f_M_isWord s x1 = 1 := by
  unfold f_M_isWord
  repeat' split
  all_goals first | exact Or.inl rfl | exact Or.inr rfl | exact Or.inl rfl

def f_M_isSign (s : px_Z) (x1 : Int) : Int := if (s 150 16) = (4) then (if (s 150 17) = (x1) then 1 else 0) else 0
set_option maxHeartbeats 4000000 in
set_option maxRecDepth 100000 in
theorem c_M_isSign {sc : List Int} {d : Nat} {s : px_Z} {x1 : Int} {out : Int} (h : f_M_isSign s x1 = out) : px_D sc (d + 0) 177 0 [(0, .inr (.inr 150)), (1, .inl (x1))] [] (px_G1, s) (px_Qp s out) := by
  unfold f_M_isSign at h
  refine px_D_st 3 (ip1 := 3) (ls1 := [(0, .inr (.inr 150)), (1, .inl (x1))]) (st1 := [.inl (4), .inl (s 150 16)]) (h1 := (px_G1, s)) rfl ?_
  refine px_D_icmp rfl (fun hc => ?_) (fun hc => ?_)
  · have hc1 : ¬ ((s 150 16) = (4)) := of_decide_eq_true hc
    rw [if_neg hc1] at h
    refine px_D_st 1 (ip1 := 11) (ls1 := [(0, .inr (.inr 150)), (1, .inl (x1))]) (st1 := [.inl (0)]) (h1 := (px_G1, s)) rfl ?_
    subst h
    exact px_D_iret rfl rfl ⟨rfl, rfl⟩
  · have hc1 : (s 150 16) = (4) := Decidable.of_not_not (of_decide_eq_false hc)
    rw [if_pos hc1] at h
    refine px_D_st 3 (ip1 := 7) (ls1 := [(0, .inr (.inr 150)), (1, .inl (x1))]) (st1 := [.inl (x1), .inl (s 150 17)]) (h1 := (px_G1, s)) rfl ?_
    refine px_D_icmp rfl (fun hc => ?_) (fun hc => ?_)
    · have hc2 : ¬ ((s 150 17) = (x1)) := of_decide_eq_true hc
      rw [if_neg hc2] at h
      refine px_D_st 1 (ip1 := 11) (ls1 := [(0, .inr (.inr 150)), (1, .inl (x1))]) (st1 := [.inl (0)]) (h1 := (px_G1, s)) rfl ?_
      subst h
      exact px_D_iret rfl rfl ⟨rfl, rfl⟩
    · have hc2 : (s 150 17) = (x1) := Decidable.of_not_not (of_decide_eq_false hc)
      rw [if_pos hc2] at h
      refine px_D_st 2 (ip1 := 11) (ls1 := [(0, .inr (.inr 150)), (1, .inl (x1))]) (st1 := [.inl (1)]) (h1 := (px_G1, s)) rfl ?_
      subst h
      exact px_D_iret rfl rfl ⟨rfl, rfl⟩
set_option maxHeartbeats 4000000 in
set_option maxRecDepth 100000 in
theorem bz_M_isSign {s : px_Z} {x1 : Int} : f_M_isSign s x1 = 0 ∨ f_M_isSign s x1 = 1 := by
  unfold f_M_isSign
  repeat' split
  all_goals first | exact Or.inl rfl | exact Or.inr rfl | exact Or.inl rfl

def f_M_emits (s : px_Z) (x1 : Int) (x2 : Int) : Option (px_Z) := if 0 ≤ (px_wr (800 + (s 150 27))) ∧ (px_wr (800 + (s 150 27))) < 1200 then if 0 ≤ (px_wr (800 + ((px_up s 163 (px_wr (800 + (s 150 27))).toNat x1) 150 27))) ∧ (px_wr (800 + ((px_up s 163 (px_wr (800 + (s 150 27))).toNat x1) 150 27))) < 1200 then some (px_up (px_up (px_up s 163 (px_wr (800 + (s 150 27))).toNat x1) 164 (px_wr (800 + ((px_up s 163 (px_wr (800 + (s 150 27))).toNat x1) 150 27))).toNat x2) 150 27 (px_wr (((px_up (px_up s 163 (px_wr (800 + (s 150 27))).toNat x1) 164 (px_wr (800 + ((px_up s 163 (px_wr (800 + (s 150 27))).toNat x1) 150 27))).toNat x2) 150 27) + 1))) else none else none
set_option maxHeartbeats 4000000 in
set_option maxRecDepth 100000 in
theorem c_M_emits {sc : List Int} {d : Nat} {s : px_Z} {x1 : Int} {x2 : Int} {out : px_Z} (h : f_M_emits s x1 x2 = some out) : px_D sc (d + 0) 178 0 [(0, .inr (.inr 150)), (1, .inl (x1)), (2, .inl (x2))] [] (px_G1, s) (px_Qv out) := by
  unfold f_M_emits at h
  refine px_D_st 7 (ip1 := 7) (ls1 := [(0, .inr (.inr 150)), (1, .inl (x1)), (2, .inl (x2))]) (st1 := [.inl (x1), .inl (px_wr (800 + (s 150 27))), .inr (.inr 163)]) (h1 := (px_G1, s)) rfl ?_
  by_cases hc1 : 0 ≤ (px_wr (800 + (s 150 27))) ∧ (px_wr (800 + (s 150 27))) < 1200
  case neg => rw [if_neg hc1] at h; cases h
  rw [if_pos hc1] at h
  refine px_D_iast (k := 158) (n := 1200) rfl rfl hc1 ?_
  refine px_D_st 7 (ip1 := 15) (ls1 := [(0, .inr (.inr 150)), (1, .inl (x1)), (2, .inl (x2))]) (st1 := [.inl (x2), .inl (px_wr (800 + ((px_up s 163 (px_wr (800 + (s 150 27))).toNat x1) 150 27))), .inr (.inr 164)]) (h1 := (px_G1, px_up s 163 (px_wr (800 + (s 150 27))).toNat x1)) rfl ?_
  by_cases hc2 : 0 ≤ (px_wr (800 + ((px_up s 163 (px_wr (800 + (s 150 27))).toNat x1) 150 27))) ∧ (px_wr (800 + ((px_up s 163 (px_wr (800 + (s 150 27))).toNat x1) 150 27))) < 1200
  case neg => rw [if_neg hc2] at h; cases h
  rw [if_pos hc2] at h
  refine px_D_iast (k := 159) (n := 1200) rfl rfl hc2 ?_
  refine px_D_st 6 (ip1 := 22) (ls1 := [(0, .inr (.inr 150)), (1, .inl (x1)), (2, .inl (x2))]) (st1 := []) (h1 := (px_G1, px_up (px_up (px_up s 163 (px_wr (800 + (s 150 27))).toNat x1) 164 (px_wr (800 + ((px_up s 163 (px_wr (800 + (s 150 27))).toNat x1) 150 27))).toNat x2) 150 27 (px_wr (((px_up (px_up s 163 (px_wr (800 + (s 150 27))).toNat x1) 164 (px_wr (800 + ((px_up s 163 (px_wr (800 + (s 150 27))).toNat x1) 150 27))).toNat x2) 150 27) + 1)))) rfl ?_
  cases h
  exact px_D_vret rfl ⟨rfl, rfl⟩

def f_M_canAsk (s : px_Z) (x1 : Int) : Int := if (f_M_isIn s x1 8 16) = (0) then 0 else (if (s 150 26) = (0) then 1 else (if (x1) = (12) then 0 else (if (x1) = (14) then 0 else 1)))
set_option maxHeartbeats 4000000 in
set_option maxRecDepth 100000 in
theorem c_M_canAsk {sc : List Int} {d : Nat} {s : px_Z} {x1 : Int} {out : Int} (h : f_M_canAsk s x1 = out) : px_D sc (d + 1) 179 0 [(0, .inr (.inr 150)), (1, .inl (x1))] [] (px_G1, s) (px_Qp s out) := by
  unfold f_M_canAsk at h
  refine px_D_st 4 (ip1 := 4) (ls1 := [(0, .inr (.inr 150)), (1, .inl (x1))]) (st1 := [.inl (16), .inl (8), .inl (x1), .inr (.inr 150)]) (h1 := (px_G1, s)) rfl ?_
  refine px_D_call (as := [.inr (.inr 150), .inl (x1), .inl (8), .inl (16)]) (rest := []) rfl rfl rfl rfl ?_
  refine px_D_mono (c_M_isIn (d := d + 0) rfl) ?_
  rintro _ _ ⟨rfl, rfl⟩
  show px_D sc (d + 1) 179 5 [(0, .inr (.inr 150)), (1, .inl (x1))] [.inl (f_M_isIn s x1 8 16)] (px_G1, s) _
  refine px_D_ifc rfl (fun hc => ?_) (fun hc => ?_)
  · have hc1 : (f_M_isIn s x1 8 16) = (0) := of_decide_eq_true hc
    rw [if_pos hc1] at h
    refine px_D_st 1 (ip1 := 18) (ls1 := [(0, .inr (.inr 150)), (1, .inl (x1))]) (st1 := [.inl (0)]) (h1 := (px_G1, s)) rfl ?_
    subst h
    exact px_D_iret rfl rfl ⟨rfl, rfl⟩
  · have hc1 : ¬ ((f_M_isIn s x1 8 16) = (0)) := of_decide_eq_false hc
    rw [if_neg hc1] at h
    refine px_D_st 2 (ip1 := 8) (ls1 := [(0, .inr (.inr 150)), (1, .inl (x1))]) (st1 := [.inl (s 150 26)]) (h1 := (px_G1, s)) rfl ?_
    refine px_D_ifc rfl (fun hc => ?_) (fun hc => ?_)
    · have hc2 : (s 150 26) = (0) := of_decide_eq_true hc
      rw [if_pos hc2] at h
      refine px_D_st 2 (ip1 := 18) (ls1 := [(0, .inr (.inr 150)), (1, .inl (x1))]) (st1 := [.inl (1)]) (h1 := (px_G1, s)) rfl ?_
      subst h
      exact px_D_iret rfl rfl ⟨rfl, rfl⟩
    · have hc2 : ¬ ((s 150 26) = (0)) := of_decide_eq_false hc
      rw [if_neg hc2] at h
      refine px_D_st 2 (ip1 := 11) (ls1 := [(0, .inr (.inr 150)), (1, .inl (x1))]) (st1 := [.inl (12), .inl (x1)]) (h1 := (px_G1, s)) rfl ?_
      refine px_D_icmp rfl (fun hc => ?_) (fun hc => ?_)
      · have hc3 : (x1) = (12) := of_decide_eq_true hc
        rw [if_pos hc3] at h
        refine px_D_st 1 (ip1 := 18) (ls1 := [(0, .inr (.inr 150)), (1, .inl (x1))]) (st1 := [.inl (0)]) (h1 := (px_G1, s)) rfl ?_
        subst h
        exact px_D_iret rfl rfl ⟨rfl, rfl⟩
      · have hc3 : ¬ ((x1) = (12)) := of_decide_eq_false hc
        rw [if_neg hc3] at h
        refine px_D_st 2 (ip1 := 14) (ls1 := [(0, .inr (.inr 150)), (1, .inl (x1))]) (st1 := [.inl (14), .inl (x1)]) (h1 := (px_G1, s)) rfl ?_
        refine px_D_icmp rfl (fun hc => ?_) (fun hc => ?_)
        · have hc4 : (x1) = (14) := of_decide_eq_true hc
          rw [if_pos hc4] at h
          refine px_D_st 1 (ip1 := 18) (ls1 := [(0, .inr (.inr 150)), (1, .inl (x1))]) (st1 := [.inl (0)]) (h1 := (px_G1, s)) rfl ?_
          subst h
          exact px_D_iret rfl rfl ⟨rfl, rfl⟩
        · have hc4 : ¬ ((x1) = (14)) := of_decide_eq_false hc
          rw [if_neg hc4] at h
          refine px_D_st 2 (ip1 := 18) (ls1 := [(0, .inr (.inr 150)), (1, .inl (x1))]) (st1 := [.inl (1)]) (h1 := (px_G1, s)) rfl ?_
          subst h
          exact px_D_iret rfl rfl ⟨rfl, rfl⟩
set_option maxHeartbeats 4000000 in
set_option maxRecDepth 100000 in
theorem bz_M_canAsk {s : px_Z} {x1 : Int} : f_M_canAsk s x1 = 0 ∨ f_M_canAsk s x1 = 1 := by
  unfold f_M_canAsk
  repeat' split
  all_goals first | exact Or.inl rfl | exact Or.inr rfl | exact Or.inl rfl | exact bz_M_isIn

def j_M_readUnit_j29 (s : px_Z) (x1 : Int) (t0 : Int) : Option (Int × px_Z) := if (x1) = (0) then (f_M_emits s t0 (s 150 17)).bind (fun q5 => (f_M_reads q5 ).bind (fun q6 => some (0, q6))) else (f_M_emits s t0 (px_wr ((s 150 17) - 8))).bind (fun q7 => (f_M_reads q7 ).bind (fun q8 => some (0, q8)))
set_option maxHeartbeats 4000000 in
set_option maxRecDepth 100000 in
theorem cj_M_readUnit_j29 {sc : List Int} {d : Nat} {s : px_Z} {x1 : Int} {t0 : Int} {out : Int × px_Z} (h : j_M_readUnit_j29 s x1 t0 = some out) : px_D sc (d + 3) 180 29 [(0, .inr (.inr 150)), (1, .inl (x1))] [.inl (t0), .inr (.inr 150)] (px_G1, s) (px_Qi out) := by
  unfold j_M_readUnit_j29 at h
  refine px_D_st 1 (ip1 := 30) (ls1 := [(0, .inr (.inr 150)), (1, .inl (x1))]) (st1 := [.inl (x1), .inl (t0), .inr (.inr 150)]) (h1 := (px_G1, s)) rfl ?_
  refine px_D_ifc rfl (fun hc => ?_) (fun hc => ?_)
  · have hc4 : (x1) = (0) := of_decide_eq_true hc
    rw [if_pos hc4] at h
    refine px_D_st 2 (ip1 := 38) (ls1 := [(0, .inr (.inr 150)), (1, .inl (x1))]) (st1 := [.inl (s 150 17), .inl (t0), .inr (.inr 150)]) (h1 := (px_G1, s)) rfl ?_
    refine px_D_call (as := [.inr (.inr 150), .inl (t0), .inl (s 150 17)]) (rest := []) rfl rfl rfl rfl ?_
    obtain ⟨q5, hq5, h⟩ := Option.bind_eq_some_iff.mp h
    refine px_D_mono (c_M_emits (d := d + 2) hq5) ?_
    rintro _ _ ⟨rfl, rfl⟩
    show px_D sc (d + 3) 180 39 [(0, .inr (.inr 150)), (1, .inl (x1))] [] (px_G1, q5) _
    refine px_D_st 1 (ip1 := 40) (ls1 := [(0, .inr (.inr 150)), (1, .inl (x1))]) (st1 := [.inr (.inr 150)]) (h1 := (px_G1, q5)) rfl ?_
    refine px_D_call (as := [.inr (.inr 150)]) (rest := []) rfl rfl rfl rfl ?_
    obtain ⟨q6, hq6, h⟩ := Option.bind_eq_some_iff.mp h
    refine px_D_mono (c_M_reads (d := d + 0) hq6) ?_
    rintro _ _ ⟨rfl, rfl⟩
    show px_D sc (d + 3) 180 41 [(0, .inr (.inr 150)), (1, .inl (x1))] [] (px_G1, q6) _
    refine px_D_st 1 (ip1 := 42) (ls1 := [(0, .inr (.inr 150)), (1, .inl (x1))]) (st1 := [.inl (0)]) (h1 := (px_G1, q6)) rfl ?_
    cases h
    exact px_D_iret rfl rfl ⟨rfl, rfl⟩
  · have hc4 : ¬ ((x1) = (0)) := of_decide_eq_false hc
    rw [if_neg hc4] at h
    refine px_D_st 5 (ip1 := 38) (ls1 := [(0, .inr (.inr 150)), (1, .inl (x1))]) (st1 := [.inl (px_wr ((s 150 17) - 8)), .inl (t0), .inr (.inr 150)]) (h1 := (px_G1, s)) rfl ?_
    refine px_D_call (as := [.inr (.inr 150), .inl (t0), .inl (px_wr ((s 150 17) - 8))]) (rest := []) rfl rfl rfl rfl ?_
    obtain ⟨q7, hq7, h⟩ := Option.bind_eq_some_iff.mp h
    refine px_D_mono (c_M_emits (d := d + 2) hq7) ?_
    rintro _ _ ⟨rfl, rfl⟩
    show px_D sc (d + 3) 180 39 [(0, .inr (.inr 150)), (1, .inl (x1))] [] (px_G1, q7) _
    refine px_D_st 1 (ip1 := 40) (ls1 := [(0, .inr (.inr 150)), (1, .inl (x1))]) (st1 := [.inr (.inr 150)]) (h1 := (px_G1, q7)) rfl ?_
    refine px_D_call (as := [.inr (.inr 150)]) (rest := []) rfl rfl rfl rfl ?_
    obtain ⟨q8, hq8, h⟩ := Option.bind_eq_some_iff.mp h
    refine px_D_mono (c_M_reads (d := d + 0) hq8) ?_
    rintro _ _ ⟨rfl, rfl⟩
    show px_D sc (d + 3) 180 41 [(0, .inr (.inr 150)), (1, .inl (x1))] [] (px_G1, q8) _
    refine px_D_st 1 (ip1 := 42) (ls1 := [(0, .inr (.inr 150)), (1, .inl (x1))]) (st1 := [.inl (0)]) (h1 := (px_G1, q8)) rfl ?_
    cases h
    exact px_D_iret rfl rfl ⟨rfl, rfl⟩
def j_M_readUnit_j23 (s : px_Z) (x1 : Int) : Option (Int × px_Z) := if (x1) = (0) then j_M_readUnit_j29 s x1 0 else j_M_readUnit_j29 s x1 1
set_option maxHeartbeats 4000000 in
set_option maxRecDepth 100000 in
theorem cj_M_readUnit_j23 {sc : List Int} {d : Nat} {s : px_Z} {x1 : Int} {out : Int × px_Z} (h : j_M_readUnit_j23 s x1 = some out) : px_D sc (d + 3) 180 23 [(0, .inr (.inr 150)), (1, .inl (x1))] [] (px_G1, s) (px_Qi out) := by
  unfold j_M_readUnit_j23 at h
  refine px_D_st 2 (ip1 := 25) (ls1 := [(0, .inr (.inr 150)), (1, .inl (x1))]) (st1 := [.inl (x1), .inr (.inr 150)]) (h1 := (px_G1, s)) rfl ?_
  refine px_D_ifc rfl (fun hc => ?_) (fun hc => ?_)
  · have hc3 : (x1) = (0) := of_decide_eq_true hc
    rw [if_pos hc3] at h
    refine px_D_st 1 (ip1 := 29) (ls1 := [(0, .inr (.inr 150)), (1, .inl (x1))]) (st1 := [.inl (0), .inr (.inr 150)]) (h1 := (px_G1, s)) rfl ?_
    refine px_D_ls [(0, .inr (.inr 150)), (1, .inl (x1))] rfl rfl (List.forall_mem_cons.mpr ⟨rfl, List.forall_mem_cons.mpr ⟨rfl, fun _ h => absurd h List.not_mem_nil⟩⟩) ?_
    exact cj_M_readUnit_j29 h
  · have hc3 : ¬ ((x1) = (0)) := of_decide_eq_false hc
    rw [if_neg hc3] at h
    refine px_D_st 2 (ip1 := 29) (ls1 := [(0, .inr (.inr 150)), (1, .inl (x1))]) (st1 := [.inl (1), .inr (.inr 150)]) (h1 := (px_G1, s)) rfl ?_
    refine px_D_ls [(0, .inr (.inr 150)), (1, .inl (x1))] rfl rfl (List.forall_mem_cons.mpr ⟨rfl, List.forall_mem_cons.mpr ⟨rfl, fun _ h => absurd h List.not_mem_nil⟩⟩) ?_
    exact cj_M_readUnit_j29 h
def j_M_readUnit_j12 (s : px_Z) (t0 : Int) : Option (Int × px_Z) := if (t0) = (0) then (if (s 150 16) = (3) then j_M_readUnit_j23 s t0 else (f_M_errs s 1).bind (fun q10 => some (q10.1, q10.2))) else j_M_readUnit_j23 s t0
set_option maxHeartbeats 4000000 in
set_option maxRecDepth 100000 in
theorem cj_M_readUnit_j12 {sc : List Int} {d : Nat} {s : px_Z} {t0 : Int} {out : Int × px_Z} (h : j_M_readUnit_j12 s t0 = some out) : px_D sc (d + 3) 180 12 [(0, .inr (.inr 150))] [.inl (t0)] (px_G1, s) (px_Qi out) := by
  unfold j_M_readUnit_j12 at h
  refine px_D_st 2 (ip1 := 14) (ls1 := [(1, .inl (t0)), (0, .inr (.inr 150))]) (st1 := [.inl (t0)]) (h1 := (px_G1, s)) rfl ?_
  refine px_D_ifc rfl (fun hc => ?_) (fun hc => ?_)
  · have hc2 : ¬ ((t0) = (0)) := of_decide_eq_true hc
    rw [if_neg hc2] at h
    refine px_D_ls [(0, .inr (.inr 150)), (1, .inl (t0))] rfl rfl (List.forall_mem_cons.mpr ⟨rfl, List.forall_mem_cons.mpr ⟨rfl, fun _ h => absurd h List.not_mem_nil⟩⟩) ?_
    exact cj_M_readUnit_j23 h
  · have hc2 : (t0) = (0) := Decidable.of_not_not (of_decide_eq_false hc)
    rw [if_pos hc2] at h
    refine px_D_st 3 (ip1 := 18) (ls1 := [(1, .inl (t0)), (0, .inr (.inr 150))]) (st1 := [.inl (3), .inl (s 150 16)]) (h1 := (px_G1, s)) rfl ?_
    refine px_D_icmp rfl (fun hc => ?_) (fun hc => ?_)
    · have hc9 : (s 150 16) = (3) := of_decide_eq_true hc
      rw [if_pos hc9] at h
      refine px_D_ls [(0, .inr (.inr 150)), (1, .inl (t0))] rfl rfl (List.forall_mem_cons.mpr ⟨rfl, List.forall_mem_cons.mpr ⟨rfl, fun _ h => absurd h List.not_mem_nil⟩⟩) ?_
      exact cj_M_readUnit_j23 h
    · have hc9 : ¬ ((s 150 16) = (3)) := of_decide_eq_false hc
      rw [if_neg hc9] at h
      refine px_D_st 2 (ip1 := 21) (ls1 := [(1, .inl (t0)), (0, .inr (.inr 150))]) (st1 := [.inl (1), .inr (.inr 150)]) (h1 := (px_G1, s)) rfl ?_
      refine px_D_call (as := [.inr (.inr 150), .inl (1)]) (rest := []) rfl rfl rfl rfl ?_
      obtain ⟨q10, hq10, h⟩ := Option.bind_eq_some_iff.mp h
      refine px_D_mono (c_M_errs (d := d + 2) hq10) ?_
      rintro _ _ ⟨rfl, rfl⟩
      show px_D sc (d + 3) 180 22 [(1, .inl (t0)), (0, .inr (.inr 150))] [.inl (q10.1)] (px_G1, q10.2) _
      cases h
      exact px_D_iret rfl rfl ⟨rfl, rfl⟩
def j_M_readUnit_j11 (s : px_Z) : Option (Int × px_Z) := j_M_readUnit_j12 s 0
set_option maxHeartbeats 4000000 in
set_option maxRecDepth 100000 in
theorem cj_M_readUnit_j11 {sc : List Int} {d : Nat} {s : px_Z} {out : Int × px_Z} (h : j_M_readUnit_j11 s  = some out) : px_D sc (d + 3) 180 11 [(0, .inr (.inr 150))] [] (px_G1, s) (px_Qi out) := by
  unfold j_M_readUnit_j11 at h
  refine px_D_st 1 (ip1 := 12) (ls1 := [(0, .inr (.inr 150))]) (st1 := [.inl (0)]) (h1 := (px_G1, s)) rfl ?_
  refine px_D_ls [(0, .inr (.inr 150))] rfl rfl (List.forall_mem_cons.mpr ⟨rfl, fun _ h => absurd h List.not_mem_nil⟩) ?_
  exact cj_M_readUnit_j12 h
def f_M_readUnit (s : px_Z) : Option (Int × px_Z) := if (s 150 16) = (2) then (if (f_M_canAsk s (s 150 17)) = (0) then j_M_readUnit_j11 s  else j_M_readUnit_j12 s 1) else j_M_readUnit_j11 s 
set_option maxHeartbeats 4000000 in
set_option maxRecDepth 100000 in
theorem c_M_readUnit {sc : List Int} {d : Nat} {s : px_Z} {out : Int × px_Z} (h : f_M_readUnit s  = some out) : px_D sc (d + 3) 180 0 [(0, .inr (.inr 150))] [] (px_G1, s) (px_Qi out) := by
  unfold f_M_readUnit at h
  refine px_D_st 3 (ip1 := 3) (ls1 := [(0, .inr (.inr 150))]) (st1 := [.inl (2), .inl (s 150 16)]) (h1 := (px_G1, s)) rfl ?_
  refine px_D_icmp rfl (fun hc => ?_) (fun hc => ?_)
  · have hc1 : ¬ ((s 150 16) = (2)) := of_decide_eq_true hc
    rw [if_neg hc1] at h
    refine px_D_ls [(0, .inr (.inr 150))] rfl rfl (List.forall_mem_cons.mpr ⟨rfl, fun _ h => absurd h List.not_mem_nil⟩) ?_
    exact cj_M_readUnit_j11 h
  · have hc1 : (s 150 16) = (2) := Decidable.of_not_not (of_decide_eq_false hc)
    rw [if_pos hc1] at h
    refine px_D_st 3 (ip1 := 7) (ls1 := [(0, .inr (.inr 150))]) (st1 := [.inl (s 150 17), .inr (.inr 150)]) (h1 := (px_G1, s)) rfl ?_
    refine px_D_call (as := [.inr (.inr 150), .inl (s 150 17)]) (rest := []) rfl rfl rfl rfl ?_
    refine px_D_mono (c_M_canAsk (d := d + 1) rfl) ?_
    rintro _ _ ⟨rfl, rfl⟩
    show px_D sc (d + 3) 180 8 [(0, .inr (.inr 150))] [.inl (f_M_canAsk s (s 150 17))] (px_G1, s) _
    refine px_D_ifc rfl (fun hc => ?_) (fun hc => ?_)
    · have hc11 : (f_M_canAsk s (s 150 17)) = (0) := of_decide_eq_true hc
      rw [if_pos hc11] at h
      refine px_D_ls [(0, .inr (.inr 150))] rfl rfl (List.forall_mem_cons.mpr ⟨rfl, fun _ h => absurd h List.not_mem_nil⟩) ?_
      exact cj_M_readUnit_j11 h
    · have hc11 : ¬ ((f_M_canAsk s (s 150 17)) = (0)) := of_decide_eq_false hc
      rw [if_neg hc11] at h
      refine px_D_st 2 (ip1 := 12) (ls1 := [(0, .inr (.inr 150))]) (st1 := [.inl (1)]) (h1 := (px_G1, s)) rfl ?_
      refine px_D_ls [(0, .inr (.inr 150))] rfl rfl (List.forall_mem_cons.mpr ⟨rfl, fun _ h => absurd h List.not_mem_nil⟩) ?_
      exact cj_M_readUnit_j12 h

def l_M_readProduct_6 (k26 : px_Z → Option (Int × px_Z)) (k35 : px_Z → Option (Int × px_Z)) : Nat → px_Z → Option (Int × px_Z)
  | 0, _ => none
  | n + 1, s => if (f_M_isSign s 42) = (0) then (if (f_M_isSign s 47) = (0) then some (0, s) else (f_M_reads s ).bind (fun q32 => if (f_M_isSign s 42) = (0) then (if (q32 150 16) = (3) then (if (f_M_isSign s 42) = (0) then (if (q32 150 17) = (0) then k35 q32  else (f_M_readUnit q32 ).bind (fun q54 => if (q54.1) = ((-1)) then some (((-1), q54.2)) else (if (f_M_isSign s 42) = (0) then (f_M_emits q54.2 5 0).bind (fun q57 => l_M_readProduct_6 k26 k35 n q57 ) else (f_M_emits q54.2 4 0).bind (fun q58 => l_M_readProduct_6 k26 k35 n q58 )))) else (f_M_readUnit q32 ).bind (fun q48 => if (q48.1) = ((-1)) then some (((-1), q48.2)) else (if (f_M_isSign s 42) = (0) then (f_M_emits q48.2 5 0).bind (fun q51 => l_M_readProduct_6 k26 k35 n q51 ) else (f_M_emits q48.2 4 0).bind (fun q52 => l_M_readProduct_6 k26 k35 n q52 )))) else k26 q32 ) else (if (f_M_isSign s 42) = (0) then (if (q32 150 17) = (0) then k35 q32  else (f_M_readUnit q32 ).bind (fun q41 => if (q41.1) = ((-1)) then some (((-1), q41.2)) else (if (f_M_isSign s 42) = (0) then (f_M_emits q41.2 5 0).bind (fun q44 => l_M_readProduct_6 k26 k35 n q44 ) else (f_M_emits q41.2 4 0).bind (fun q45 => l_M_readProduct_6 k26 k35 n q45 )))) else (f_M_readUnit q32 ).bind (fun q35 => if (q35.1) = ((-1)) then some (((-1), q35.2)) else (if (f_M_isSign s 42) = (0) then (f_M_emits q35.2 5 0).bind (fun q38 => l_M_readProduct_6 k26 k35 n q38 ) else (f_M_emits q35.2 4 0).bind (fun q39 => l_M_readProduct_6 k26 k35 n q39 )))))) else (f_M_reads s ).bind (fun q4 => if (f_M_isSign s 42) = (0) then (if (q4 150 16) = (3) then (if (f_M_isSign s 42) = (0) then (if (q4 150 17) = (0) then k35 q4  else (f_M_readUnit q4 ).bind (fun q26 => if (q26.1) = ((-1)) then some (((-1), q26.2)) else (if (f_M_isSign s 42) = (0) then (f_M_emits q26.2 5 0).bind (fun q29 => l_M_readProduct_6 k26 k35 n q29 ) else (f_M_emits q26.2 4 0).bind (fun q30 => l_M_readProduct_6 k26 k35 n q30 )))) else (f_M_readUnit q4 ).bind (fun q20 => if (q20.1) = ((-1)) then some (((-1), q20.2)) else (if (f_M_isSign s 42) = (0) then (f_M_emits q20.2 5 0).bind (fun q23 => l_M_readProduct_6 k26 k35 n q23 ) else (f_M_emits q20.2 4 0).bind (fun q24 => l_M_readProduct_6 k26 k35 n q24 )))) else k26 q4 ) else (if (f_M_isSign s 42) = (0) then (if (q4 150 17) = (0) then k35 q4  else (f_M_readUnit q4 ).bind (fun q13 => if (q13.1) = ((-1)) then some (((-1), q13.2)) else (if (f_M_isSign s 42) = (0) then (f_M_emits q13.2 5 0).bind (fun q16 => l_M_readProduct_6 k26 k35 n q16 ) else (f_M_emits q13.2 4 0).bind (fun q17 => l_M_readProduct_6 k26 k35 n q17 )))) else (f_M_readUnit q4 ).bind (fun q7 => if (q7.1) = ((-1)) then some (((-1), q7.2)) else (if (f_M_isSign s 42) = (0) then (f_M_emits q7.2 5 0).bind (fun q10 => l_M_readProduct_6 k26 k35 n q10 ) else (f_M_emits q7.2 4 0).bind (fun q11 => l_M_readProduct_6 k26 k35 n q11 )))))
set_option maxHeartbeats 4000000 in
set_option maxRecDepth 100000 in
theorem cl_M_readProduct_6 {sc : List Int} {d : Nat} {k26 : px_Z → Option (Int × px_Z)} {k35 : px_Z → Option (Int × px_Z)}  (hk26 : ∀ (s : px_Z) (out : Int × px_Z), k26 s  = some out → px_D sc (d + 4) 181 26 [(0, .inr (.inr 150))] [] (px_G1, s) (px_Qi out)) (hk35 : ∀ (s : px_Z) (out : Int × px_Z), k35 s  = some out → px_D sc (d + 4) 181 35 [(0, .inr (.inr 150))] [] (px_G1, s) (px_Qi out)) : ∀ (n : Nat) (s : px_Z) (out : Int × px_Z), l_M_readProduct_6 k26 k35 n s  = some out → px_D sc (d + 4) 181 6 [(0, .inr (.inr 150))] [] (px_G1, s) (px_Qi out) := by
  intro n
  induction n with
  | zero => intro s out h; cases h
  | succ n ih =>
    intro s out h
    rw [l_M_readProduct_6] at h
    refine px_D_st 2 (ip1 := 8) (ls1 := [(0, .inr (.inr 150))]) (st1 := [.inl (42), .inr (.inr 150)]) (h1 := (px_G1, s)) rfl ?_
    refine px_D_call (as := [.inr (.inr 150), .inl (42)]) (rest := []) rfl rfl rfl rfl ?_
    refine px_D_mono (c_M_isSign (d := d + 3) rfl) ?_
    rintro _ _ ⟨rfl, rfl⟩
    show px_D sc (d + 4) 181 9 [(0, .inr (.inr 150))] [.inl (f_M_isSign s 42)] (px_G1, s) _
    refine px_D_ifc rfl (fun hc => ?_) (fun hc => ?_)
    · have hc3 : ¬ ((f_M_isSign s 42) = (0)) := of_decide_eq_true hc
      rw [if_neg hc3] at h
      refine px_D_st 2 (ip1 := 16) (ls1 := [(0, .inr (.inr 150))]) (st1 := [.inl (42), .inr (.inr 150)]) (h1 := (px_G1, s)) rfl ?_
      refine px_D_call (as := [.inr (.inr 150), .inl (42)]) (rest := []) rfl rfl rfl rfl ?_
      refine px_D_mono (c_M_isSign (d := d + 3) rfl) ?_
      rintro _ _ ⟨rfl, rfl⟩
      show px_D sc (d + 4) 181 17 [(0, .inr (.inr 150))] [.inl (f_M_isSign s 42)] (px_G1, s) _
      refine px_D_st 2 (ip1 := 19) (ls1 := [(1, .inl (f_M_isSign s 42)), (0, .inr (.inr 150))]) (st1 := [.inr (.inr 150)]) (h1 := (px_G1, s)) rfl ?_
      refine px_D_call (as := [.inr (.inr 150)]) (rest := []) rfl rfl rfl rfl ?_
      obtain ⟨q4, hq4, h⟩ := Option.bind_eq_some_iff.mp h
      refine px_D_mono (c_M_reads (d := d + 1) hq4) ?_
      rintro _ _ ⟨rfl, rfl⟩
      show px_D sc (d + 4) 181 20 [(1, .inl (f_M_isSign s 42)), (0, .inr (.inr 150))] [] (px_G1, q4) _
      refine px_D_st 1 (ip1 := 21) (ls1 := [(1, .inl (f_M_isSign s 42)), (0, .inr (.inr 150))]) (st1 := [.inl (f_M_isSign s 42)]) (h1 := (px_G1, q4)) rfl ?_
      refine px_D_ifc rfl (fun hc => ?_) (fun hc => ?_)
      · have hc5 : ¬ ((f_M_isSign s 42) = (0)) := of_decide_eq_true hc
        rw [if_neg hc5] at h
        refine px_D_st 1 (ip1 := 31) (ls1 := [(1, .inl (f_M_isSign s 42)), (0, .inr (.inr 150))]) (st1 := [.inl (f_M_isSign s 42)]) (h1 := (px_G1, q4)) rfl ?_
        refine px_D_ifc rfl (fun hc => ?_) (fun hc => ?_)
        · have hc6 : ¬ ((f_M_isSign s 42) = (0)) := of_decide_eq_true hc
          rw [if_neg hc6] at h
          refine px_D_st 1 (ip1 := 40) (ls1 := [(1, .inl (f_M_isSign s 42)), (0, .inr (.inr 150))]) (st1 := [.inr (.inr 150)]) (h1 := (px_G1, q4)) rfl ?_
          refine px_D_call (as := [.inr (.inr 150)]) (rest := []) rfl rfl rfl rfl ?_
          obtain ⟨q7, hq7, h⟩ := Option.bind_eq_some_iff.mp h
          refine px_D_mono (c_M_readUnit (d := d + 0) hq7) ?_
          rintro _ _ ⟨rfl, rfl⟩
          show px_D sc (d + 4) 181 41 [(1, .inl (f_M_isSign s 42)), (0, .inr (.inr 150))] [.inl (q7.1)] (px_G1, q7.2) _
          refine px_D_st 1 (ip1 := 42) (ls1 := [(1, .inl (f_M_isSign s 42)), (0, .inr (.inr 150))]) (st1 := [.inl ((-1)), .inl (q7.1)]) (h1 := (px_G1, q7.2)) rfl ?_
          refine px_D_icmp rfl (fun hc => ?_) (fun hc => ?_)
          · have hc8 : ¬ ((q7.1) = ((-1))) := of_decide_eq_true hc
            rw [if_neg hc8] at h
            refine px_D_st 2 (ip1 := 47) (ls1 := [(1, .inl (f_M_isSign s 42)), (0, .inr (.inr 150))]) (st1 := [.inl (f_M_isSign s 42), .inr (.inr 150)]) (h1 := (px_G1, q7.2)) rfl ?_
            refine px_D_ifc rfl (fun hc => ?_) (fun hc => ?_)
            · have hc9 : (f_M_isSign s 42) = (0) := of_decide_eq_true hc
              rw [if_pos hc9] at h
              refine px_D_st 2 (ip1 := 52) (ls1 := [(1, .inl (f_M_isSign s 42)), (0, .inr (.inr 150))]) (st1 := [.inl (0), .inl (5), .inr (.inr 150)]) (h1 := (px_G1, q7.2)) rfl ?_
              refine px_D_call (as := [.inr (.inr 150), .inl (5), .inl (0)]) (rest := []) rfl rfl rfl rfl ?_
              obtain ⟨q10, hq10, h⟩ := Option.bind_eq_some_iff.mp h
              refine px_D_mono (c_M_emits (d := d + 3) hq10) ?_
              rintro _ _ ⟨rfl, rfl⟩
              show px_D sc (d + 4) 181 53 [(1, .inl (f_M_isSign s 42)), (0, .inr (.inr 150))] [] (px_G1, q10) _
              refine px_D_st 1 (ip1 := 6) (ls1 := [(1, .inl (f_M_isSign s 42)), (0, .inr (.inr 150))]) (st1 := []) (h1 := (px_G1, q10)) rfl ?_
              refine px_D_ls [(0, .inr (.inr 150))] rfl rfl (List.forall_mem_cons.mpr ⟨rfl, fun _ h => absurd h List.not_mem_nil⟩) ?_
              exact ih _ _ h
            · have hc9 : ¬ ((f_M_isSign s 42) = (0)) := of_decide_eq_false hc
              rw [if_neg hc9] at h
              refine px_D_st 3 (ip1 := 52) (ls1 := [(1, .inl (f_M_isSign s 42)), (0, .inr (.inr 150))]) (st1 := [.inl (0), .inl (4), .inr (.inr 150)]) (h1 := (px_G1, q7.2)) rfl ?_
              refine px_D_call (as := [.inr (.inr 150), .inl (4), .inl (0)]) (rest := []) rfl rfl rfl rfl ?_
              obtain ⟨q11, hq11, h⟩ := Option.bind_eq_some_iff.mp h
              refine px_D_mono (c_M_emits (d := d + 3) hq11) ?_
              rintro _ _ ⟨rfl, rfl⟩
              show px_D sc (d + 4) 181 53 [(1, .inl (f_M_isSign s 42)), (0, .inr (.inr 150))] [] (px_G1, q11) _
              refine px_D_st 1 (ip1 := 6) (ls1 := [(1, .inl (f_M_isSign s 42)), (0, .inr (.inr 150))]) (st1 := []) (h1 := (px_G1, q11)) rfl ?_
              refine px_D_ls [(0, .inr (.inr 150))] rfl rfl (List.forall_mem_cons.mpr ⟨rfl, fun _ h => absurd h List.not_mem_nil⟩) ?_
              exact ih _ _ h
          · have hc8 : (q7.1) = ((-1)) := Decidable.of_not_not (of_decide_eq_false hc)
            rw [if_pos hc8] at h
            refine px_D_st 1 (ip1 := 44) (ls1 := [(1, .inl (f_M_isSign s 42)), (0, .inr (.inr 150))]) (st1 := [.inl ((-1))]) (h1 := (px_G1, q7.2)) rfl ?_
            cases h
            exact px_D_iret rfl rfl ⟨rfl, rfl⟩
        · have hc6 : (f_M_isSign s 42) = (0) := Decidable.of_not_not (of_decide_eq_false hc)
          rw [if_pos hc6] at h
          refine px_D_st 2 (ip1 := 34) (ls1 := [(1, .inl (f_M_isSign s 42)), (0, .inr (.inr 150))]) (st1 := [.inl (q4 150 17)]) (h1 := (px_G1, q4)) rfl ?_
          refine px_D_ifc rfl (fun hc => ?_) (fun hc => ?_)
          · have hc12 : ¬ ((q4 150 17) = (0)) := of_decide_eq_true hc
            rw [if_neg hc12] at h
            refine px_D_st 1 (ip1 := 40) (ls1 := [(1, .inl (f_M_isSign s 42)), (0, .inr (.inr 150))]) (st1 := [.inr (.inr 150)]) (h1 := (px_G1, q4)) rfl ?_
            refine px_D_call (as := [.inr (.inr 150)]) (rest := []) rfl rfl rfl rfl ?_
            obtain ⟨q13, hq13, h⟩ := Option.bind_eq_some_iff.mp h
            refine px_D_mono (c_M_readUnit (d := d + 0) hq13) ?_
            rintro _ _ ⟨rfl, rfl⟩
            show px_D sc (d + 4) 181 41 [(1, .inl (f_M_isSign s 42)), (0, .inr (.inr 150))] [.inl (q13.1)] (px_G1, q13.2) _
            refine px_D_st 1 (ip1 := 42) (ls1 := [(1, .inl (f_M_isSign s 42)), (0, .inr (.inr 150))]) (st1 := [.inl ((-1)), .inl (q13.1)]) (h1 := (px_G1, q13.2)) rfl ?_
            refine px_D_icmp rfl (fun hc => ?_) (fun hc => ?_)
            · have hc14 : ¬ ((q13.1) = ((-1))) := of_decide_eq_true hc
              rw [if_neg hc14] at h
              refine px_D_st 2 (ip1 := 47) (ls1 := [(1, .inl (f_M_isSign s 42)), (0, .inr (.inr 150))]) (st1 := [.inl (f_M_isSign s 42), .inr (.inr 150)]) (h1 := (px_G1, q13.2)) rfl ?_
              refine px_D_ifc rfl (fun hc => ?_) (fun hc => ?_)
              · have hc15 : (f_M_isSign s 42) = (0) := of_decide_eq_true hc
                rw [if_pos hc15] at h
                refine px_D_st 2 (ip1 := 52) (ls1 := [(1, .inl (f_M_isSign s 42)), (0, .inr (.inr 150))]) (st1 := [.inl (0), .inl (5), .inr (.inr 150)]) (h1 := (px_G1, q13.2)) rfl ?_
                refine px_D_call (as := [.inr (.inr 150), .inl (5), .inl (0)]) (rest := []) rfl rfl rfl rfl ?_
                obtain ⟨q16, hq16, h⟩ := Option.bind_eq_some_iff.mp h
                refine px_D_mono (c_M_emits (d := d + 3) hq16) ?_
                rintro _ _ ⟨rfl, rfl⟩
                show px_D sc (d + 4) 181 53 [(1, .inl (f_M_isSign s 42)), (0, .inr (.inr 150))] [] (px_G1, q16) _
                refine px_D_st 1 (ip1 := 6) (ls1 := [(1, .inl (f_M_isSign s 42)), (0, .inr (.inr 150))]) (st1 := []) (h1 := (px_G1, q16)) rfl ?_
                refine px_D_ls [(0, .inr (.inr 150))] rfl rfl (List.forall_mem_cons.mpr ⟨rfl, fun _ h => absurd h List.not_mem_nil⟩) ?_
                exact ih _ _ h
              · have hc15 : ¬ ((f_M_isSign s 42) = (0)) := of_decide_eq_false hc
                rw [if_neg hc15] at h
                refine px_D_st 3 (ip1 := 52) (ls1 := [(1, .inl (f_M_isSign s 42)), (0, .inr (.inr 150))]) (st1 := [.inl (0), .inl (4), .inr (.inr 150)]) (h1 := (px_G1, q13.2)) rfl ?_
                refine px_D_call (as := [.inr (.inr 150), .inl (4), .inl (0)]) (rest := []) rfl rfl rfl rfl ?_
                obtain ⟨q17, hq17, h⟩ := Option.bind_eq_some_iff.mp h
                refine px_D_mono (c_M_emits (d := d + 3) hq17) ?_
                rintro _ _ ⟨rfl, rfl⟩
                show px_D sc (d + 4) 181 53 [(1, .inl (f_M_isSign s 42)), (0, .inr (.inr 150))] [] (px_G1, q17) _
                refine px_D_st 1 (ip1 := 6) (ls1 := [(1, .inl (f_M_isSign s 42)), (0, .inr (.inr 150))]) (st1 := []) (h1 := (px_G1, q17)) rfl ?_
                refine px_D_ls [(0, .inr (.inr 150))] rfl rfl (List.forall_mem_cons.mpr ⟨rfl, fun _ h => absurd h List.not_mem_nil⟩) ?_
                exact ih _ _ h
            · have hc14 : (q13.1) = ((-1)) := Decidable.of_not_not (of_decide_eq_false hc)
              rw [if_pos hc14] at h
              refine px_D_st 1 (ip1 := 44) (ls1 := [(1, .inl (f_M_isSign s 42)), (0, .inr (.inr 150))]) (st1 := [.inl ((-1))]) (h1 := (px_G1, q13.2)) rfl ?_
              cases h
              exact px_D_iret rfl rfl ⟨rfl, rfl⟩
          · have hc12 : (q4 150 17) = (0) := Decidable.of_not_not (of_decide_eq_false hc)
            rw [if_pos hc12] at h
            refine px_D_ls [(0, .inr (.inr 150))] rfl rfl (List.forall_mem_cons.mpr ⟨rfl, fun _ h => absurd h List.not_mem_nil⟩) ?_
            exact hk35 _ _ h
      · have hc5 : (f_M_isSign s 42) = (0) := Decidable.of_not_not (of_decide_eq_false hc)
        rw [if_pos hc5] at h
        refine px_D_st 3 (ip1 := 25) (ls1 := [(1, .inl (f_M_isSign s 42)), (0, .inr (.inr 150))]) (st1 := [.inl (3), .inl (q4 150 16)]) (h1 := (px_G1, q4)) rfl ?_
        refine px_D_icmp rfl (fun hc => ?_) (fun hc => ?_)
        · have hc18 : (q4 150 16) = (3) := of_decide_eq_true hc
          rw [if_pos hc18] at h
          refine px_D_st 1 (ip1 := 31) (ls1 := [(1, .inl (f_M_isSign s 42)), (0, .inr (.inr 150))]) (st1 := [.inl (f_M_isSign s 42)]) (h1 := (px_G1, q4)) rfl ?_
          refine px_D_ifc rfl (fun hc => ?_) (fun hc => ?_)
          · have hc19 : ¬ ((f_M_isSign s 42) = (0)) := of_decide_eq_true hc
            rw [if_neg hc19] at h
            refine px_D_st 1 (ip1 := 40) (ls1 := [(1, .inl (f_M_isSign s 42)), (0, .inr (.inr 150))]) (st1 := [.inr (.inr 150)]) (h1 := (px_G1, q4)) rfl ?_
            refine px_D_call (as := [.inr (.inr 150)]) (rest := []) rfl rfl rfl rfl ?_
            obtain ⟨q20, hq20, h⟩ := Option.bind_eq_some_iff.mp h
            refine px_D_mono (c_M_readUnit (d := d + 0) hq20) ?_
            rintro _ _ ⟨rfl, rfl⟩
            show px_D sc (d + 4) 181 41 [(1, .inl (f_M_isSign s 42)), (0, .inr (.inr 150))] [.inl (q20.1)] (px_G1, q20.2) _
            refine px_D_st 1 (ip1 := 42) (ls1 := [(1, .inl (f_M_isSign s 42)), (0, .inr (.inr 150))]) (st1 := [.inl ((-1)), .inl (q20.1)]) (h1 := (px_G1, q20.2)) rfl ?_
            refine px_D_icmp rfl (fun hc => ?_) (fun hc => ?_)
            · have hc21 : ¬ ((q20.1) = ((-1))) := of_decide_eq_true hc
              rw [if_neg hc21] at h
              refine px_D_st 2 (ip1 := 47) (ls1 := [(1, .inl (f_M_isSign s 42)), (0, .inr (.inr 150))]) (st1 := [.inl (f_M_isSign s 42), .inr (.inr 150)]) (h1 := (px_G1, q20.2)) rfl ?_
              refine px_D_ifc rfl (fun hc => ?_) (fun hc => ?_)
              · have hc22 : (f_M_isSign s 42) = (0) := of_decide_eq_true hc
                rw [if_pos hc22] at h
                refine px_D_st 2 (ip1 := 52) (ls1 := [(1, .inl (f_M_isSign s 42)), (0, .inr (.inr 150))]) (st1 := [.inl (0), .inl (5), .inr (.inr 150)]) (h1 := (px_G1, q20.2)) rfl ?_
                refine px_D_call (as := [.inr (.inr 150), .inl (5), .inl (0)]) (rest := []) rfl rfl rfl rfl ?_
                obtain ⟨q23, hq23, h⟩ := Option.bind_eq_some_iff.mp h
                refine px_D_mono (c_M_emits (d := d + 3) hq23) ?_
                rintro _ _ ⟨rfl, rfl⟩
                show px_D sc (d + 4) 181 53 [(1, .inl (f_M_isSign s 42)), (0, .inr (.inr 150))] [] (px_G1, q23) _
                refine px_D_st 1 (ip1 := 6) (ls1 := [(1, .inl (f_M_isSign s 42)), (0, .inr (.inr 150))]) (st1 := []) (h1 := (px_G1, q23)) rfl ?_
                refine px_D_ls [(0, .inr (.inr 150))] rfl rfl (List.forall_mem_cons.mpr ⟨rfl, fun _ h => absurd h List.not_mem_nil⟩) ?_
                exact ih _ _ h
              · have hc22 : ¬ ((f_M_isSign s 42) = (0)) := of_decide_eq_false hc
                rw [if_neg hc22] at h
                refine px_D_st 3 (ip1 := 52) (ls1 := [(1, .inl (f_M_isSign s 42)), (0, .inr (.inr 150))]) (st1 := [.inl (0), .inl (4), .inr (.inr 150)]) (h1 := (px_G1, q20.2)) rfl ?_
                refine px_D_call (as := [.inr (.inr 150), .inl (4), .inl (0)]) (rest := []) rfl rfl rfl rfl ?_
                obtain ⟨q24, hq24, h⟩ := Option.bind_eq_some_iff.mp h
                refine px_D_mono (c_M_emits (d := d + 3) hq24) ?_
                rintro _ _ ⟨rfl, rfl⟩
                show px_D sc (d + 4) 181 53 [(1, .inl (f_M_isSign s 42)), (0, .inr (.inr 150))] [] (px_G1, q24) _
                refine px_D_st 1 (ip1 := 6) (ls1 := [(1, .inl (f_M_isSign s 42)), (0, .inr (.inr 150))]) (st1 := []) (h1 := (px_G1, q24)) rfl ?_
                refine px_D_ls [(0, .inr (.inr 150))] rfl rfl (List.forall_mem_cons.mpr ⟨rfl, fun _ h => absurd h List.not_mem_nil⟩) ?_
                exact ih _ _ h
            · have hc21 : (q20.1) = ((-1)) := Decidable.of_not_not (of_decide_eq_false hc)
              rw [if_pos hc21] at h
              refine px_D_st 1 (ip1 := 44) (ls1 := [(1, .inl (f_M_isSign s 42)), (0, .inr (.inr 150))]) (st1 := [.inl ((-1))]) (h1 := (px_G1, q20.2)) rfl ?_
              cases h
              exact px_D_iret rfl rfl ⟨rfl, rfl⟩
          · have hc19 : (f_M_isSign s 42) = (0) := Decidable.of_not_not (of_decide_eq_false hc)
            rw [if_pos hc19] at h
            refine px_D_st 2 (ip1 := 34) (ls1 := [(1, .inl (f_M_isSign s 42)), (0, .inr (.inr 150))]) (st1 := [.inl (q4 150 17)]) (h1 := (px_G1, q4)) rfl ?_
            refine px_D_ifc rfl (fun hc => ?_) (fun hc => ?_)
            · have hc25 : ¬ ((q4 150 17) = (0)) := of_decide_eq_true hc
              rw [if_neg hc25] at h
              refine px_D_st 1 (ip1 := 40) (ls1 := [(1, .inl (f_M_isSign s 42)), (0, .inr (.inr 150))]) (st1 := [.inr (.inr 150)]) (h1 := (px_G1, q4)) rfl ?_
              refine px_D_call (as := [.inr (.inr 150)]) (rest := []) rfl rfl rfl rfl ?_
              obtain ⟨q26, hq26, h⟩ := Option.bind_eq_some_iff.mp h
              refine px_D_mono (c_M_readUnit (d := d + 0) hq26) ?_
              rintro _ _ ⟨rfl, rfl⟩
              show px_D sc (d + 4) 181 41 [(1, .inl (f_M_isSign s 42)), (0, .inr (.inr 150))] [.inl (q26.1)] (px_G1, q26.2) _
              refine px_D_st 1 (ip1 := 42) (ls1 := [(1, .inl (f_M_isSign s 42)), (0, .inr (.inr 150))]) (st1 := [.inl ((-1)), .inl (q26.1)]) (h1 := (px_G1, q26.2)) rfl ?_
              refine px_D_icmp rfl (fun hc => ?_) (fun hc => ?_)
              · have hc27 : ¬ ((q26.1) = ((-1))) := of_decide_eq_true hc
                rw [if_neg hc27] at h
                refine px_D_st 2 (ip1 := 47) (ls1 := [(1, .inl (f_M_isSign s 42)), (0, .inr (.inr 150))]) (st1 := [.inl (f_M_isSign s 42), .inr (.inr 150)]) (h1 := (px_G1, q26.2)) rfl ?_
                refine px_D_ifc rfl (fun hc => ?_) (fun hc => ?_)
                · have hc28 : (f_M_isSign s 42) = (0) := of_decide_eq_true hc
                  rw [if_pos hc28] at h
                  refine px_D_st 2 (ip1 := 52) (ls1 := [(1, .inl (f_M_isSign s 42)), (0, .inr (.inr 150))]) (st1 := [.inl (0), .inl (5), .inr (.inr 150)]) (h1 := (px_G1, q26.2)) rfl ?_
                  refine px_D_call (as := [.inr (.inr 150), .inl (5), .inl (0)]) (rest := []) rfl rfl rfl rfl ?_
                  obtain ⟨q29, hq29, h⟩ := Option.bind_eq_some_iff.mp h
                  refine px_D_mono (c_M_emits (d := d + 3) hq29) ?_
                  rintro _ _ ⟨rfl, rfl⟩
                  show px_D sc (d + 4) 181 53 [(1, .inl (f_M_isSign s 42)), (0, .inr (.inr 150))] [] (px_G1, q29) _
                  refine px_D_st 1 (ip1 := 6) (ls1 := [(1, .inl (f_M_isSign s 42)), (0, .inr (.inr 150))]) (st1 := []) (h1 := (px_G1, q29)) rfl ?_
                  refine px_D_ls [(0, .inr (.inr 150))] rfl rfl (List.forall_mem_cons.mpr ⟨rfl, fun _ h => absurd h List.not_mem_nil⟩) ?_
                  exact ih _ _ h
                · have hc28 : ¬ ((f_M_isSign s 42) = (0)) := of_decide_eq_false hc
                  rw [if_neg hc28] at h
                  refine px_D_st 3 (ip1 := 52) (ls1 := [(1, .inl (f_M_isSign s 42)), (0, .inr (.inr 150))]) (st1 := [.inl (0), .inl (4), .inr (.inr 150)]) (h1 := (px_G1, q26.2)) rfl ?_
                  refine px_D_call (as := [.inr (.inr 150), .inl (4), .inl (0)]) (rest := []) rfl rfl rfl rfl ?_
                  obtain ⟨q30, hq30, h⟩ := Option.bind_eq_some_iff.mp h
                  refine px_D_mono (c_M_emits (d := d + 3) hq30) ?_
                  rintro _ _ ⟨rfl, rfl⟩
                  show px_D sc (d + 4) 181 53 [(1, .inl (f_M_isSign s 42)), (0, .inr (.inr 150))] [] (px_G1, q30) _
                  refine px_D_st 1 (ip1 := 6) (ls1 := [(1, .inl (f_M_isSign s 42)), (0, .inr (.inr 150))]) (st1 := []) (h1 := (px_G1, q30)) rfl ?_
                  refine px_D_ls [(0, .inr (.inr 150))] rfl rfl (List.forall_mem_cons.mpr ⟨rfl, fun _ h => absurd h List.not_mem_nil⟩) ?_
                  exact ih _ _ h
              · have hc27 : (q26.1) = ((-1)) := Decidable.of_not_not (of_decide_eq_false hc)
                rw [if_pos hc27] at h
                refine px_D_st 1 (ip1 := 44) (ls1 := [(1, .inl (f_M_isSign s 42)), (0, .inr (.inr 150))]) (st1 := [.inl ((-1))]) (h1 := (px_G1, q26.2)) rfl ?_
                cases h
                exact px_D_iret rfl rfl ⟨rfl, rfl⟩
            · have hc25 : (q4 150 17) = (0) := Decidable.of_not_not (of_decide_eq_false hc)
              rw [if_pos hc25] at h
              refine px_D_ls [(0, .inr (.inr 150))] rfl rfl (List.forall_mem_cons.mpr ⟨rfl, fun _ h => absurd h List.not_mem_nil⟩) ?_
              exact hk35 _ _ h
        · have hc18 : ¬ ((q4 150 16) = (3)) := of_decide_eq_false hc
          rw [if_neg hc18] at h
          refine px_D_ls [(0, .inr (.inr 150))] rfl rfl (List.forall_mem_cons.mpr ⟨rfl, fun _ h => absurd h List.not_mem_nil⟩) ?_
          exact hk26 _ _ h
    · have hc3 : (f_M_isSign s 42) = (0) := Decidable.of_not_not (of_decide_eq_false hc)
      rw [if_pos hc3] at h
      refine px_D_st 2 (ip1 := 12) (ls1 := [(0, .inr (.inr 150))]) (st1 := [.inl (47), .inr (.inr 150)]) (h1 := (px_G1, s)) rfl ?_
      refine px_D_call (as := [.inr (.inr 150), .inl (47)]) (rest := []) rfl rfl rfl rfl ?_
      refine px_D_mono (c_M_isSign (d := d + 3) rfl) ?_
      rintro _ _ ⟨rfl, rfl⟩
      show px_D sc (d + 4) 181 13 [(0, .inr (.inr 150))] [.inl (f_M_isSign s 47)] (px_G1, s) _
      refine px_D_ifc rfl (fun hc => ?_) (fun hc => ?_)
      · have hc31 : (f_M_isSign s 47) = (0) := of_decide_eq_true hc
        rw [if_pos hc31] at h
        refine px_D_st 1 (ip1 := 55) (ls1 := [(0, .inr (.inr 150))]) (st1 := [.inl (0)]) (h1 := (px_G1, s)) rfl ?_
        cases h
        exact px_D_iret rfl rfl ⟨rfl, rfl⟩
      · have hc31 : ¬ ((f_M_isSign s 47) = (0)) := of_decide_eq_false hc
        rw [if_neg hc31] at h
        refine px_D_st 2 (ip1 := 16) (ls1 := [(0, .inr (.inr 150))]) (st1 := [.inl (42), .inr (.inr 150)]) (h1 := (px_G1, s)) rfl ?_
        refine px_D_call (as := [.inr (.inr 150), .inl (42)]) (rest := []) rfl rfl rfl rfl ?_
        refine px_D_mono (c_M_isSign (d := d + 3) rfl) ?_
        rintro _ _ ⟨rfl, rfl⟩
        show px_D sc (d + 4) 181 17 [(0, .inr (.inr 150))] [.inl (f_M_isSign s 42)] (px_G1, s) _
        refine px_D_st 2 (ip1 := 19) (ls1 := [(1, .inl (f_M_isSign s 42)), (0, .inr (.inr 150))]) (st1 := [.inr (.inr 150)]) (h1 := (px_G1, s)) rfl ?_
        refine px_D_call (as := [.inr (.inr 150)]) (rest := []) rfl rfl rfl rfl ?_
        obtain ⟨q32, hq32, h⟩ := Option.bind_eq_some_iff.mp h
        refine px_D_mono (c_M_reads (d := d + 1) hq32) ?_
        rintro _ _ ⟨rfl, rfl⟩
        show px_D sc (d + 4) 181 20 [(1, .inl (f_M_isSign s 42)), (0, .inr (.inr 150))] [] (px_G1, q32) _
        refine px_D_st 1 (ip1 := 21) (ls1 := [(1, .inl (f_M_isSign s 42)), (0, .inr (.inr 150))]) (st1 := [.inl (f_M_isSign s 42)]) (h1 := (px_G1, q32)) rfl ?_
        refine px_D_ifc rfl (fun hc => ?_) (fun hc => ?_)
        · have hc33 : ¬ ((f_M_isSign s 42) = (0)) := of_decide_eq_true hc
          rw [if_neg hc33] at h
          refine px_D_st 1 (ip1 := 31) (ls1 := [(1, .inl (f_M_isSign s 42)), (0, .inr (.inr 150))]) (st1 := [.inl (f_M_isSign s 42)]) (h1 := (px_G1, q32)) rfl ?_
          refine px_D_ifc rfl (fun hc => ?_) (fun hc => ?_)
          · have hc34 : ¬ ((f_M_isSign s 42) = (0)) := of_decide_eq_true hc
            rw [if_neg hc34] at h
            refine px_D_st 1 (ip1 := 40) (ls1 := [(1, .inl (f_M_isSign s 42)), (0, .inr (.inr 150))]) (st1 := [.inr (.inr 150)]) (h1 := (px_G1, q32)) rfl ?_
            refine px_D_call (as := [.inr (.inr 150)]) (rest := []) rfl rfl rfl rfl ?_
            obtain ⟨q35, hq35, h⟩ := Option.bind_eq_some_iff.mp h
            refine px_D_mono (c_M_readUnit (d := d + 0) hq35) ?_
            rintro _ _ ⟨rfl, rfl⟩
            show px_D sc (d + 4) 181 41 [(1, .inl (f_M_isSign s 42)), (0, .inr (.inr 150))] [.inl (q35.1)] (px_G1, q35.2) _
            refine px_D_st 1 (ip1 := 42) (ls1 := [(1, .inl (f_M_isSign s 42)), (0, .inr (.inr 150))]) (st1 := [.inl ((-1)), .inl (q35.1)]) (h1 := (px_G1, q35.2)) rfl ?_
            refine px_D_icmp rfl (fun hc => ?_) (fun hc => ?_)
            · have hc36 : ¬ ((q35.1) = ((-1))) := of_decide_eq_true hc
              rw [if_neg hc36] at h
              refine px_D_st 2 (ip1 := 47) (ls1 := [(1, .inl (f_M_isSign s 42)), (0, .inr (.inr 150))]) (st1 := [.inl (f_M_isSign s 42), .inr (.inr 150)]) (h1 := (px_G1, q35.2)) rfl ?_
              refine px_D_ifc rfl (fun hc => ?_) (fun hc => ?_)
              · have hc37 : (f_M_isSign s 42) = (0) := of_decide_eq_true hc
                rw [if_pos hc37] at h
                refine px_D_st 2 (ip1 := 52) (ls1 := [(1, .inl (f_M_isSign s 42)), (0, .inr (.inr 150))]) (st1 := [.inl (0), .inl (5), .inr (.inr 150)]) (h1 := (px_G1, q35.2)) rfl ?_
                refine px_D_call (as := [.inr (.inr 150), .inl (5), .inl (0)]) (rest := []) rfl rfl rfl rfl ?_
                obtain ⟨q38, hq38, h⟩ := Option.bind_eq_some_iff.mp h
                refine px_D_mono (c_M_emits (d := d + 3) hq38) ?_
                rintro _ _ ⟨rfl, rfl⟩
                show px_D sc (d + 4) 181 53 [(1, .inl (f_M_isSign s 42)), (0, .inr (.inr 150))] [] (px_G1, q38) _
                refine px_D_st 1 (ip1 := 6) (ls1 := [(1, .inl (f_M_isSign s 42)), (0, .inr (.inr 150))]) (st1 := []) (h1 := (px_G1, q38)) rfl ?_
                refine px_D_ls [(0, .inr (.inr 150))] rfl rfl (List.forall_mem_cons.mpr ⟨rfl, fun _ h => absurd h List.not_mem_nil⟩) ?_
                exact ih _ _ h
              · have hc37 : ¬ ((f_M_isSign s 42) = (0)) := of_decide_eq_false hc
                rw [if_neg hc37] at h
                refine px_D_st 3 (ip1 := 52) (ls1 := [(1, .inl (f_M_isSign s 42)), (0, .inr (.inr 150))]) (st1 := [.inl (0), .inl (4), .inr (.inr 150)]) (h1 := (px_G1, q35.2)) rfl ?_
                refine px_D_call (as := [.inr (.inr 150), .inl (4), .inl (0)]) (rest := []) rfl rfl rfl rfl ?_
                obtain ⟨q39, hq39, h⟩ := Option.bind_eq_some_iff.mp h
                refine px_D_mono (c_M_emits (d := d + 3) hq39) ?_
                rintro _ _ ⟨rfl, rfl⟩
                show px_D sc (d + 4) 181 53 [(1, .inl (f_M_isSign s 42)), (0, .inr (.inr 150))] [] (px_G1, q39) _
                refine px_D_st 1 (ip1 := 6) (ls1 := [(1, .inl (f_M_isSign s 42)), (0, .inr (.inr 150))]) (st1 := []) (h1 := (px_G1, q39)) rfl ?_
                refine px_D_ls [(0, .inr (.inr 150))] rfl rfl (List.forall_mem_cons.mpr ⟨rfl, fun _ h => absurd h List.not_mem_nil⟩) ?_
                exact ih _ _ h
            · have hc36 : (q35.1) = ((-1)) := Decidable.of_not_not (of_decide_eq_false hc)
              rw [if_pos hc36] at h
              refine px_D_st 1 (ip1 := 44) (ls1 := [(1, .inl (f_M_isSign s 42)), (0, .inr (.inr 150))]) (st1 := [.inl ((-1))]) (h1 := (px_G1, q35.2)) rfl ?_
              cases h
              exact px_D_iret rfl rfl ⟨rfl, rfl⟩
          · have hc34 : (f_M_isSign s 42) = (0) := Decidable.of_not_not (of_decide_eq_false hc)
            rw [if_pos hc34] at h
            refine px_D_st 2 (ip1 := 34) (ls1 := [(1, .inl (f_M_isSign s 42)), (0, .inr (.inr 150))]) (st1 := [.inl (q32 150 17)]) (h1 := (px_G1, q32)) rfl ?_
            refine px_D_ifc rfl (fun hc => ?_) (fun hc => ?_)
            · have hc40 : ¬ ((q32 150 17) = (0)) := of_decide_eq_true hc
              rw [if_neg hc40] at h
              refine px_D_st 1 (ip1 := 40) (ls1 := [(1, .inl (f_M_isSign s 42)), (0, .inr (.inr 150))]) (st1 := [.inr (.inr 150)]) (h1 := (px_G1, q32)) rfl ?_
              refine px_D_call (as := [.inr (.inr 150)]) (rest := []) rfl rfl rfl rfl ?_
              obtain ⟨q41, hq41, h⟩ := Option.bind_eq_some_iff.mp h
              refine px_D_mono (c_M_readUnit (d := d + 0) hq41) ?_
              rintro _ _ ⟨rfl, rfl⟩
              show px_D sc (d + 4) 181 41 [(1, .inl (f_M_isSign s 42)), (0, .inr (.inr 150))] [.inl (q41.1)] (px_G1, q41.2) _
              refine px_D_st 1 (ip1 := 42) (ls1 := [(1, .inl (f_M_isSign s 42)), (0, .inr (.inr 150))]) (st1 := [.inl ((-1)), .inl (q41.1)]) (h1 := (px_G1, q41.2)) rfl ?_
              refine px_D_icmp rfl (fun hc => ?_) (fun hc => ?_)
              · have hc42 : ¬ ((q41.1) = ((-1))) := of_decide_eq_true hc
                rw [if_neg hc42] at h
                refine px_D_st 2 (ip1 := 47) (ls1 := [(1, .inl (f_M_isSign s 42)), (0, .inr (.inr 150))]) (st1 := [.inl (f_M_isSign s 42), .inr (.inr 150)]) (h1 := (px_G1, q41.2)) rfl ?_
                refine px_D_ifc rfl (fun hc => ?_) (fun hc => ?_)
                · have hc43 : (f_M_isSign s 42) = (0) := of_decide_eq_true hc
                  rw [if_pos hc43] at h
                  refine px_D_st 2 (ip1 := 52) (ls1 := [(1, .inl (f_M_isSign s 42)), (0, .inr (.inr 150))]) (st1 := [.inl (0), .inl (5), .inr (.inr 150)]) (h1 := (px_G1, q41.2)) rfl ?_
                  refine px_D_call (as := [.inr (.inr 150), .inl (5), .inl (0)]) (rest := []) rfl rfl rfl rfl ?_
                  obtain ⟨q44, hq44, h⟩ := Option.bind_eq_some_iff.mp h
                  refine px_D_mono (c_M_emits (d := d + 3) hq44) ?_
                  rintro _ _ ⟨rfl, rfl⟩
                  show px_D sc (d + 4) 181 53 [(1, .inl (f_M_isSign s 42)), (0, .inr (.inr 150))] [] (px_G1, q44) _
                  refine px_D_st 1 (ip1 := 6) (ls1 := [(1, .inl (f_M_isSign s 42)), (0, .inr (.inr 150))]) (st1 := []) (h1 := (px_G1, q44)) rfl ?_
                  refine px_D_ls [(0, .inr (.inr 150))] rfl rfl (List.forall_mem_cons.mpr ⟨rfl, fun _ h => absurd h List.not_mem_nil⟩) ?_
                  exact ih _ _ h
                · have hc43 : ¬ ((f_M_isSign s 42) = (0)) := of_decide_eq_false hc
                  rw [if_neg hc43] at h
                  refine px_D_st 3 (ip1 := 52) (ls1 := [(1, .inl (f_M_isSign s 42)), (0, .inr (.inr 150))]) (st1 := [.inl (0), .inl (4), .inr (.inr 150)]) (h1 := (px_G1, q41.2)) rfl ?_
                  refine px_D_call (as := [.inr (.inr 150), .inl (4), .inl (0)]) (rest := []) rfl rfl rfl rfl ?_
                  obtain ⟨q45, hq45, h⟩ := Option.bind_eq_some_iff.mp h
                  refine px_D_mono (c_M_emits (d := d + 3) hq45) ?_
                  rintro _ _ ⟨rfl, rfl⟩
                  show px_D sc (d + 4) 181 53 [(1, .inl (f_M_isSign s 42)), (0, .inr (.inr 150))] [] (px_G1, q45) _
                  refine px_D_st 1 (ip1 := 6) (ls1 := [(1, .inl (f_M_isSign s 42)), (0, .inr (.inr 150))]) (st1 := []) (h1 := (px_G1, q45)) rfl ?_
                  refine px_D_ls [(0, .inr (.inr 150))] rfl rfl (List.forall_mem_cons.mpr ⟨rfl, fun _ h => absurd h List.not_mem_nil⟩) ?_
                  exact ih _ _ h
              · have hc42 : (q41.1) = ((-1)) := Decidable.of_not_not (of_decide_eq_false hc)
                rw [if_pos hc42] at h
                refine px_D_st 1 (ip1 := 44) (ls1 := [(1, .inl (f_M_isSign s 42)), (0, .inr (.inr 150))]) (st1 := [.inl ((-1))]) (h1 := (px_G1, q41.2)) rfl ?_
                cases h
                exact px_D_iret rfl rfl ⟨rfl, rfl⟩
            · have hc40 : (q32 150 17) = (0) := Decidable.of_not_not (of_decide_eq_false hc)
              rw [if_pos hc40] at h
              refine px_D_ls [(0, .inr (.inr 150))] rfl rfl (List.forall_mem_cons.mpr ⟨rfl, fun _ h => absurd h List.not_mem_nil⟩) ?_
              exact hk35 _ _ h
        · have hc33 : (f_M_isSign s 42) = (0) := Decidable.of_not_not (of_decide_eq_false hc)
          rw [if_pos hc33] at h
          refine px_D_st 3 (ip1 := 25) (ls1 := [(1, .inl (f_M_isSign s 42)), (0, .inr (.inr 150))]) (st1 := [.inl (3), .inl (q32 150 16)]) (h1 := (px_G1, q32)) rfl ?_
          refine px_D_icmp rfl (fun hc => ?_) (fun hc => ?_)
          · have hc46 : (q32 150 16) = (3) := of_decide_eq_true hc
            rw [if_pos hc46] at h
            refine px_D_st 1 (ip1 := 31) (ls1 := [(1, .inl (f_M_isSign s 42)), (0, .inr (.inr 150))]) (st1 := [.inl (f_M_isSign s 42)]) (h1 := (px_G1, q32)) rfl ?_
            refine px_D_ifc rfl (fun hc => ?_) (fun hc => ?_)
            · have hc47 : ¬ ((f_M_isSign s 42) = (0)) := of_decide_eq_true hc
              rw [if_neg hc47] at h
              refine px_D_st 1 (ip1 := 40) (ls1 := [(1, .inl (f_M_isSign s 42)), (0, .inr (.inr 150))]) (st1 := [.inr (.inr 150)]) (h1 := (px_G1, q32)) rfl ?_
              refine px_D_call (as := [.inr (.inr 150)]) (rest := []) rfl rfl rfl rfl ?_
              obtain ⟨q48, hq48, h⟩ := Option.bind_eq_some_iff.mp h
              refine px_D_mono (c_M_readUnit (d := d + 0) hq48) ?_
              rintro _ _ ⟨rfl, rfl⟩
              show px_D sc (d + 4) 181 41 [(1, .inl (f_M_isSign s 42)), (0, .inr (.inr 150))] [.inl (q48.1)] (px_G1, q48.2) _
              refine px_D_st 1 (ip1 := 42) (ls1 := [(1, .inl (f_M_isSign s 42)), (0, .inr (.inr 150))]) (st1 := [.inl ((-1)), .inl (q48.1)]) (h1 := (px_G1, q48.2)) rfl ?_
              refine px_D_icmp rfl (fun hc => ?_) (fun hc => ?_)
              · have hc49 : ¬ ((q48.1) = ((-1))) := of_decide_eq_true hc
                rw [if_neg hc49] at h
                refine px_D_st 2 (ip1 := 47) (ls1 := [(1, .inl (f_M_isSign s 42)), (0, .inr (.inr 150))]) (st1 := [.inl (f_M_isSign s 42), .inr (.inr 150)]) (h1 := (px_G1, q48.2)) rfl ?_
                refine px_D_ifc rfl (fun hc => ?_) (fun hc => ?_)
                · have hc50 : (f_M_isSign s 42) = (0) := of_decide_eq_true hc
                  rw [if_pos hc50] at h
                  refine px_D_st 2 (ip1 := 52) (ls1 := [(1, .inl (f_M_isSign s 42)), (0, .inr (.inr 150))]) (st1 := [.inl (0), .inl (5), .inr (.inr 150)]) (h1 := (px_G1, q48.2)) rfl ?_
                  refine px_D_call (as := [.inr (.inr 150), .inl (5), .inl (0)]) (rest := []) rfl rfl rfl rfl ?_
                  obtain ⟨q51, hq51, h⟩ := Option.bind_eq_some_iff.mp h
                  refine px_D_mono (c_M_emits (d := d + 3) hq51) ?_
                  rintro _ _ ⟨rfl, rfl⟩
                  show px_D sc (d + 4) 181 53 [(1, .inl (f_M_isSign s 42)), (0, .inr (.inr 150))] [] (px_G1, q51) _
                  refine px_D_st 1 (ip1 := 6) (ls1 := [(1, .inl (f_M_isSign s 42)), (0, .inr (.inr 150))]) (st1 := []) (h1 := (px_G1, q51)) rfl ?_
                  refine px_D_ls [(0, .inr (.inr 150))] rfl rfl (List.forall_mem_cons.mpr ⟨rfl, fun _ h => absurd h List.not_mem_nil⟩) ?_
                  exact ih _ _ h
                · have hc50 : ¬ ((f_M_isSign s 42) = (0)) := of_decide_eq_false hc
                  rw [if_neg hc50] at h
                  refine px_D_st 3 (ip1 := 52) (ls1 := [(1, .inl (f_M_isSign s 42)), (0, .inr (.inr 150))]) (st1 := [.inl (0), .inl (4), .inr (.inr 150)]) (h1 := (px_G1, q48.2)) rfl ?_
                  refine px_D_call (as := [.inr (.inr 150), .inl (4), .inl (0)]) (rest := []) rfl rfl rfl rfl ?_
                  obtain ⟨q52, hq52, h⟩ := Option.bind_eq_some_iff.mp h
                  refine px_D_mono (c_M_emits (d := d + 3) hq52) ?_
                  rintro _ _ ⟨rfl, rfl⟩
                  show px_D sc (d + 4) 181 53 [(1, .inl (f_M_isSign s 42)), (0, .inr (.inr 150))] [] (px_G1, q52) _
                  refine px_D_st 1 (ip1 := 6) (ls1 := [(1, .inl (f_M_isSign s 42)), (0, .inr (.inr 150))]) (st1 := []) (h1 := (px_G1, q52)) rfl ?_
                  refine px_D_ls [(0, .inr (.inr 150))] rfl rfl (List.forall_mem_cons.mpr ⟨rfl, fun _ h => absurd h List.not_mem_nil⟩) ?_
                  exact ih _ _ h
              · have hc49 : (q48.1) = ((-1)) := Decidable.of_not_not (of_decide_eq_false hc)
                rw [if_pos hc49] at h
                refine px_D_st 1 (ip1 := 44) (ls1 := [(1, .inl (f_M_isSign s 42)), (0, .inr (.inr 150))]) (st1 := [.inl ((-1))]) (h1 := (px_G1, q48.2)) rfl ?_
                cases h
                exact px_D_iret rfl rfl ⟨rfl, rfl⟩
            · have hc47 : (f_M_isSign s 42) = (0) := Decidable.of_not_not (of_decide_eq_false hc)
              rw [if_pos hc47] at h
              refine px_D_st 2 (ip1 := 34) (ls1 := [(1, .inl (f_M_isSign s 42)), (0, .inr (.inr 150))]) (st1 := [.inl (q32 150 17)]) (h1 := (px_G1, q32)) rfl ?_
              refine px_D_ifc rfl (fun hc => ?_) (fun hc => ?_)
              · have hc53 : ¬ ((q32 150 17) = (0)) := of_decide_eq_true hc
                rw [if_neg hc53] at h
                refine px_D_st 1 (ip1 := 40) (ls1 := [(1, .inl (f_M_isSign s 42)), (0, .inr (.inr 150))]) (st1 := [.inr (.inr 150)]) (h1 := (px_G1, q32)) rfl ?_
                refine px_D_call (as := [.inr (.inr 150)]) (rest := []) rfl rfl rfl rfl ?_
                obtain ⟨q54, hq54, h⟩ := Option.bind_eq_some_iff.mp h
                refine px_D_mono (c_M_readUnit (d := d + 0) hq54) ?_
                rintro _ _ ⟨rfl, rfl⟩
                show px_D sc (d + 4) 181 41 [(1, .inl (f_M_isSign s 42)), (0, .inr (.inr 150))] [.inl (q54.1)] (px_G1, q54.2) _
                refine px_D_st 1 (ip1 := 42) (ls1 := [(1, .inl (f_M_isSign s 42)), (0, .inr (.inr 150))]) (st1 := [.inl ((-1)), .inl (q54.1)]) (h1 := (px_G1, q54.2)) rfl ?_
                refine px_D_icmp rfl (fun hc => ?_) (fun hc => ?_)
                · have hc55 : ¬ ((q54.1) = ((-1))) := of_decide_eq_true hc
                  rw [if_neg hc55] at h
                  refine px_D_st 2 (ip1 := 47) (ls1 := [(1, .inl (f_M_isSign s 42)), (0, .inr (.inr 150))]) (st1 := [.inl (f_M_isSign s 42), .inr (.inr 150)]) (h1 := (px_G1, q54.2)) rfl ?_
                  refine px_D_ifc rfl (fun hc => ?_) (fun hc => ?_)
                  · have hc56 : (f_M_isSign s 42) = (0) := of_decide_eq_true hc
                    rw [if_pos hc56] at h
                    refine px_D_st 2 (ip1 := 52) (ls1 := [(1, .inl (f_M_isSign s 42)), (0, .inr (.inr 150))]) (st1 := [.inl (0), .inl (5), .inr (.inr 150)]) (h1 := (px_G1, q54.2)) rfl ?_
                    refine px_D_call (as := [.inr (.inr 150), .inl (5), .inl (0)]) (rest := []) rfl rfl rfl rfl ?_
                    obtain ⟨q57, hq57, h⟩ := Option.bind_eq_some_iff.mp h
                    refine px_D_mono (c_M_emits (d := d + 3) hq57) ?_
                    rintro _ _ ⟨rfl, rfl⟩
                    show px_D sc (d + 4) 181 53 [(1, .inl (f_M_isSign s 42)), (0, .inr (.inr 150))] [] (px_G1, q57) _
                    refine px_D_st 1 (ip1 := 6) (ls1 := [(1, .inl (f_M_isSign s 42)), (0, .inr (.inr 150))]) (st1 := []) (h1 := (px_G1, q57)) rfl ?_
                    refine px_D_ls [(0, .inr (.inr 150))] rfl rfl (List.forall_mem_cons.mpr ⟨rfl, fun _ h => absurd h List.not_mem_nil⟩) ?_
                    exact ih _ _ h
                  · have hc56 : ¬ ((f_M_isSign s 42) = (0)) := of_decide_eq_false hc
                    rw [if_neg hc56] at h
                    refine px_D_st 3 (ip1 := 52) (ls1 := [(1, .inl (f_M_isSign s 42)), (0, .inr (.inr 150))]) (st1 := [.inl (0), .inl (4), .inr (.inr 150)]) (h1 := (px_G1, q54.2)) rfl ?_
                    refine px_D_call (as := [.inr (.inr 150), .inl (4), .inl (0)]) (rest := []) rfl rfl rfl rfl ?_
                    obtain ⟨q58, hq58, h⟩ := Option.bind_eq_some_iff.mp h
                    refine px_D_mono (c_M_emits (d := d + 3) hq58) ?_
                    rintro _ _ ⟨rfl, rfl⟩
                    show px_D sc (d + 4) 181 53 [(1, .inl (f_M_isSign s 42)), (0, .inr (.inr 150))] [] (px_G1, q58) _
                    refine px_D_st 1 (ip1 := 6) (ls1 := [(1, .inl (f_M_isSign s 42)), (0, .inr (.inr 150))]) (st1 := []) (h1 := (px_G1, q58)) rfl ?_
                    refine px_D_ls [(0, .inr (.inr 150))] rfl rfl (List.forall_mem_cons.mpr ⟨rfl, fun _ h => absurd h List.not_mem_nil⟩) ?_
                    exact ih _ _ h
                · have hc55 : (q54.1) = ((-1)) := Decidable.of_not_not (of_decide_eq_false hc)
                  rw [if_pos hc55] at h
                  refine px_D_st 1 (ip1 := 44) (ls1 := [(1, .inl (f_M_isSign s 42)), (0, .inr (.inr 150))]) (st1 := [.inl ((-1))]) (h1 := (px_G1, q54.2)) rfl ?_
                  cases h
                  exact px_D_iret rfl rfl ⟨rfl, rfl⟩
              · have hc53 : (q32 150 17) = (0) := Decidable.of_not_not (of_decide_eq_false hc)
                rw [if_pos hc53] at h
                refine px_D_ls [(0, .inr (.inr 150))] rfl rfl (List.forall_mem_cons.mpr ⟨rfl, fun _ h => absurd h List.not_mem_nil⟩) ?_
                exact hk35 _ _ h
          · have hc46 : ¬ ((q32 150 16) = (3)) := of_decide_eq_false hc
            rw [if_neg hc46] at h
            refine px_D_ls [(0, .inr (.inr 150))] rfl rfl (List.forall_mem_cons.mpr ⟨rfl, fun _ h => absurd h List.not_mem_nil⟩) ?_
            exact hk26 _ _ h
def f_M_readProduct (s : px_Z) : Option (Int × px_Z) := (f_M_readUnit s ).bind (fun q1 => if (q1.1) = ((-1)) then some (((-1), q1.2)) else l_M_readProduct_6 (fun s => (f_M_errs s 1).bind (fun q59 => some (q59.1, q59.2))) (fun s => (f_M_errs s 2).bind (fun q60 => some (q60.1, q60.2))) px_big q1.2 )
set_option maxHeartbeats 4000000 in
set_option maxRecDepth 100000 in
theorem c_M_readProduct {sc : List Int} {d : Nat} {s : px_Z} {out : Int × px_Z} (h : f_M_readProduct s  = some out) : px_D sc (d + 4) 181 0 [(0, .inr (.inr 150))] [] (px_G1, s) (px_Qi out) := by
  unfold f_M_readProduct at h
  refine px_D_st 1 (ip1 := 1) (ls1 := [(0, .inr (.inr 150))]) (st1 := [.inr (.inr 150)]) (h1 := (px_G1, s)) rfl ?_
  refine px_D_call (as := [.inr (.inr 150)]) (rest := []) rfl rfl rfl rfl ?_
  obtain ⟨q1, hq1, h⟩ := Option.bind_eq_some_iff.mp h
  refine px_D_mono (c_M_readUnit (d := d + 0) hq1) ?_
  rintro _ _ ⟨rfl, rfl⟩
  show px_D sc (d + 4) 181 2 [(0, .inr (.inr 150))] [.inl (q1.1)] (px_G1, q1.2) _
  refine px_D_st 1 (ip1 := 3) (ls1 := [(0, .inr (.inr 150))]) (st1 := [.inl ((-1)), .inl (q1.1)]) (h1 := (px_G1, q1.2)) rfl ?_
  refine px_D_icmp rfl (fun hc => ?_) (fun hc => ?_)
  · have hc2 : ¬ ((q1.1) = ((-1))) := of_decide_eq_true hc
    rw [if_neg hc2] at h
    refine px_D_ls [(0, .inr (.inr 150))] rfl rfl (List.forall_mem_cons.mpr ⟨rfl, fun _ h => absurd h List.not_mem_nil⟩) ?_
    refine cl_M_readProduct_6 ?_ ?_ px_big _ _ h
    · intro s out h
      refine px_D_st 2 (ip1 := 28) (ls1 := [(0, .inr (.inr 150))]) (st1 := [.inl (1), .inr (.inr 150)]) (h1 := (px_G1, s)) rfl ?_
      refine px_D_call (as := [.inr (.inr 150), .inl (1)]) (rest := []) rfl rfl rfl rfl ?_
      obtain ⟨q59, hq59, h⟩ := Option.bind_eq_some_iff.mp h
      refine px_D_mono (c_M_errs (d := d + 3) hq59) ?_
      rintro _ _ ⟨rfl, rfl⟩
      show px_D sc (d + 4) 181 29 [(0, .inr (.inr 150))] [.inl (q59.1)] (px_G1, q59.2) _
      cases h
      exact px_D_iret rfl rfl ⟨rfl, rfl⟩
    · intro s out h
      refine px_D_st 2 (ip1 := 37) (ls1 := [(0, .inr (.inr 150))]) (st1 := [.inl (2), .inr (.inr 150)]) (h1 := (px_G1, s)) rfl ?_
      refine px_D_call (as := [.inr (.inr 150), .inl (2)]) (rest := []) rfl rfl rfl rfl ?_
      obtain ⟨q60, hq60, h⟩ := Option.bind_eq_some_iff.mp h
      refine px_D_mono (c_M_errs (d := d + 3) hq60) ?_
      rintro _ _ ⟨rfl, rfl⟩
      show px_D sc (d + 4) 181 38 [(0, .inr (.inr 150))] [.inl (q60.1)] (px_G1, q60.2) _
      cases h
      exact px_D_iret rfl rfl ⟨rfl, rfl⟩
  · have hc2 : (q1.1) = ((-1)) := Decidable.of_not_not (of_decide_eq_false hc)
    rw [if_pos hc2] at h
    refine px_D_st 1 (ip1 := 5) (ls1 := [(0, .inr (.inr 150))]) (st1 := [.inl ((-1))]) (h1 := (px_G1, q1.2)) rfl ?_
    cases h
    exact px_D_iret rfl rfl ⟨rfl, rfl⟩
