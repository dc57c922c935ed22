def f_M_priceOf (s : px_Z) (x1 : Int) : Option (Int × px_Z) := (f_M_asks s x1).bind (fun q1 => (f_M_priceAsked q1 x1).bind (fun q2 => some (q2.1, q2.2)))
set_option maxHeartbeats 4000000 in
set_option maxRecDepth 100000 in
theorem c_M_priceOf {sc : List Int} {d : Nat} {s : px_Z} {x1 : Int} {out : Int × px_Z} (h : f_M_priceOf s x1 = some out) : px_D sc (d + 5) 220 0 [(0, .inr (.inr 150)), (1, .inl (x1))] [] (px_G1, s) (px_Qi out) := by
  unfold f_M_priceOf at h
  refine px_D_st 2 (ip1 := 2) (ls1 := [(0, .inr (.inr 150)), (1, .inl (x1))]) (st1 := [.inl (x1), .inr (.inr 150)]) (h1 := (px_G1, s)) rfl ?_
  refine px_D_call (as := [.inr (.inr 150), .inl (x1)]) (rest := []) rfl rfl rfl rfl ?_
  obtain ⟨q1, hq1, h⟩ := Option.bind_eq_some_iff.mp h
  refine px_D_mono (c_M_asks (d := d + 1) hq1) ?_
  rintro _ _ ⟨rfl, rfl⟩
  show px_D sc (d + 5) 220 3 [(0, .inr (.inr 150)), (1, .inl (x1))] [] (px_G1, q1) _
  refine px_D_st 2 (ip1 := 5) (ls1 := [(0, .inr (.inr 150)), (1, .inl (x1))]) (st1 := [.inl (x1), .inr (.inr 150)]) (h1 := (px_G1, q1)) rfl ?_
  refine px_D_call (as := [.inr (.inr 150), .inl (x1)]) (rest := []) rfl rfl rfl rfl ?_
  obtain ⟨q2, hq2, h⟩ := Option.bind_eq_some_iff.mp h
  refine px_D_mono (c_M_priceAsked (d := d + 0) hq2) ?_
  rintro _ _ ⟨rfl, rfl⟩
  show px_D sc (d + 5) 220 6 [(0, .inr (.inr 150)), (1, .inl (x1))] [.inl (q2.1)] (px_G1, q2.2) _
  cases h
  exact px_D_iret rfl rfl ⟨rfl, rfl⟩

def f_M_ofHill (s : px_Z) (x1 : Int) (x2 : Int) : Option (Int) := if 0 ≤ (px_wr ((px_wr (5 * x1)) + x2)) ∧ (px_wr ((px_wr (5 * x1)) + x2)) < 240 then some (s 166 (px_wr ((px_wr (5 * x1)) + x2)).toNat) else none
set_option maxHeartbeats 4000000 in
set_option maxRecDepth 100000 in
theorem c_M_ofHill {sc : List Int} {d : Nat} {s : px_Z} {x1 : Int} {x2 : Int} {out : Int} (h : f_M_ofHill s x1 x2 = some out) : px_D sc (d + 0) 221 0 [(0, .inr (.inr 150)), (1, .inl (x1)), (2, .inl (x2))] [] (px_G1, s) (px_Qp s out) := by
  unfold f_M_ofHill at h
  refine px_D_st 7 (ip1 := 7) (ls1 := [(0, .inr (.inr 150)), (1, .inl (x1)), (2, .inl (x2))]) (st1 := [.inl (px_wr ((px_wr (5 * x1)) + x2)), .inr (.inr 166)]) (h1 := (px_G1, s)) rfl ?_
  by_cases hc1 : 0 ≤ (px_wr ((px_wr (5 * x1)) + x2)) ∧ (px_wr ((px_wr (5 * x1)) + x2)) < 240
  case neg => rw [if_neg hc1] at h; cases h
  rw [if_pos hc1] at h
  refine px_D_iald (k := 161) (n := 240) rfl rfl hc1 ?_
  cases h
  exact px_D_iret rfl rfl ⟨rfl, rfl⟩

def l_M_mudOf_2 (s : px_Z) (k30 : Int → Option (Int)) : Nat → Int → Int → Int → Option (Int)
  | 0, _, _, _ => none
  | n + 1, x1, x2, x3 => if (s 150 35) ≤ (x3) then some (-1) else (f_M_ofHill s x3 0).bind (fun q2 => if (q2) = ((-1)) then (f_M_ofHill s x3 1).bind (fun q4 => if (q4) = (x1) then (f_M_ofHill s x3 2).bind (fun q6 => (f_M_ofHill s x3 3).bind (fun q7 => if (f_M_isIn s x2 q6 q7) = (0) then l_M_mudOf_2 s k30 n x1 x2 (px_wr (x3 + 1)) else k30 x3)) else l_M_mudOf_2 s k30 n x1 x2 (px_wr (x3 + 1))) else l_M_mudOf_2 s k30 n x1 x2 (px_wr (x3 + 1)))
set_option maxHeartbeats 4000000 in
set_option maxRecDepth 100000 in
theorem cl_M_mudOf_2 {sc : List Int} {d : Nat} {s : px_Z} {k30 : Int → Option (Int)}  (hk30 : ∀ (y3 : Int) (out : Int), k30 y3 = some out → px_D sc (d + 1) 222 30 [(0, .inr (.inr 150)), (3, .inl (y3))] [] (px_G1, s) (px_Qp s out)) : ∀ (n : Nat) (x1 : Int) (x2 : Int) (x3 : Int) (out : Int), l_M_mudOf_2 s k30 n x1 x2 x3 = some out → px_D sc (d + 1) 222 2 [(0, .inr (.inr 150)), (1, .inl (x1)), (2, .inl (x2)), (3, .inl (x3))] [] (px_G1, s) (px_Qp s out) := by
  intro n
  induction n with
  | zero => intro x1 x2 x3 out h; cases h
  | succ n ih =>
    intro x1 x2 x3 out h
    rw [l_M_mudOf_2] at h
    refine px_D_st 3 (ip1 := 5) (ls1 := [(0, .inr (.inr 150)), (1, .inl (x1)), (2, .inl (x2)), (3, .inl (x3))]) (st1 := [.inl (s 150 35), .inl (x3)]) (h1 := (px_G1, s)) rfl ?_
    refine px_D_icmp rfl (fun hc => ?_) (fun hc => ?_)
    · have hc1 : (s 150 35) ≤ (x3) := of_decide_eq_true hc
      rw [if_pos hc1] at h
      refine px_D_st 1 (ip1 := 38) (ls1 := [(0, .inr (.inr 150)), (1, .inl (x1)), (2, .inl (x2)), (3, .inl (x3))]) (st1 := [.inl ((-1))]) (h1 := (px_G1, s)) rfl ?_
      cases h
      exact px_D_iret rfl rfl ⟨rfl, rfl⟩
    · have hc1 : ¬ ((s 150 35) ≤ (x3)) := of_decide_eq_false hc
      rw [if_neg hc1] at h
      refine px_D_st 3 (ip1 := 9) (ls1 := [(0, .inr (.inr 150)), (1, .inl (x1)), (2, .inl (x2)), (3, .inl (x3))]) (st1 := [.inl (0), .inl (x3), .inr (.inr 150)]) (h1 := (px_G1, s)) rfl ?_
      refine px_D_call (as := [.inr (.inr 150), .inl (x3), .inl (0)]) (rest := []) rfl rfl rfl rfl ?_
      obtain ⟨q2, hq2, h⟩ := Option.bind_eq_some_iff.mp h
      refine px_D_mono (c_M_ofHill (d := d + 0) hq2) ?_
      rintro _ _ ⟨rfl, rfl⟩
      show px_D sc (d + 1) 222 10 [(0, .inr (.inr 150)), (1, .inl (x1)), (2, .inl (x2)), (3, .inl (x3))] [.inl (q2)] (px_G1, s) _
      refine px_D_st 1 (ip1 := 11) (ls1 := [(0, .inr (.inr 150)), (1, .inl (x1)), (2, .inl (x2)), (3, .inl (x3))]) (st1 := [.inl ((-1)), .inl (q2)]) (h1 := (px_G1, s)) rfl ?_
      refine px_D_icmp rfl (fun hc => ?_) (fun hc => ?_)
      · have hc3 : ¬ ((q2) = ((-1))) := of_decide_eq_true hc
        rw [if_neg hc3] at h
        refine px_D_st 2 (ip1 := 2) (ls1 := [(3, .inl (px_wr (x3 + 1))), (0, .inr (.inr 150)), (1, .inl (x1)), (2, .inl (x2))]) (st1 := []) (h1 := (px_G1, s)) rfl ?_
        refine px_D_ls [(0, .inr (.inr 150)), (1, .inl (x1)), (2, .inl (x2)), (3, .inl (px_wr (x3 + 1)))] rfl rfl (List.forall_mem_cons.mpr ⟨rfl, List.forall_mem_cons.mpr ⟨rfl, List.forall_mem_cons.mpr ⟨rfl, List.forall_mem_cons.mpr ⟨rfl, fun _ h => absurd h List.not_mem_nil⟩⟩⟩⟩) ?_
        exact ih _ _ _ _ h
      · have hc3 : (q2) = ((-1)) := Decidable.of_not_not (of_decide_eq_false hc)
        rw [if_pos hc3] at h
        refine px_D_st 3 (ip1 := 15) (ls1 := [(0, .inr (.inr 150)), (1, .inl (x1)), (2, .inl (x2)), (3, .inl (x3))]) (st1 := [.inl (1), .inl (x3), .inr (.inr 150)]) (h1 := (px_G1, s)) rfl ?_
        refine px_D_call (as := [.inr (.inr 150), .inl (x3), .inl (1)]) (rest := []) rfl rfl rfl rfl ?_
        obtain ⟨q4, hq4, h⟩ := Option.bind_eq_some_iff.mp h
        refine px_D_mono (c_M_ofHill (d := d + 0) hq4) ?_
        rintro _ _ ⟨rfl, rfl⟩
        show px_D sc (d + 1) 222 16 [(0, .inr (.inr 150)), (1, .inl (x1)), (2, .inl (x2)), (3, .inl (x3))] [.inl (q4)] (px_G1, s) _
        refine px_D_st 1 (ip1 := 17) (ls1 := [(0, .inr (.inr 150)), (1, .inl (x1)), (2, .inl (x2)), (3, .inl (x3))]) (st1 := [.inl (x1), .inl (q4)]) (h1 := (px_G1, s)) rfl ?_
        refine px_D_icmp rfl (fun hc => ?_) (fun hc => ?_)
        · have hc5 : ¬ ((q4) = (x1)) := of_decide_eq_true hc
          rw [if_neg hc5] at h
          refine px_D_st 2 (ip1 := 2) (ls1 := [(3, .inl (px_wr (x3 + 1))), (0, .inr (.inr 150)), (1, .inl (x1)), (2, .inl (x2))]) (st1 := []) (h1 := (px_G1, s)) rfl ?_
          refine px_D_ls [(0, .inr (.inr 150)), (1, .inl (x1)), (2, .inl (x2)), (3, .inl (px_wr (x3 + 1)))] rfl rfl (List.forall_mem_cons.mpr ⟨rfl, List.forall_mem_cons.mpr ⟨rfl, List.forall_mem_cons.mpr ⟨rfl, List.forall_mem_cons.mpr ⟨rfl, fun _ h => absurd h List.not_mem_nil⟩⟩⟩⟩) ?_
          exact ih _ _ _ _ h
        · have hc5 : (q4) = (x1) := Decidable.of_not_not (of_decide_eq_false hc)
          rw [if_pos hc5] at h
          refine px_D_st 5 (ip1 := 23) (ls1 := [(0, .inr (.inr 150)), (1, .inl (x1)), (2, .inl (x2)), (3, .inl (x3))]) (st1 := [.inl (2), .inl (x3), .inr (.inr 150), .inl (x2), .inr (.inr 150)]) (h1 := (px_G1, s)) rfl ?_
          refine px_D_call (as := [.inr (.inr 150), .inl (x3), .inl (2)]) (rest := [.inl (x2), .inr (.inr 150)]) rfl rfl rfl rfl ?_
          obtain ⟨q6, hq6, h⟩ := Option.bind_eq_some_iff.mp h
          refine px_D_mono (c_M_ofHill (d := d + 0) hq6) ?_
          rintro _ _ ⟨rfl, rfl⟩
          show px_D sc (d + 1) 222 24 [(0, .inr (.inr 150)), (1, .inl (x1)), (2, .inl (x2)), (3, .inl (x3))] [.inl (q6), .inl (x2), .inr (.inr 150)] (px_G1, s) _
          refine px_D_st 3 (ip1 := 27) (ls1 := [(0, .inr (.inr 150)), (1, .inl (x1)), (2, .inl (x2)), (3, .inl (x3))]) (st1 := [.inl (3), .inl (x3), .inr (.inr 150), .inl (q6), .inl (x2), .inr (.inr 150)]) (h1 := (px_G1, s)) rfl ?_
          refine px_D_call (as := [.inr (.inr 150), .inl (x3), .inl (3)]) (rest := [.inl (q6), .inl (x2), .inr (.inr 150)]) rfl rfl rfl rfl ?_
          obtain ⟨q7, hq7, h⟩ := Option.bind_eq_some_iff.mp h
          refine px_D_mono (c_M_ofHill (d := d + 0) hq7) ?_
          rintro _ _ ⟨rfl, rfl⟩
          show px_D sc (d + 1) 222 28 [(0, .inr (.inr 150)), (1, .inl (x1)), (2, .inl (x2)), (3, .inl (x3))] [.inl (q7), .inl (q6), .inl (x2), .inr (.inr 150)] (px_G1, s) _
          refine px_D_call (as := [.inr (.inr 150), .inl (x2), .inl (q6), .inl (q7)]) (rest := []) rfl rfl rfl rfl ?_
          refine px_D_mono (c_M_isIn (d := d + 0) rfl) ?_
          rintro _ _ ⟨rfl, rfl⟩
          show px_D sc (d + 1) 222 29 [(0, .inr (.inr 150)), (1, .inl (x1)), (2, .inl (x2)), (3, .inl (x3))] [.inl (f_M_isIn s x2 q6 q7)] (px_G1, s) _
          refine px_D_ifc rfl (fun hc => ?_) (fun hc => ?_)
          · have hc8 : (f_M_isIn s x2 q6 q7) = (0) := of_decide_eq_true hc
            rw [if_pos hc8] at h
            refine px_D_st 2 (ip1 := 2) (ls1 := [(3, .inl (px_wr (x3 + 1))), (0, .inr (.inr 150)), (1, .inl (x1)), (2, .inl (x2))]) (st1 := []) (h1 := (px_G1, s)) rfl ?_
            refine px_D_ls [(0, .inr (.inr 150)), (1, .inl (x1)), (2, .inl (x2)), (3, .inl (px_wr (x3 + 1)))] rfl rfl (List.forall_mem_cons.mpr ⟨rfl, List.forall_mem_cons.mpr ⟨rfl, List.forall_mem_cons.mpr ⟨rfl, List.forall_mem_cons.mpr ⟨rfl, fun _ h => absurd h List.not_mem_nil⟩⟩⟩⟩) ?_
            exact ih _ _ _ _ h
          · have hc8 : ¬ ((f_M_isIn s x2 q6 q7) = (0)) := of_decide_eq_false hc
            rw [if_neg hc8] at h
            refine px_D_ls [(0, .inr (.inr 150)), (3, .inl (x3))] rfl rfl (List.forall_mem_cons.mpr ⟨rfl, List.forall_mem_cons.mpr ⟨rfl, fun _ h => absurd h List.not_mem_nil⟩⟩) ?_
            exact hk30 _ _ h
def f_M_mudOf (s : px_Z) (x1 : Int) (x2 : Int) : Option (Int) := l_M_mudOf_2 s (fun x3 => (f_M_ofHill s x3 4).bind (fun q9 => some q9)) px_big x1 x2 0
set_option maxHeartbeats 4000000 in
set_option maxRecDepth 100000 in
theorem c_M_mudOf {sc : List Int} {d : Nat} {s : px_Z} {x1 : Int} {x2 : Int} {out : Int} (h : f_M_mudOf s x1 x2 = some out) : px_D sc (d + 1) 222 0 [(0, .inr (.inr 150)), (1, .inl (x1)), (2, .inl (x2))] [] (px_G1, s) (px_Qp s out) := by
  unfold f_M_mudOf at h
  refine px_D_st 2 (ip1 := 2) (ls1 := [(3, .inl (0)), (0, .inr (.inr 150)), (1, .inl (x1)), (2, .inl (x2))]) (st1 := []) (h1 := (px_G1, s)) rfl ?_
  refine px_D_ls [(0, .inr (.inr 150)), (1, .inl (x1)), (2, .inl (x2)), (3, .inl (0))] rfl rfl (List.forall_mem_cons.mpr ⟨rfl, List.forall_mem_cons.mpr ⟨rfl, List.forall_mem_cons.mpr ⟨rfl, List.forall_mem_cons.mpr ⟨rfl, fun _ h => absurd h List.not_mem_nil⟩⟩⟩⟩) ?_
  refine cl_M_mudOf_2 ?_ px_big _ _ _ _ h
  · intro x3 out h
    refine px_D_st 3 (ip1 := 33) (ls1 := [(0, .inr (.inr 150)), (3, .inl (x3))]) (st1 := [.inl (4), .inl (x3), .inr (.inr 150)]) (h1 := (px_G1, s)) rfl ?_
    refine px_D_call (as := [.inr (.inr 150), .inl (x3), .inl (4)]) (rest := []) rfl rfl rfl rfl ?_
    obtain ⟨q9, hq9, h⟩ := Option.bind_eq_some_iff.mp h
    refine px_D_mono (c_M_ofHill (d := d + 0) hq9) ?_
    rintro _ _ ⟨rfl, rfl⟩
    show px_D sc (d + 1) 222 34 [(0, .inr (.inr 150)), (3, .inl (x3))] [.inl (q9)] (px_G1, s) _
    cases h
    exact px_D_iret rfl rfl ⟨rfl, rfl⟩

def l_M_isOpen_2 (s : px_Z)  : Nat → Int → Int → Option (Int)
  | 0, _, _ => none
  | n + 1, x1, x2 => if (6) ≤ (x2) then some 0 else (f_M_mudOf s x2 x1).bind (fun q2 => if (q2) = ((-1)) then l_M_isOpen_2 s  n x1 (px_wr (x2 + 1)) else some 1)
set_option maxHeartbeats 4000000 in
set_option maxRecDepth 100000 in
theorem cl_M_isOpen_2 {sc : List Int} {d : Nat} {s : px_Z}  : ∀ (n : Nat) (x1 : Int) (x2 : Int) (out : Int), l_M_isOpen_2 s  n x1 x2 = some out → px_D sc (d + 2) 223 2 [(0, .inr (.inr 150)), (1, .inl (x1)), (2, .inl (x2))] [] (px_G1, s) (px_Qp s out) := by
  intro n
  induction n with
  | zero => intro x1 x2 out h; cases h
  | succ n ih =>
    intro x1 x2 out h
    rw [l_M_isOpen_2] at h
    refine px_D_st 2 (ip1 := 4) (ls1 := [(0, .inr (.inr 150)), (1, .inl (x1)), (2, .inl (x2))]) (st1 := [.inl (6), .inl (x2)]) (h1 := (px_G1, s)) rfl ?_
    refine px_D_icmp rfl (fun hc => ?_) (fun hc => ?_)
    · have hc1 : (6) ≤ (x2) := of_decide_eq_true hc
      rw [if_pos hc1] at h
      refine px_D_st 1 (ip1 := 16) (ls1 := [(0, .inr (.inr 150)), (1, .inl (x1)), (2, .inl (x2))]) (st1 := [.inl (0)]) (h1 := (px_G1, s)) rfl ?_
      cases h
      exact px_D_iret rfl rfl ⟨rfl, rfl⟩
    · have hc1 : ¬ ((6) ≤ (x2)) := of_decide_eq_false hc
      rw [if_neg hc1] at h
      refine px_D_st 3 (ip1 := 8) (ls1 := [(0, .inr (.inr 150)), (1, .inl (x1)), (2, .inl (x2))]) (st1 := [.inl (x1), .inl (x2), .inr (.inr 150)]) (h1 := (px_G1, s)) rfl ?_
      refine px_D_call (as := [.inr (.inr 150), .inl (x2), .inl (x1)]) (rest := []) rfl rfl rfl rfl ?_
      obtain ⟨q2, hq2, h⟩ := Option.bind_eq_some_iff.mp h
      refine px_D_mono (c_M_mudOf (d := d + 0) hq2) ?_
      rintro _ _ ⟨rfl, rfl⟩
      show px_D sc (d + 2) 223 9 [(0, .inr (.inr 150)), (1, .inl (x1)), (2, .inl (x2))] [.inl (q2)] (px_G1, s) _
      refine px_D_st 1 (ip1 := 10) (ls1 := [(0, .inr (.inr 150)), (1, .inl (x1)), (2, .inl (x2))]) (st1 := [.inl ((-1)), .inl (q2)]) (h1 := (px_G1, s)) rfl ?_
      refine px_D_icmp rfl (fun hc => ?_) (fun hc => ?_)
      · have hc3 : (q2) = ((-1)) := of_decide_eq_true hc
        rw [if_pos hc3] at h
        refine px_D_st 2 (ip1 := 2) (ls1 := [(2, .inl (px_wr (x2 + 1))), (0, .inr (.inr 150)), (1, .inl (x1))]) (st1 := []) (h1 := (px_G1, s)) rfl ?_
        refine px_D_ls [(0, .inr (.inr 150)), (1, .inl (x1)), (2, .inl (px_wr (x2 + 1)))] rfl rfl (List.forall_mem_cons.mpr ⟨rfl, List.forall_mem_cons.mpr ⟨rfl, List.forall_mem_cons.mpr ⟨rfl, fun _ h => absurd h List.not_mem_nil⟩⟩⟩) ?_
        exact ih _ _ _ h
      · have hc3 : ¬ ((q2) = ((-1))) := of_decide_eq_false hc
        rw [if_neg hc3] at h
        refine px_D_st 1 (ip1 := 12) (ls1 := [(0, .inr (.inr 150)), (1, .inl (x1)), (2, .inl (x2))]) (st1 := [.inl (1)]) (h1 := (px_G1, s)) rfl ?_
        cases h
        exact px_D_iret rfl rfl ⟨rfl, rfl⟩
def f_M_isOpen (s : px_Z) (x1 : Int) : Option (Int) := l_M_isOpen_2 s  px_big x1 0
set_option maxHeartbeats 4000000 in
set_option maxRecDepth 100000 in
theorem c_M_isOpen {sc : List Int} {d : Nat} {s : px_Z} {x1 : Int} {out : Int} (h : f_M_isOpen s x1 = some out) : px_D sc (d + 2) 223 0 [(0, .inr (.inr 150)), (1, .inl (x1))] [] (px_G1, s) (px_Qp s out) := by
  unfold f_M_isOpen at h
  refine px_D_st 2 (ip1 := 2) (ls1 := [(2, .inl (0)), (0, .inr (.inr 150)), (1, .inl (x1))]) (st1 := []) (h1 := (px_G1, s)) rfl ?_
  refine px_D_ls [(0, .inr (.inr 150)), (1, .inl (x1)), (2, .inl (0))] rfl rfl (List.forall_mem_cons.mpr ⟨rfl, List.forall_mem_cons.mpr ⟨rfl, List.forall_mem_cons.mpr ⟨rfl, fun _ h => absurd h List.not_mem_nil⟩⟩⟩) ?_
  refine cl_M_isOpen_2  px_big _ _ _ h

def f_M_mud (s : px_Z) (x1 : Int) (x2 : Int) : Option (Int × px_Z) := if (f_M_isIn (px_up s 150 0 0) x1 0 5) = (0) then some (((-1), px_up s 150 0 0)) else (if (f_M_isIn (px_up s 150 0 0) x2 0 60) = (0) then some (((-1), px_up s 150 0 0)) else (f_M_mudOf (px_up s 150 0 0) x1 x2).bind (fun q3 => some (q3, px_up s 150 0 0)))
set_option maxHeartbeats 4000000 in
set_option maxRecDepth 100000 in
theorem c_M_mud {sc : List Int} {d : Nat} {s : px_Z} {x1 : Int} {x2 : Int} {out : Int × px_Z} (h : f_M_mud s x1 x2 = some out) : px_D sc (d + 2) 224 0 [(0, .inr (.inr 150)), (1, .inl (x1)), (2, .inl (x2))] [] (px_G1, s) (px_Qi out) := by
  unfold f_M_mud at h
  refine px_D_st 7 (ip1 := 7) (ls1 := [(0, .inr (.inr 150)), (1, .inl (x1)), (2, .inl (x2))]) (st1 := [.inl (5), .inl (0), .inl (x1), .inr (.inr 150)]) (h1 := (px_G1, px_up s 150 0 0)) rfl ?_
  refine px_D_call (as := [.inr (.inr 150), .inl (x1), .inl (0), .inl (5)]) (rest := []) rfl rfl rfl rfl ?_
  refine px_D_mono (c_M_isIn (d := d + 1) rfl) ?_
  rintro _ _ ⟨rfl, rfl⟩
  show px_D sc (d + 2) 224 8 [(0, .inr (.inr 150)), (1, .inl (x1)), (2, .inl (x2))] [.inl (f_M_isIn (px_up s 150 0 0) x1 0 5)] (px_G1, px_up s 150 0 0) _
  refine px_D_ifc rfl (fun hc => ?_) (fun hc => ?_)
  · have hc1 : (f_M_isIn (px_up s 150 0 0) x1 0 5) = (0) := of_decide_eq_true hc
    rw [if_pos hc1] at h
    refine px_D_st 1 (ip1 := 21) (ls1 := [(0, .inr (.inr 150)), (1, .inl (x1)), (2, .inl (x2))]) (st1 := [.inl ((-1))]) (h1 := (px_G1, px_up s 150 0 0)) rfl ?_
    cases h
    exact px_D_iret rfl rfl ⟨rfl, rfl⟩
  · have hc1 : ¬ ((f_M_isIn (px_up s 150 0 0) x1 0 5) = (0)) := of_decide_eq_false hc
    rw [if_neg hc1] at h
    refine px_D_st 4 (ip1 := 13) (ls1 := [(0, .inr (.inr 150)), (1, .inl (x1)), (2, .inl (x2))]) (st1 := [.inl (60), .inl (0), .inl (x2), .inr (.inr 150)]) (h1 := (px_G1, px_up s 150 0 0)) rfl ?_
    refine px_D_call (as := [.inr (.inr 150), .inl (x2), .inl (0), .inl (60)]) (rest := []) rfl rfl rfl rfl ?_
    refine px_D_mono (c_M_isIn (d := d + 1) rfl) ?_
    rintro _ _ ⟨rfl, rfl⟩
    show px_D sc (d + 2) 224 14 [(0, .inr (.inr 150)), (1, .inl (x1)), (2, .inl (x2))] [.inl (f_M_isIn (px_up s 150 0 0) x2 0 60)] (px_G1, px_up s 150 0 0) _
    refine px_D_ifc rfl (fun hc => ?_) (fun hc => ?_)
    · have hc2 : (f_M_isIn (px_up s 150 0 0) x2 0 60) = (0) := of_decide_eq_true hc
      rw [if_pos hc2] at h
      refine px_D_st 1 (ip1 := 21) (ls1 := [(0, .inr (.inr 150)), (1, .inl (x1)), (2, .inl (x2))]) (st1 := [.inl ((-1))]) (h1 := (px_G1, px_up s 150 0 0)) rfl ?_
      cases h
      exact px_D_iret rfl rfl ⟨rfl, rfl⟩
    · have hc2 : ¬ ((f_M_isIn (px_up s 150 0 0) x2 0 60) = (0)) := of_decide_eq_false hc
      rw [if_neg hc2] at h
      refine px_D_st 3 (ip1 := 18) (ls1 := [(0, .inr (.inr 150)), (1, .inl (x1)), (2, .inl (x2))]) (st1 := [.inl (x2), .inl (x1), .inr (.inr 150)]) (h1 := (px_G1, px_up s 150 0 0)) rfl ?_
      refine px_D_call (as := [.inr (.inr 150), .inl (x1), .inl (x2)]) (rest := []) rfl rfl rfl rfl ?_
      obtain ⟨q3, hq3, h⟩ := Option.bind_eq_some_iff.mp h
      refine px_D_mono (c_M_mudOf (d := d + 0) hq3) ?_
      rintro _ _ ⟨rfl, rfl⟩
      show px_D sc (d + 2) 224 19 [(0, .inr (.inr 150)), (1, .inl (x1)), (2, .inl (x2))] [.inl (q3)] (px_G1, px_up s 150 0 0) _
      refine px_D_st 1 (ip1 := 21) (ls1 := [(0, .inr (.inr 150)), (1, .inl (x1)), (2, .inl (x2))]) (st1 := [.inl (q3)]) (h1 := (px_G1, px_up s 150 0 0)) rfl ?_
      cases h
      exact px_D_iret rfl rfl ⟨rfl, rfl⟩

def f_M_canCome (s : px_Z) (x1 : Int) (x2 : Int) : Option (Int) := if (px_and ((px_shr (x2) (x1))) (1)) = (1) then some 0 else (if 0 ≤ (x1) ∧ (x1) < 16 then if (px_and ((s 167 x1.toNat)) ((px_xor (x2) ((-1))))) = (0) then (if (x1) = (px_wr ((s 150 6) - 1)) then (f_M_onesOf s x2).bind (fun q5 => if (q5) = (px_wr ((s 150 6) - 1)) then some 1 else some 0) else some 1) else some 0 else none)
set_option maxHeartbeats 4000000 in
set_option maxRecDepth 100000 in
theorem c_M_canCome {sc : List Int} {d : Nat} {s : px_Z} {x1 : Int} {x2 : Int} {out : Int} (h : f_M_canCome s x1 x2 = some out) : px_D sc (d + 1) 225 0 [(0, .inr (.inr 150)), (1, .inl (x1)), (2, .inl (x2))] [] (px_G1, s) (px_Qp s out) := by
  unfold f_M_canCome at h
  refine px_D_st 6 (ip1 := 6) (ls1 := [(0, .inr (.inr 150)), (1, .inl (x1)), (2, .inl (x2))]) (st1 := [.inl (1), .inl (px_and ((px_shr (x2) (x1))) (1))]) (h1 := (px_G1, s)) rfl ?_
  refine px_D_icmp rfl (fun hc => ?_) (fun hc => ?_)
  · have hc1 : (px_and ((px_shr (x2) (x1))) (1)) = (1) := of_decide_eq_true hc
    rw [if_pos hc1] at h
    refine px_D_st 1 (ip1 := 17) (ls1 := [(0, .inr (.inr 150)), (1, .inl (x1)), (2, .inl (x2))]) (st1 := [.inl (0)]) (h1 := (px_G1, s)) rfl ?_
    cases h
    exact px_D_iret rfl rfl ⟨rfl, rfl⟩
  · have hc1 : ¬ ((px_and ((px_shr (x2) (x1))) (1)) = (1)) := of_decide_eq_false hc
    rw [if_neg hc1] at h
    refine px_D_st 3 (ip1 := 10) (ls1 := [(0, .inr (.inr 150)), (1, .inl (x1)), (2, .inl (x2))]) (st1 := [.inl (x1), .inr (.inr 167)]) (h1 := (px_G1, s)) rfl ?_
    by_cases hc2 : 0 ≤ (x1) ∧ (x1) < 16
    case neg => rw [if_neg hc2] at h; cases h
    rw [if_pos hc2] at h
    refine px_D_iald (k := 162) (n := 16) rfl rfl hc2 ?_
    refine px_D_st 4 (ip1 := 15) (ls1 := [(0, .inr (.inr 150)), (1, .inl (x1)), (2, .inl (x2))]) (st1 := [.inl (px_and ((s 167 x1.toNat)) ((px_xor (x2) ((-1)))))]) (h1 := (px_G1, s)) rfl ?_
    refine px_D_ifc rfl (fun hc => ?_) (fun hc => ?_)
    · have hc3 : (px_and ((s 167 x1.toNat)) ((px_xor (x2) ((-1))))) = (0) := of_decide_eq_true hc
      rw [if_pos hc3] at h
      refine px_D_st 5 (ip1 := 23) (ls1 := [(0, .inr (.inr 150)), (1, .inl (x1)), (2, .inl (x2))]) (st1 := [.inl (px_wr ((s 150 6) - 1)), .inl (x1)]) (h1 := (px_G1, s)) rfl ?_
      refine px_D_icmp rfl (fun hc => ?_) (fun hc => ?_)
      · have hc4 : ¬ ((x1) = (px_wr ((s 150 6) - 1))) := of_decide_eq_true hc
        rw [if_neg hc4] at h
        refine px_D_st 2 (ip1 := 35) (ls1 := [(0, .inr (.inr 150)), (1, .inl (x1)), (2, .inl (x2))]) (st1 := [.inl (1)]) (h1 := (px_G1, s)) rfl ?_
        cases h
        exact px_D_iret rfl rfl ⟨rfl, rfl⟩
      · have hc4 : (x1) = (px_wr ((s 150 6) - 1)) := Decidable.of_not_not (of_decide_eq_false hc)
        rw [if_pos hc4] at h
        refine px_D_st 2 (ip1 := 26) (ls1 := [(0, .inr (.inr 150)), (1, .inl (x1)), (2, .inl (x2))]) (st1 := [.inl (x2), .inr (.inr 150)]) (h1 := (px_G1, s)) rfl ?_
        refine px_D_call (as := [.inr (.inr 150), .inl (x2)]) (rest := []) rfl rfl rfl rfl ?_
        obtain ⟨q5, hq5, h⟩ := Option.bind_eq_some_iff.mp h
        refine px_D_mono (c_M_onesOf (d := d + 0) hq5) ?_
        rintro _ _ ⟨rfl, rfl⟩
        show px_D sc (d + 1) 225 27 [(0, .inr (.inr 150)), (1, .inl (x1)), (2, .inl (x2))] [.inl (q5)] (px_G1, s) _
        refine px_D_st 4 (ip1 := 31) (ls1 := [(0, .inr (.inr 150)), (1, .inl (x1)), (2, .inl (x2))]) (st1 := [.inl (px_wr ((s 150 6) - 1)), .inl (q5)]) (h1 := (px_G1, s)) rfl ?_
        refine px_D_icmp rfl (fun hc => ?_) (fun hc => ?_)
        · have hc6 : ¬ ((q5) = (px_wr ((s 150 6) - 1))) := of_decide_eq_true hc
          rw [if_neg hc6] at h
          refine px_D_st 1 (ip1 := 35) (ls1 := [(0, .inr (.inr 150)), (1, .inl (x1)), (2, .inl (x2))]) (st1 := [.inl (0)]) (h1 := (px_G1, s)) rfl ?_
          cases h
          exact px_D_iret rfl rfl ⟨rfl, rfl⟩
        · have hc6 : (q5) = (px_wr ((s 150 6) - 1)) := Decidable.of_not_not (of_decide_eq_false hc)
          rw [if_pos hc6] at h
          refine px_D_st 2 (ip1 := 35) (ls1 := [(0, .inr (.inr 150)), (1, .inl (x1)), (2, .inl (x2))]) (st1 := [.inl (1)]) (h1 := (px_G1, s)) rfl ?_
          cases h
          exact px_D_iret rfl rfl ⟨rfl, rfl⟩
    · have hc3 : ¬ ((px_and ((s 167 x1.toNat)) ((px_xor (x2) ((-1))))) = (0)) := of_decide_eq_false hc
      rw [if_neg hc3] at h
      refine px_D_st 1 (ip1 := 17) (ls1 := [(0, .inr (.inr 150)), (1, .inl (x1)), (2, .inl (x2))]) (st1 := [.inl (0)]) (h1 := (px_G1, s)) rfl ?_
      cases h
      exact px_D_iret rfl rfl ⟨rfl, rfl⟩

def f_M_hasCome (s : px_Z) : Int := if (s 151 7) = (px_wr ((s 151 0) + 1)) then 1 else 0
set_option maxHeartbeats 4000000 in
set_option maxRecDepth 100000 in
theorem c_M_hasCome {sc : List Int} {d : Nat} {s : px_Z} {out : Int} (h : f_M_hasCome s  = out) : px_D sc (d + 0) 226 0 [(0, .inr (.inr 150))] [] (px_G1, s) (px_Qp s out) := by
  unfold f_M_hasCome at h
  refine px_D_st 10 (ip1 := 10) (ls1 := [(0, .inr (.inr 150))]) (st1 := [.inl (px_wr ((s 151 0) + 1)), .inl (s 151 7)]) (h1 := (px_G1, s)) rfl ?_
  refine px_D_icmp rfl (fun hc => ?_) (fun hc => ?_)
  · have hc1 : ¬ ((s 151 7) = (px_wr ((s 151 0) + 1))) := of_decide_eq_true hc
    rw [if_neg hc1] at h
    refine px_D_st 1 (ip1 := 14) (ls1 := [(0, .inr (.inr 150))]) (st1 := [.inl (0)]) (h1 := (px_G1, s)) rfl ?_
    subst h
    exact px_D_iret rfl rfl ⟨rfl, rfl⟩
  · have hc1 : (s 151 7) = (px_wr ((s 151 0) + 1)) := Decidable.of_not_not (of_decide_eq_false hc)
    rw [if_pos hc1] at h
    refine px_D_st 2 (ip1 := 14) (ls1 := [(0, .inr (.inr 150))]) (st1 := [.inl (1)]) (h1 := (px_G1, s)) rfl ?_
    subst h
    exact px_D_iret rfl rfl ⟨rfl, rfl⟩
set_option maxHeartbeats 4000000 in
set_option maxRecDepth 100000 in
theorem bz_M_hasCome {s : px_Z} : f_M_hasCome s  = 0 ∨ f_M_hasCome s  = 1 := by
  unfold f_M_hasCome
  repeat' split
  all_goals first | exact Or.inl rfl | exact Or.inr rfl | exact Or.inl rfl

def f_M_mayCome (s : px_Z) (x1 : Int) : Option (Int) := (f_M_homeSet s ).bind (fun q1 => (f_M_canCome s x1 q1).bind (fun q2 => if (q2) = (0) then some 0 else (if (f_M_hasCome s ) = (0) then some 1 else some 0)))
set_option maxHeartbeats 4000000 in
set_option maxRecDepth 100000 in
theorem c_M_mayCome {sc : List Int} {d : Nat} {s : px_Z} {x1 : Int} {out : Int} (h : f_M_mayCome s x1 = some out) : px_D sc (d + 2) 227 0 [(0, .inr (.inr 150)), (1, .inl (x1))] [] (px_G1, s) (px_Qp s out) := by
  unfold f_M_mayCome at h
  refine px_D_st 3 (ip1 := 3) (ls1 := [(0, .inr (.inr 150)), (1, .inl (x1))]) (st1 := [.inr (.inr 150), .inl (x1), .inr (.inr 150)]) (h1 := (px_G1, s)) rfl ?_
  refine px_D_call (as := [.inr (.inr 150)]) (rest := [.inl (x1), .inr (.inr 150)]) rfl rfl rfl rfl ?_
  obtain ⟨q1, hq1, h⟩ := Option.bind_eq_some_iff.mp h
  refine px_D_mono (c_M_homeSet (d := d + 0) hq1) ?_
  rintro _ _ ⟨rfl, rfl⟩
  show px_D sc (d + 2) 227 4 [(0, .inr (.inr 150)), (1, .inl (x1))] [.inl (q1), .inl (x1), .inr (.inr 150)] (px_G1, s) _
  refine px_D_call (as := [.inr (.inr 150), .inl (x1), .inl (q1)]) (rest := []) rfl rfl rfl rfl ?_
  obtain ⟨q2, hq2, h⟩ := Option.bind_eq_some_iff.mp h
  refine px_D_mono (c_M_canCome (d := d + 0) hq2) ?_
  rintro _ _ ⟨rfl, rfl⟩
  show px_D sc (d + 2) 227 5 [(0, .inr (.inr 150)), (1, .inl (x1))] [.inl (q2)] (px_G1, s) _
  refine px_D_ifc rfl (fun hc => ?_) (fun hc => ?_)
  · have hc3 : (q2) = (0) := of_decide_eq_true hc
    rw [if_pos hc3] at h
    refine px_D_st 1 (ip1 := 12) (ls1 := [(0, .inr (.inr 150)), (1, .inl (x1))]) (st1 := [.inl (0)]) (h1 := (px_G1, s)) rfl ?_
    cases h
    exact px_D_iret rfl rfl ⟨rfl, rfl⟩
  · have hc3 : ¬ ((q2) = (0)) := of_decide_eq_false hc
    rw [if_neg hc3] at h
    refine px_D_st 1 (ip1 := 7) (ls1 := [(0, .inr (.inr 150)), (1, .inl (x1))]) (st1 := [.inr (.inr 150)]) (h1 := (px_G1, s)) rfl ?_
    refine px_D_call (as := [.inr (.inr 150)]) (rest := []) rfl rfl rfl rfl ?_
    refine px_D_mono (c_M_hasCome (d := d + 1) rfl) ?_
    rintro _ _ ⟨rfl, rfl⟩
    show px_D sc (d + 2) 227 8 [(0, .inr (.inr 150)), (1, .inl (x1))] [.inl (f_M_hasCome s )] (px_G1, s) _
    refine px_D_ifc rfl (fun hc => ?_) (fun hc => ?_)
    · have hc4 : ¬ ((f_M_hasCome s ) = (0)) := of_decide_eq_true hc
      rw [if_neg hc4] at h
      refine px_D_st 1 (ip1 := 12) (ls1 := [(0, .inr (.inr 150)), (1, .inl (x1))]) (st1 := [.inl (0)]) (h1 := (px_G1, s)) rfl ?_
      cases h
      exact px_D_iret rfl rfl ⟨rfl, rfl⟩
    · have hc4 : (f_M_hasCome s ) = (0) := Decidable.of_not_not (of_decide_eq_false hc)
      rw [if_pos hc4] at h
      refine px_D_st 2 (ip1 := 12) (ls1 := [(0, .inr (.inr 150)), (1, .inl (x1))]) (st1 := [.inl (1)]) (h1 := (px_G1, s)) rfl ?_
      cases h
      exact px_D_iret rfl rfl ⟨rfl, rfl⟩

def f_M_notes (s : px_Z) (x1 : Int) (x2 : Int) (x3 : Int) (x4 : Int) : Option (px_Z) := if (s 150 5) = (0) then (if (s 151 2) = (120) then some s else (if 0 ≤ (px_wr (5 * (s 151 2))) ∧ (px_wr (5 * (s 151 2))) < 600 then if 0 ≤ (px_wr ((px_wr (5 * (s 151 2))) + 1)) ∧ (px_wr ((px_wr (5 * (s 151 2))) + 1)) < 600 then if 0 ≤ (px_wr ((px_wr (5 * (s 151 2))) + 2)) ∧ (px_wr ((px_wr (5 * (s 151 2))) + 2)) < 600 then if 0 ≤ (px_wr ((px_wr (5 * (s 151 2))) + 3)) ∧ (px_wr ((px_wr (5 * (s 151 2))) + 3)) < 600 then if 0 ≤ (px_wr ((px_wr (5 * (s 151 2))) + 4)) ∧ (px_wr ((px_wr (5 * (s 151 2))) + 4)) < 600 then some (px_up (px_up (px_up (px_up (px_up (px_up s 155 (px_wr (5 * (s 151 2))).toNat (s 151 0)) 155 (px_wr ((px_wr (5 * (s 151 2))) + 1)).toNat x1) 155 (px_wr ((px_wr (5 * (s 151 2))) + 2)).toNat x2) 155 (px_wr ((px_wr (5 * (s 151 2))) + 3)).toNat x3) 155 (px_wr ((px_wr (5 * (s 151 2))) + 4)).toNat x4) 151 2 (px_wr (((px_up (px_up (px_up (px_up (px_up s 155 (px_wr (5 * (s 151 2))).toNat (s 151 0)) 155 (px_wr ((px_wr (5 * (s 151 2))) + 1)).toNat x1) 155 (px_wr ((px_wr (5 * (s 151 2))) + 2)).toNat x2) 155 (px_wr ((px_wr (5 * (s 151 2))) + 3)).toNat x3) 155 (px_wr ((px_wr (5 * (s 151 2))) + 4)).toNat x4) 151 2) + 1))) else none else none else none else none else none)) else some s
set_option maxHeartbeats 4000000 in
set_option maxRecDepth 100000 in
theorem c_M_notes {sc : List Int} {d : Nat} {s : px_Z} {x1 : Int} {x2 : Int} {x3 : Int} {x4 : Int} {out : px_Z} (h : f_M_notes s x1 x2 x3 x4 = some out) : px_D sc (d + 0) 228 0 [(0, .inr (.inr 150)), (1, .inl (x1)), (2, .inl (x2)), (3, .inl (x3)), (4, .inl (x4))] [] (px_G1, s) (px_Qv out) := by
  unfold f_M_notes at h
  refine px_D_st 2 (ip1 := 2) (ls1 := [(0, .inr (.inr 150)), (1, .inl (x1)), (2, .inl (x2)), (3, .inl (x3)), (4, .inl (x4))]) (st1 := [.inl (s 150 5)]) (h1 := (px_G1, s)) rfl ?_
  refine px_D_ifc rfl (fun hc => ?_) (fun hc => ?_)
  · have hc1 : ¬ ((s 150 5) = (0)) := of_decide_eq_true hc
    rw [if_neg hc1] at h
    cases h
    exact px_D_vret rfl ⟨rfl, rfl⟩
  · have hc1 : (s 150 5) = (0) := Decidable.of_not_not (of_decide_eq_false hc)
    rw [if_pos hc1] at h
    refine px_D_st 5 (ip1 := 8) (ls1 := [(0, .inr (.inr 150)), (1, .inl (x1)), (2, .inl (x2)), (3, .inl (x3)), (4, .inl (x4))]) (st1 := [.inl (120), .inl (s 151 2)]) (h1 := (px_G1, s)) rfl ?_
    refine px_D_icmp rfl (fun hc => ?_) (fun hc => ?_)
    · have hc2 : ¬ ((s 151 2) = (120)) := of_decide_eq_true hc
      rw [if_neg hc2] at h
      refine px_D_st 14 (ip1 := 24) (ls1 := [(5, .inl (px_wr (5 * (s 151 2)))), (0, .inr (.inr 150)), (1, .inl (x1)), (2, .inl (x2)), (3, .inl (x3)), (4, .inl (x4))]) (st1 := [.inl (s 151 0), .inl (px_wr (5 * (s 151 2))), .inr (.inr 155)]) (h1 := (px_G1, s)) rfl ?_
      by_cases hc3 : 0 ≤ (px_wr (5 * (s 151 2))) ∧ (px_wr (5 * (s 151 2))) < 600
      case neg => rw [if_neg hc3] at h; cases h
      rw [if_pos hc3] at h
      refine px_D_iast (k := 150) (n := 600) rfl rfl hc3 ?_
      refine px_D_st 6 (ip1 := 31) (ls1 := [(5, .inl (px_wr (5 * (s 151 2)))), (0, .inr (.inr 150)), (1, .inl (x1)), (2, .inl (x2)), (3, .inl (x3)), (4, .inl (x4))]) (st1 := [.inl (x1), .inl (px_wr ((px_wr (5 * (s 151 2))) + 1)), .inr (.inr 155)]) (h1 := (px_G1, px_up s 155 (px_wr (5 * (s 151 2))).toNat (s 151 0))) rfl ?_
      by_cases hc4 : 0 ≤ (px_wr ((px_wr (5 * (s 151 2))) + 1)) ∧ (px_wr ((px_wr (5 * (s 151 2))) + 1)) < 600
      case neg => rw [if_neg hc4] at h; cases h
      rw [if_pos hc4] at h
      refine px_D_iast (k := 150) (n := 600) rfl rfl hc4 ?_
      refine px_D_st 6 (ip1 := 38) (ls1 := [(5, .inl (px_wr (5 * (s 151 2)))), (0, .inr (.inr 150)), (1, .inl (x1)), (2, .inl (x2)), (3, .inl (x3)), (4, .inl (x4))]) (st1 := [.inl (x2), .inl (px_wr ((px_wr (5 * (s 151 2))) + 2)), .inr (.inr 155)]) (h1 := (px_G1, px_up (px_up s 155 (px_wr (5 * (s 151 2))).toNat (s 151 0)) 155 (px_wr ((px_wr (5 * (s 151 2))) + 1)).toNat x1)) rfl ?_
      by_cases hc5 : 0 ≤ (px_wr ((px_wr (5 * (s 151 2))) + 2)) ∧ (px_wr ((px_wr (5 * (s 151 2))) + 2)) < 600
      case neg => rw [if_neg hc5] at h; cases h
      rw [if_pos hc5] at h
      refine px_D_iast (k := 150) (n := 600) rfl rfl hc5 ?_
      refine px_D_st 6 (ip1 := 45) (ls1 := [(5, .inl (px_wr (5 * (s 151 2)))), (0, .inr (.inr 150)), (1, .inl (x1)), (2, .inl (x2)), (3, .inl (x3)), (4, .inl (x4))]) (st1 := [.inl (x3), .inl (px_wr ((px_wr (5 * (s 151 2))) + 3)), .inr (.inr 155)]) (h1 := (px_G1, px_up (px_up (px_up s 155 (px_wr (5 * (s 151 2))).toNat (s 151 0)) 155 (px_wr ((px_wr (5 * (s 151 2))) + 1)).toNat x1) 155 (px_wr ((px_wr (5 * (s 151 2))) + 2)).toNat x2)) rfl ?_
      by_cases hc6 : 0 ≤ (px_wr ((px_wr (5 * (s 151 2))) + 3)) ∧ (px_wr ((px_wr (5 * (s 151 2))) + 3)) < 600
      case neg => rw [if_neg hc6] at h; cases h
      rw [if_pos hc6] at h
      refine px_D_iast (k := 150) (n := 600) rfl rfl hc6 ?_
      refine px_D_st 6 (ip1 := 52) (ls1 := [(5, .inl (px_wr (5 * (s 151 2)))), (0, .inr (.inr 150)), (1, .inl (x1)), (2, .inl (x2)), (3, .inl (x3)), (4, .inl (x4))]) (st1 := [.inl (x4), .inl (px_wr ((px_wr (5 * (s 151 2))) + 4)), .inr (.inr 155)]) (h1 := (px_G1, px_up (px_up (px_up (px_up s 155 (px_wr (5 * (s 151 2))).toNat (s 151 0)) 155 (px_wr ((px_wr (5 * (s 151 2))) + 1)).toNat x1) 155 (px_wr ((px_wr (5 * (s 151 2))) + 2)).toNat x2) 155 (px_wr ((px_wr (5 * (s 151 2))) + 3)).toNat x3)) rfl ?_
      by_cases hc7 : 0 ≤ (px_wr ((px_wr (5 * (s 151 2))) + 4)) ∧ (px_wr ((px_wr (5 * (s 151 2))) + 4)) < 600
      case neg => rw [if_neg hc7] at h; cases h
      rw [if_pos hc7] at h
      refine px_D_iast (k := 150) (n := 600) rfl rfl hc7 ?_
      refine px_D_st 10 (ip1 := 63) (ls1 := [(5, .inl (px_wr (5 * (s 151 2)))), (0, .inr (.inr 150)), (1, .inl (x1)), (2, .inl (x2)), (3, .inl (x3)), (4, .inl (x4))]) (st1 := []) (h1 := (px_G1, px_up (px_up (px_up (px_up (px_up (px_up s 155 (px_wr (5 * (s 151 2))).toNat (s 151 0)) 155 (px_wr ((px_wr (5 * (s 151 2))) + 1)).toNat x1) 155 (px_wr ((px_wr (5 * (s 151 2))) + 2)).toNat x2) 155 (px_wr ((px_wr (5 * (s 151 2))) + 3)).toNat x3) 155 (px_wr ((px_wr (5 * (s 151 2))) + 4)).toNat x4) 151 2 (px_wr (((px_up (px_up (px_up (px_up (px_up s 155 (px_wr (5 * (s 151 2))).toNat (s 151 0)) 155 (px_wr ((px_wr (5 * (s 151 2))) + 1)).toNat x1) 155 (px_wr ((px_wr (5 * (s 151 2))) + 2)).toNat x2) 155 (px_wr ((px_wr (5 * (s 151 2))) + 3)).toNat x3) 155 (px_wr ((px_wr (5 * (s 151 2))) + 4)).toNat x4) 151 2) + 1)))) rfl ?_
      cases h
      exact px_D_vret rfl ⟨rfl, rfl⟩
    · have hc2 : (s 151 2) = (120) := Decidable.of_not_not (of_decide_eq_false hc)
      rw [if_pos hc2] at h
      cases h
      exact px_D_vret rfl ⟨rfl, rfl⟩

def f_M_canPay (s : px_Z) (x1 : Int) (x2 : Int) : Option (Int × px_Z) := (f_M_mayCome s x1).bind (fun q1 => if (q1) = (0) then some (0, s) else (f_M_mudOf s x2 (s 151 0)).bind (fun q3 => if (q3) = ((-1)) then some (0, s) else (f_M_priceOf s x1).bind (fun q5 => if (s 151 3) < (q5.1) then some (0, q5.2) else some (1, q5.2))))
set_option maxHeartbeats 4000000 in
set_option maxRecDepth 100000 in
theorem c_M_canPay {sc : List Int} {d : Nat} {s : px_Z} {x1 : Int} {x2 : Int} {out : Int × px_Z} (h : f_M_canPay s x1 x2 = some out) : px_D sc (d + 6) 229 0 [(0, .inr (.inr 150)), (1, .inl (x1)), (2, .inl (x2))] [] (px_G1, s) (px_Qi out) := by
  unfold f_M_canPay at h
  refine px_D_st 2 (ip1 := 2) (ls1 := [(0, .inr (.inr 150)), (1, .inl (x1)), (2, .inl (x2))]) (st1 := [.inl (x1), .inr (.inr 150)]) (h1 := (px_G1, s)) rfl ?_
  refine px_D_call (as := [.inr (.inr 150), .inl (x1)]) (rest := []) rfl rfl rfl rfl ?_
  obtain ⟨q1, hq1, h⟩ := Option.bind_eq_some_iff.mp h
  refine px_D_mono (c_M_mayCome (d := d + 3) hq1) ?_
  rintro _ _ ⟨rfl, rfl⟩
  show px_D sc (d + 6) 229 3 [(0, .inr (.inr 150)), (1, .inl (x1)), (2, .inl (x2))] [.inl (q1)] (px_G1, s) _
  refine px_D_ifc rfl (fun hc => ?_) (fun hc => ?_)
  · have hc2 : (q1) = (0) := of_decide_eq_true hc
    rw [if_pos hc2] at h
    refine px_D_st 1 (ip1 := 24) (ls1 := [(0, .inr (.inr 150)), (1, .inl (x1)), (2, .inl (x2))]) (st1 := [.inl (0)]) (h1 := (px_G1, s)) rfl ?_
    cases h
    exact px_D_iret rfl rfl ⟨rfl, rfl⟩
  · have hc2 : ¬ ((q1) = (0)) := of_decide_eq_false hc
    rw [if_neg hc2] at h
    refine px_D_st 6 (ip1 := 10) (ls1 := [(0, .inr (.inr 150)), (1, .inl (x1)), (2, .inl (x2))]) (st1 := [.inl (s 151 0), .inl (x2), .inr (.inr 150)]) (h1 := (px_G1, s)) rfl ?_
    refine px_D_call (as := [.inr (.inr 150), .inl (x2), .inl (s 151 0)]) (rest := []) rfl rfl rfl rfl ?_
    obtain ⟨q3, hq3, h⟩ := Option.bind_eq_some_iff.mp h
    refine px_D_mono (c_M_mudOf (d := d + 4) hq3) ?_
    rintro _ _ ⟨rfl, rfl⟩
    show px_D sc (d + 6) 229 11 [(0, .inr (.inr 150)), (1, .inl (x1)), (2, .inl (x2))] [.inl (q3)] (px_G1, s) _
    refine px_D_st 1 (ip1 := 12) (ls1 := [(0, .inr (.inr 150)), (1, .inl (x1)), (2, .inl (x2))]) (st1 := [.inl ((-1)), .inl (q3)]) (h1 := (px_G1, s)) rfl ?_
    refine px_D_icmp rfl (fun hc => ?_) (fun hc => ?_)
    · have hc4 : (q3) = ((-1)) := of_decide_eq_true hc
      rw [if_pos hc4] at h
      refine px_D_st 1 (ip1 := 24) (ls1 := [(0, .inr (.inr 150)), (1, .inl (x1)), (2, .inl (x2))]) (st1 := [.inl (0)]) (h1 := (px_G1, s)) rfl ?_
      cases h
      exact px_D_iret rfl rfl ⟨rfl, rfl⟩
    · have hc4 : ¬ ((q3) = ((-1))) := of_decide_eq_false hc
      rw [if_neg hc4] at h
      refine px_D_st 6 (ip1 := 19) (ls1 := [(0, .inr (.inr 150)), (1, .inl (x1)), (2, .inl (x2))]) (st1 := [.inl (x1), .inr (.inr 150), .inl (s 151 3)]) (h1 := (px_G1, s)) rfl ?_
      refine px_D_call (as := [.inr (.inr 150), .inl (x1)]) (rest := [.inl (s 151 3)]) rfl rfl rfl rfl ?_
      obtain ⟨q5, hq5, h⟩ := Option.bind_eq_some_iff.mp h
      refine px_D_mono (c_M_priceOf (d := d + 0) hq5) ?_
      rintro _ _ ⟨rfl, rfl⟩
      show px_D sc (d + 6) 229 20 [(0, .inr (.inr 150)), (1, .inl (x1)), (2, .inl (x2))] [.inl (q5.1), .inl (s 151 3)] (px_G1, q5.2) _
      refine px_D_icmp rfl (fun hc => ?_) (fun hc => ?_)
      · have hc6 : (s 151 3) < (q5.1) := of_decide_eq_true hc
        rw [if_pos hc6] at h
        refine px_D_st 1 (ip1 := 24) (ls1 := [(0, .inr (.inr 150)), (1, .inl (x1)), (2, .inl (x2))]) (st1 := [.inl (0)]) (h1 := (px_G1, q5.2)) rfl ?_
        cases h
        exact px_D_iret rfl rfl ⟨rfl, rfl⟩
      · have hc6 : ¬ ((s 151 3) < (q5.1)) := of_decide_eq_false hc
        rw [if_neg hc6] at h
        refine px_D_st 2 (ip1 := 24) (ls1 := [(0, .inr (.inr 150)), (1, .inl (x1)), (2, .inl (x2))]) (st1 := [.inl (1)]) (h1 := (px_G1, q5.2)) rfl ?_
        cases h
        exact px_D_iret rfl rfl ⟨rfl, rfl⟩

def f_M_pays (s : px_Z) (x1 : Int) (x2 : Int) : Option (Int × px_Z) := (f_M_priceOf s x1).bind (fun q1 => if 0 ≤ (px_wr (24 + x1)) ∧ (px_wr (24 + x1)) < 40 then if 0 ≤ (px_wr (16 + x1)) ∧ (px_wr (16 + x1)) < 40 then if 0 ≤ (px_wr (32 + x1)) ∧ (px_wr (32 + x1)) < 40 then (f_M_notes (px_up (px_up (px_up (px_up (px_up (px_up q1.2 151 3 (px_wr ((q1.2 151 3) - q1.1))) 151 (px_wr (24 + x1)).toNat q1.1) 151 (px_wr (16 + x1)).toNat 1) 151 (px_wr (32 + x1)).toNat (px_wr (x2 + 1))) 151 6 (px_wr (x1 + 1))) 151 7 (px_wr (((px_up (px_up (px_up (px_up (px_up q1.2 151 3 (px_wr ((q1.2 151 3) - q1.1))) 151 (px_wr (24 + x1)).toNat q1.1) 151 (px_wr (16 + x1)).toNat 1) 151 (px_wr (32 + x1)).toNat (px_wr (x2 + 1))) 151 6 (px_wr (x1 + 1))) 151 0) + 1))) 0 x1 q1.1 x2).bind (fun q5 => some (q1.1, q5)) else none else none else none)
set_option maxHeartbeats 4000000 in
set_option maxRecDepth 100000 in
theorem c_M_pays {sc : List Int} {d : Nat} {s : px_Z} {x1 : Int} {x2 : Int} {out : Int × px_Z} (h : f_M_pays s x1 x2 = some out) : px_D sc (d + 6) 230 0 [(0, .inr (.inr 150)), (1, .inl (x1)), (2, .inl (x2))] [] (px_G1, s) (px_Qi out) := by
  unfold f_M_pays at h
  refine px_D_st 2 (ip1 := 2) (ls1 := [(0, .inr (.inr 150)), (1, .inl (x1)), (2, .inl (x2))]) (st1 := [.inl (x1), .inr (.inr 150)]) (h1 := (px_G1, s)) rfl ?_
  refine px_D_call (as := [.inr (.inr 150), .inl (x1)]) (rest := []) rfl rfl rfl rfl ?_
  obtain ⟨q1, hq1, h⟩ := Option.bind_eq_some_iff.mp h
  refine px_D_mono (c_M_priceOf (d := d + 0) hq1) ?_
  rintro _ _ ⟨rfl, rfl⟩
  show px_D sc (d + 6) 230 3 [(0, .inr (.inr 150)), (1, .inl (x1)), (2, .inl (x2))] [.inl (q1.1)] (px_G1, q1.2) _
  refine px_D_st 17 (ip1 := 20) (ls1 := [(3, .inl (q1.1)), (0, .inr (.inr 150)), (1, .inl (x1)), (2, .inl (x2))]) (st1 := [.inl (q1.1), .inl (px_wr (24 + x1)), .inr (.inr 151)]) (h1 := (px_G1, px_up q1.2 151 3 (px_wr ((q1.2 151 3) - q1.1)))) rfl ?_
  by_cases hc2 : 0 ≤ (px_wr (24 + x1)) ∧ (px_wr (24 + x1)) < 40
  case neg => rw [if_neg hc2] at h; cases h
  rw [if_pos hc2] at h
  refine px_D_iast (k := 146) (n := 40) rfl rfl hc2 ?_
  refine px_D_st 6 (ip1 := 27) (ls1 := [(3, .inl (q1.1)), (0, .inr (.inr 150)), (1, .inl (x1)), (2, .inl (x2))]) (st1 := [.inl (1), .inl (px_wr (16 + x1)), .inr (.inr 151)]) (h1 := (px_G1, px_up (px_up q1.2 151 3 (px_wr ((q1.2 151 3) - q1.1))) 151 (px_wr (24 + x1)).toNat q1.1)) rfl ?_
  by_cases hc3 : 0 ≤ (px_wr (16 + x1)) ∧ (px_wr (16 + x1)) < 40
  case neg => rw [if_neg hc3] at h; cases h
  rw [if_pos hc3] at h
  refine px_D_iast (k := 146) (n := 40) rfl rfl hc3 ?_
  refine px_D_st 8 (ip1 := 36) (ls1 := [(3, .inl (q1.1)), (0, .inr (.inr 150)), (1, .inl (x1)), (2, .inl (x2))]) (st1 := [.inl (px_wr (x2 + 1)), .inl (px_wr (32 + x1)), .inr (.inr 151)]) (h1 := (px_G1, px_up (px_up (px_up q1.2 151 3 (px_wr ((q1.2 151 3) - q1.1))) 151 (px_wr (24 + x1)).toNat q1.1) 151 (px_wr (16 + x1)).toNat 1)) rfl ?_
  by_cases hc4 : 0 ≤ (px_wr (32 + x1)) ∧ (px_wr (32 + x1)) < 40
  case neg => rw [if_neg hc4] at h; cases h
  rw [if_pos hc4] at h
  refine px_D_iast (k := 146) (n := 40) rfl rfl hc4 ?_
  refine px_D_st 22 (ip1 := 59) (ls1 := [(3, .inl (q1.1)), (0, .inr (.inr 150)), (1, .inl (x1)), (2, .inl (x2))]) (st1 := [.inl (x2), .inl (q1.1), .inl (x1), .inl (0), .inr (.inr 150)]) (h1 := (px_G1, px_up (px_up (px_up (px_up (px_up (px_up q1.2 151 3 (px_wr ((q1.2 151 3) - q1.1))) 151 (px_wr (24 + x1)).toNat q1.1) 151 (px_wr (16 + x1)).toNat 1) 151 (px_wr (32 + x1)).toNat (px_wr (x2 + 1))) 151 6 (px_wr (x1 + 1))) 151 7 (px_wr (((px_up (px_up (px_up (px_up (px_up q1.2 151 3 (px_wr ((q1.2 151 3) - q1.1))) 151 (px_wr (24 + x1)).toNat q1.1) 151 (px_wr (16 + x1)).toNat 1) 151 (px_wr (32 + x1)).toNat (px_wr (x2 + 1))) 151 6 (px_wr (x1 + 1))) 151 0) + 1)))) rfl ?_
  refine px_D_call (as := [.inr (.inr 150), .inl (0), .inl (x1), .inl (q1.1), .inl (x2)]) (rest := []) rfl rfl rfl rfl ?_
  obtain ⟨q5, hq5, h⟩ := Option.bind_eq_some_iff.mp h
  refine px_D_mono (c_M_notes (d := d + 5) hq5) ?_
  rintro _ _ ⟨rfl, rfl⟩
  show px_D sc (d + 6) 230 60 [(3, .inl (q1.1)), (0, .inr (.inr 150)), (1, .inl (x1)), (2, .inl (x2))] [] (px_G1, q5) _
  refine px_D_st 1 (ip1 := 61) (ls1 := [(3, .inl (q1.1)), (0, .inr (.inr 150)), (1, .inl (x1)), (2, .inl (x2))]) (st1 := [.inl (q1.1)]) (h1 := (px_G1, q5)) rfl ?_
  cases h
  exact px_D_iret rfl rfl ⟨rfl, rfl⟩

def f_M_pay (s : px_Z) (x1 : Int) (x2 : Int) : Option (Int × px_Z) := if (f_M_isThing (px_up s 150 0 0) x1) = (0) then some (((-1), px_up s 150 0 0)) else (if (f_M_isIn (px_up s 150 0 0) x2 0 5) = (0) then some (((-1), px_up s 150 0 0)) else (f_M_canPay (px_up s 150 0 0) x1 x2).bind (fun q3 => if (q3.1) = (0) then some (((-1), q3.2)) else (f_M_keepsAhead q3.2 ).bind (fun q5 => (f_M_pays q5 x1 x2).bind (fun q6 => some (q6.1, q6.2)))))
set_option maxHeartbeats 4000000 in
set_option maxRecDepth 100000 in
theorem c_M_pay {sc : List Int} {d : Nat} {s : px_Z} {x1 : Int} {x2 : Int} {out : Int × px_Z} (h : f_M_pay s x1 x2 = some out) : px_D sc (d + 7) 231 0 [(0, .inr (.inr 150)), (1, .inl (x1)), (2, .inl (x2))] [] (px_G1, s) (px_Qi out) := by
  unfold f_M_pay at h
  refine px_D_st 5 (ip1 := 5) (ls1 := [(0, .inr (.inr 150)), (1, .inl (x1)), (2, .inl (x2))]) (st1 := [.inl (x1), .inr (.inr 150)]) (h1 := (px_G1, px_up s 150 0 0)) rfl ?_
  refine px_D_call (as := [.inr (.inr 150), .inl (x1)]) (rest := []) rfl rfl rfl rfl ?_
  refine px_D_mono (c_M_isThing (d := d + 6) rfl) ?_
  rintro _ _ ⟨rfl, rfl⟩
  show px_D sc (d + 7) 231 6 [(0, .inr (.inr 150)), (1, .inl (x1)), (2, .inl (x2))] [.inl (f_M_isThing (px_up s 150 0 0) x1)] (px_G1, px_up s 150 0 0) _
  refine px_D_ifc rfl (fun hc => ?_) (fun hc => ?_)
  · have hc1 : (f_M_isThing (px_up s 150 0 0) x1) = (0) := of_decide_eq_true hc
    rw [if_pos hc1] at h
    refine px_D_st 1 (ip1 := 19) (ls1 := [(0, .inr (.inr 150)), (1, .inl (x1)), (2, .inl (x2))]) (st1 := [.inl ((-1))]) (h1 := (px_G1, px_up s 150 0 0)) rfl ?_
    cases h
    exact px_D_iret rfl rfl ⟨rfl, rfl⟩
  · have hc1 : ¬ ((f_M_isThing (px_up s 150 0 0) x1) = (0)) := of_decide_eq_false hc
    rw [if_neg hc1] at h
    refine px_D_st 4 (ip1 := 11) (ls1 := [(0, .inr (.inr 150)), (1, .inl (x1)), (2, .inl (x2))]) (st1 := [.inl (5), .inl (0), .inl (x2), .inr (.inr 150)]) (h1 := (px_G1, px_up s 150 0 0)) rfl ?_
    refine px_D_call (as := [.inr (.inr 150), .inl (x2), .inl (0), .inl (5)]) (rest := []) rfl rfl rfl rfl ?_
    refine px_D_mono (c_M_isIn (d := d + 6) rfl) ?_
    rintro _ _ ⟨rfl, rfl⟩
    show px_D sc (d + 7) 231 12 [(0, .inr (.inr 150)), (1, .inl (x1)), (2, .inl (x2))] [.inl (f_M_isIn (px_up s 150 0 0) x2 0 5)] (px_G1, px_up s 150 0 0) _
    refine px_D_ifc rfl (fun hc => ?_) (fun hc => ?_)
    · have hc2 : (f_M_isIn (px_up s 150 0 0) x2 0 5) = (0) := of_decide_eq_true hc
      rw [if_pos hc2] at h
      refine px_D_st 1 (ip1 := 19) (ls1 := [(0, .inr (.inr 150)), (1, .inl (x1)), (2, .inl (x2))]) (st1 := [.inl ((-1))]) (h1 := (px_G1, px_up s 150 0 0)) rfl ?_
      cases h
      exact px_D_iret rfl rfl ⟨rfl, rfl⟩
    · have hc2 : ¬ ((f_M_isIn (px_up s 150 0 0) x2 0 5) = (0)) := of_decide_eq_false hc
      rw [if_neg hc2] at h
      refine px_D_st 3 (ip1 := 16) (ls1 := [(0, .inr (.inr 150)), (1, .inl (x1)), (2, .inl (x2))]) (st1 := [.inl (x2), .inl (x1), .inr (.inr 150)]) (h1 := (px_G1, px_up s 150 0 0)) rfl ?_
      refine px_D_call (as := [.inr (.inr 150), .inl (x1), .inl (x2)]) (rest := []) rfl rfl rfl rfl ?_
      obtain ⟨q3, hq3, h⟩ := Option.bind_eq_some_iff.mp h
      refine px_D_mono (c_M_canPay (d := d + 0) hq3) ?_
      rintro _ _ ⟨rfl, rfl⟩
      show px_D sc (d + 7) 231 17 [(0, .inr (.inr 150)), (1, .inl (x1)), (2, .inl (x2))] [.inl (q3.1)] (px_G1, q3.2) _
      refine px_D_ifc rfl (fun hc => ?_) (fun hc => ?_)
      · have hc4 : ¬ ((q3.1) = (0)) := of_decide_eq_true hc
        rw [if_neg hc4] at h
        refine px_D_st 1 (ip1 := 21) (ls1 := [(0, .inr (.inr 150)), (1, .inl (x1)), (2, .inl (x2))]) (st1 := [.inr (.inr 150)]) (h1 := (px_G1, q3.2)) rfl ?_
        refine px_D_call (as := [.inr (.inr 150)]) (rest := []) rfl rfl rfl rfl ?_
        obtain ⟨q5, hq5, h⟩ := Option.bind_eq_some_iff.mp h
        refine px_D_mono (c_M_keepsAhead (d := d + 6) hq5) ?_
        rintro _ _ ⟨rfl, rfl⟩
        show px_D sc (d + 7) 231 22 [(0, .inr (.inr 150)), (1, .inl (x1)), (2, .inl (x2))] [] (px_G1, q5) _
        refine px_D_st 3 (ip1 := 25) (ls1 := [(0, .inr (.inr 150)), (1, .inl (x1)), (2, .inl (x2))]) (st1 := [.inl (x2), .inl (x1), .inr (.inr 150)]) (h1 := (px_G1, q5)) rfl ?_
        refine px_D_call (as := [.inr (.inr 150), .inl (x1), .inl (x2)]) (rest := []) rfl rfl rfl rfl ?_
        obtain ⟨q6, hq6, h⟩ := Option.bind_eq_some_iff.mp h
        refine px_D_mono (c_M_pays (d := d + 0) hq6) ?_
        rintro _ _ ⟨rfl, rfl⟩
        show px_D sc (d + 7) 231 26 [(0, .inr (.inr 150)), (1, .inl (x1)), (2, .inl (x2))] [.inl (q6.1)] (px_G1, q6.2) _
        cases h
        exact px_D_iret rfl rfl ⟨rfl, rfl⟩
      · have hc4 : (q3.1) = (0) := Decidable.of_not_not (of_decide_eq_false hc)
        rw [if_pos hc4] at h
        refine px_D_st 1 (ip1 := 19) (ls1 := [(0, .inr (.inr 150)), (1, .inl (x1)), (2, .inl (x2))]) (st1 := [.inl ((-1))]) (h1 := (px_G1, q3.2)) rfl ?_
        cases h
        exact px_D_iret rfl rfl ⟨rfl, rfl⟩

def f_M_cries (s : px_Z) (x1 : Int) : Option (px_Z) := (f_M_notes (px_up s 151 5 (f_M_held s (px_wr ((s 151 5) + x1)) 0 99)) 1 x1 0 (-1)).bind (fun q1 => some q1)
set_option maxHeartbeats 4000000 in
set_option maxRecDepth 100000 in
theorem c_M_cries {sc : List Int} {d : Nat} {s : px_Z} {x1 : Int} {out : px_Z} (h : f_M_cries s x1 = some out) : px_D sc (d + 1) 232 0 [(0, .inr (.inr 150)), (1, .inl (x1))] [] (px_G1, s) (px_Qv out) := by
  unfold f_M_cries at h
  refine px_D_st 12 (ip1 := 12) (ls1 := [(0, .inr (.inr 150)), (1, .inl (x1))]) (st1 := [.inl (99), .inl (0), .inl (px_wr ((s 151 5) + x1)), .inr (.inr 150), .inl (5), .inr (.inr 151)]) (h1 := (px_G1, s)) rfl ?_
  refine px_D_call (as := [.inr (.inr 150), .inl (px_wr ((s 151 5) + x1)), .inl (0), .inl (99)]) (rest := [.inl (5), .inr (.inr 151)]) rfl rfl rfl rfl ?_
  refine px_D_mono (c_M_held (d := d + 0) rfl) ?_
  rintro _ _ ⟨rfl, rfl⟩
  show px_D sc (d + 1) 232 13 [(0, .inr (.inr 150)), (1, .inl (x1))] [.inl (f_M_held s (px_wr ((s 151 5) + x1)) 0 99), .inl (5), .inr (.inr 151)] (px_G1, s) _
  refine px_D_st 6 (ip1 := 19) (ls1 := [(0, .inr (.inr 150)), (1, .inl (x1))]) (st1 := [.inl ((-1)), .inl (0), .inl (x1), .inl (1), .inr (.inr 150)]) (h1 := (px_G1, px_up s 151 5 (f_M_held s (px_wr ((s 151 5) + x1)) 0 99))) rfl ?_
  refine px_D_call (as := [.inr (.inr 150), .inl (1), .inl (x1), .inl (0), .inl ((-1))]) (rest := []) rfl rfl rfl rfl ?_
  obtain ⟨q1, hq1, h⟩ := Option.bind_eq_some_iff.mp h
  refine px_D_mono (c_M_notes (d := d + 0) hq1) ?_
  rintro _ _ ⟨rfl, rfl⟩
  show px_D sc (d + 1) 232 20 [(0, .inr (.inr 150)), (1, .inl (x1))] [] (px_G1, q1) _
  cases h
  exact px_D_vret rfl ⟨rfl, rfl⟩

def f_M_cry (s : px_Z) (x1 : Int) : Option (Int × px_Z) := if (f_M_isIn (px_up s 150 0 0) x1 1 20) = (0) then some (((-1), px_up s 150 0 0)) else (f_M_keepsAhead (px_up s 150 0 0) ).bind (fun q2 => (f_M_cries q2 x1).bind (fun q3 => some (q3 151 5, q3)))
set_option maxHeartbeats 4000000 in
set_option maxRecDepth 100000 in
theorem c_M_cry {sc : List Int} {d : Nat} {s : px_Z} {x1 : Int} {out : Int × px_Z} (h : f_M_cry s x1 = some out) : px_D sc (d + 2) 233 0 [(0, .inr (.inr 150)), (1, .inl (x1))] [] (px_G1, s) (px_Qi out) := by
  unfold f_M_cry at h
  refine px_D_st 7 (ip1 := 7) (ls1 := [(0, .inr (.inr 150)), (1, .inl (x1))]) (st1 := [.inl (20), .inl (1), .inl (x1), .inr (.inr 150)]) (h1 := (px_G1, px_up s 150 0 0)) rfl ?_
  refine px_D_call (as := [.inr (.inr 150), .inl (x1), .inl (1), .inl (20)]) (rest := []) rfl rfl rfl rfl ?_
  refine px_D_mono (c_M_isIn (d := d + 1) rfl) ?_
  rintro _ _ ⟨rfl, rfl⟩
  show px_D sc (d + 2) 233 8 [(0, .inr (.inr 150)), (1, .inl (x1))] [.inl (f_M_isIn (px_up s 150 0 0) x1 1 20)] (px_G1, px_up s 150 0 0) _
  refine px_D_ifc rfl (fun hc => ?_) (fun hc => ?_)
  · have hc1 : ¬ ((f_M_isIn (px_up s 150 0 0) x1 1 20) = (0)) := of_decide_eq_true hc
    rw [if_neg hc1] at h
    refine px_D_st 1 (ip1 := 12) (ls1 := [(0, .inr (.inr 150)), (1, .inl (x1))]) (st1 := [.inr (.inr 150)]) (h1 := (px_G1, px_up s 150 0 0)) rfl ?_
    refine px_D_call (as := [.inr (.inr 150)]) (rest := []) rfl rfl rfl rfl ?_
    obtain ⟨q2, hq2, h⟩ := Option.bind_eq_some_iff.mp h
    refine px_D_mono (c_M_keepsAhead (d := d + 1) hq2) ?_
    rintro _ _ ⟨rfl, rfl⟩
    show px_D sc (d + 2) 233 13 [(0, .inr (.inr 150)), (1, .inl (x1))] [] (px_G1, q2) _
    refine px_D_st 2 (ip1 := 15) (ls1 := [(0, .inr (.inr 150)), (1, .inl (x1))]) (st1 := [.inl (x1), .inr (.inr 150)]) (h1 := (px_G1, q2)) rfl ?_
    refine px_D_call (as := [.inr (.inr 150), .inl (x1)]) (rest := []) rfl rfl rfl rfl ?_
    obtain ⟨q3, hq3, h⟩ := Option.bind_eq_some_iff.mp h
    refine px_D_mono (c_M_cries (d := d + 0) hq3) ?_
    rintro _ _ ⟨rfl, rfl⟩
    show px_D sc (d + 2) 233 16 [(0, .inr (.inr 150)), (1, .inl (x1))] [] (px_G1, q3) _
    refine px_D_st 4 (ip1 := 20) (ls1 := [(0, .inr (.inr 150)), (1, .inl (x1))]) (st1 := [.inl (q3 151 5)]) (h1 := (px_G1, q3)) rfl ?_
    cases h
    exact px_D_iret rfl rfl ⟨rfl, rfl⟩
  · have hc1 : (f_M_isIn (px_up s 150 0 0) x1 1 20) = (0) := Decidable.of_not_not (of_decide_eq_false hc)
    rw [if_pos hc1] at h
    refine px_D_st 1 (ip1 := 10) (ls1 := [(0, .inr (.inr 150)), (1, .inl (x1))]) (st1 := [.inl ((-1))]) (h1 := (px_G1, px_up s 150 0 0)) rfl ?_
    cases h
    exact px_D_iret rfl rfl ⟨rfl, rfl⟩

def l_M_wears_2  : Nat → px_Z → Int → Option (px_Z)
  | 0, _, _ => none
  | n + 1, s, x1 => if (s 150 6) ≤ (x1) then some s else (f_M_isHome s x1).bind (fun q2 => if (q2) = (0) then (f_M_asks s x1).bind (fun q4 => if 0 ≤ (px_wr (8 + x1)) ∧ (px_wr (8 + x1)) < 40 then (f_M_lawTells q4 1 1 1 0 20).bind (fun q6 => if 0 ≤ (px_wr (8 + x1)) ∧ (px_wr (8 + x1)) < 40 then l_M_wears_2  n (px_up q6.2 151 (px_wr (8 + x1)).toNat (f_M_held q6.2 (px_wr ((q4 151 (px_wr (8 + x1)).toNat) + q6.1)) 0 99)) (px_wr (x1 + 1)) else none) else none) else l_M_wears_2  n s (px_wr (x1 + 1)))
set_option maxHeartbeats 4000000 in
set_option maxRecDepth 100000 in
theorem cl_M_wears_2 {sc : List Int} {d : Nat}  : ∀ (n : Nat) (s : px_Z) (x1 : Int) (out : px_Z), l_M_wears_2  n s x1 = some out → px_D sc (d + 4) 234 2 [(0, .inr (.inr 150)), (1, .inl (x1))] [] (px_G1, s) (px_Qv out) := by
  intro n
  induction n with
  | zero => intro s x1 out h; cases h
  | succ n ih =>
    intro s x1 out h
    rw [l_M_wears_2] at h
    refine px_D_st 3 (ip1 := 5) (ls1 := [(0, .inr (.inr 150)), (1, .inl (x1))]) (st1 := [.inl (s 150 6), .inl (x1)]) (h1 := (px_G1, s)) rfl ?_
    refine px_D_icmp rfl (fun hc => ?_) (fun hc => ?_)
    · have hc1 : (s 150 6) ≤ (x1) := of_decide_eq_true hc
      rw [if_pos hc1] at h
      cases h
      exact px_D_vret rfl ⟨rfl, rfl⟩
    · have hc1 : ¬ ((s 150 6) ≤ (x1)) := of_decide_eq_false hc
      rw [if_neg hc1] at h
      refine px_D_st 2 (ip1 := 8) (ls1 := [(0, .inr (.inr 150)), (1, .inl (x1))]) (st1 := [.inl (x1), .inr (.inr 150)]) (h1 := (px_G1, s)) rfl ?_
      refine px_D_call (as := [.inr (.inr 150), .inl (x1)]) (rest := []) rfl rfl rfl rfl ?_
      obtain ⟨q2, hq2, h⟩ := Option.bind_eq_some_iff.mp h
      refine px_D_mono (c_M_isHome (d := d + 3) hq2) ?_
      rintro _ _ ⟨rfl, rfl⟩
      show px_D sc (d + 4) 234 9 [(0, .inr (.inr 150)), (1, .inl (x1))] [.inl (q2)] (px_G1, s) _
      refine px_D_ifc rfl (fun hc => ?_) (fun hc => ?_)
      · have hc3 : (q2) = (0) := of_decide_eq_true hc
        rw [if_pos hc3] at h
        refine px_D_st 2 (ip1 := 13) (ls1 := [(0, .inr (.inr 150)), (1, .inl (x1))]) (st1 := [.inl (x1), .inr (.inr 150)]) (h1 := (px_G1, s)) rfl ?_
        refine px_D_call (as := [.inr (.inr 150), .inl (x1)]) (rest := []) rfl rfl rfl rfl ?_
        obtain ⟨q4, hq4, h⟩ := Option.bind_eq_some_iff.mp h
        refine px_D_mono (c_M_asks (d := d + 0) hq4) ?_
        rintro _ _ ⟨rfl, rfl⟩
        show px_D sc (d + 4) 234 14 [(0, .inr (.inr 150)), (1, .inl (x1))] [] (px_G1, q4) _
        refine px_D_st 11 (ip1 := 25) (ls1 := [(0, .inr (.inr 150)), (1, .inl (x1))]) (st1 := [.inl (px_wr (8 + x1)), .inr (.inr 151), .inr (.inr 150), .inl (px_wr (8 + x1)), .inr (.inr 151)]) (h1 := (px_G1, q4)) rfl ?_
        by_cases hc5 : 0 ≤ (px_wr (8 + x1)) ∧ (px_wr (8 + x1)) < 40
        case neg => rw [if_neg hc5] at h; cases h
        rw [if_pos hc5] at h
        refine px_D_iald (k := 146) (n := 40) rfl rfl hc5 ?_
        refine px_D_st 6 (ip1 := 32) (ls1 := [(0, .inr (.inr 150)), (1, .inl (x1))]) (st1 := [.inl (20), .inl (0), .inl (1), .inl (1), .inl (1), .inr (.inr 150), .inl (q4 151 (px_wr (8 + x1)).toNat), .inr (.inr 150), .inl (px_wr (8 + x1)), .inr (.inr 151)]) (h1 := (px_G1, q4)) rfl ?_
        refine px_D_call (as := [.inr (.inr 150), .inl (1), .inl (1), .inl (1), .inl (0), .inl (20)]) (rest := [.inl (q4 151 (px_wr (8 + x1)).toNat), .inr (.inr 150), .inl (px_wr (8 + x1)), .inr (.inr 151)]) rfl rfl rfl rfl ?_
        obtain ⟨q6, hq6, h⟩ := Option.bind_eq_some_iff.mp h
        refine px_D_mono (c_M_lawTells (d := d + 0) hq6) ?_
        rintro _ _ ⟨rfl, rfl⟩
        show px_D sc (d + 4) 234 33 [(0, .inr (.inr 150)), (1, .inl (x1))] [.inl (q6.1), .inl (q4 151 (px_wr (8 + x1)).toNat), .inr (.inr 150), .inl (px_wr (8 + x1)), .inr (.inr 151)] (px_G1, q6.2) _
        refine px_D_st 3 (ip1 := 36) (ls1 := [(0, .inr (.inr 150)), (1, .inl (x1))]) (st1 := [.inl (99), .inl (0), .inl (px_wr ((q4 151 (px_wr (8 + x1)).toNat) + q6.1)), .inr (.inr 150), .inl (px_wr (8 + x1)), .inr (.inr 151)]) (h1 := (px_G1, q6.2)) rfl ?_
        refine px_D_call (as := [.inr (.inr 150), .inl (px_wr ((q4 151 (px_wr (8 + x1)).toNat) + q6.1)), .inl (0), .inl (99)]) (rest := [.inl (px_wr (8 + x1)), .inr (.inr 151)]) rfl rfl rfl rfl ?_
        refine px_D_mono (c_M_held (d := d + 3) rfl) ?_
        rintro _ _ ⟨rfl, rfl⟩
        show px_D sc (d + 4) 234 37 [(0, .inr (.inr 150)), (1, .inl (x1))] [.inl (f_M_held q6.2 (px_wr ((q4 151 (px_wr (8 + x1)).toNat) + q6.1)) 0 99), .inl (px_wr (8 + x1)), .inr (.inr 151)] (px_G1, q6.2) _
        by_cases hc7 : 0 ≤ (px_wr (8 + x1)) ∧ (px_wr (8 + x1)) < 40
        case neg => rw [if_neg hc7] at h; cases h
        rw [if_pos hc7] at h
        refine px_D_iast (k := 146) (n := 40) rfl rfl hc7 ?_
        refine px_D_st 2 (ip1 := 2) (ls1 := [(1, .inl (px_wr (x1 + 1))), (0, .inr (.inr 150))]) (st1 := []) (h1 := (px_G1, px_up q6.2 151 (px_wr (8 + x1)).toNat (f_M_held q6.2 (px_wr ((q4 151 (px_wr (8 + x1)).toNat) + q6.1)) 0 99))) rfl ?_
        refine px_D_ls [(0, .inr (.inr 150)), (1, .inl (px_wr (x1 + 1)))] rfl rfl (List.forall_mem_cons.mpr ⟨rfl, List.forall_mem_cons.mpr ⟨rfl, fun _ h => absurd h List.not_mem_nil⟩⟩) ?_
        exact ih _ _ _ h
      · have hc3 : ¬ ((q2) = (0)) := of_decide_eq_false hc
        rw [if_neg hc3] at h
        refine px_D_st 3 (ip1 := 2) (ls1 := [(1, .inl (px_wr (x1 + 1))), (0, .inr (.inr 150))]) (st1 := []) (h1 := (px_G1, s)) rfl ?_
        refine px_D_ls [(0, .inr (.inr 150)), (1, .inl (px_wr (x1 + 1)))] rfl rfl (List.forall_mem_cons.mpr ⟨rfl, List.forall_mem_cons.mpr ⟨rfl, fun _ h => absurd h List.not_mem_nil⟩⟩) ?_
        exact ih _ _ _ h
def f_M_wears (s : px_Z) : Option (px_Z) := l_M_wears_2  px_big s 0
set_option maxHeartbeats 4000000 in
set_option maxRecDepth 100000 in
theorem c_M_wears {sc : List Int} {d : Nat} {s : px_Z} {out : px_Z} (h : f_M_wears s  = some out) : px_D sc (d + 4) 234 0 [(0, .inr (.inr 150))] [] (px_G1, s) (px_Qv out) := by
  unfold f_M_wears at h
  refine px_D_st 2 (ip1 := 2) (ls1 := [(1, .inl (0)), (0, .inr (.inr 150))]) (st1 := []) (h1 := (px_G1, s)) rfl ?_
  refine px_D_ls [(0, .inr (.inr 150)), (1, .inl (0))] rfl rfl (List.forall_mem_cons.mpr ⟨rfl, List.forall_mem_cons.mpr ⟨rfl, fun _ h => absurd h List.not_mem_nil⟩⟩) ?_
  refine cl_M_wears_2  px_big _ _ _ h

def f_M_eats (s : px_Z) : Option (px_Z) := (f_M_asksNothing s ).bind (fun q1 => (f_M_lawTells q1 1 2 1 0 99).bind (fun q2 => if ((px_up q2.2 151 4 (f_M_held q2.2 (px_wr ((q1 151 4) - q2.1)) 0 9999)) 150 5) = (0) then (if ((px_up q2.2 151 4 (f_M_held q2.2 (px_wr ((q1 151 4) - q2.1)) 0 9999)) 151 4) = (0) then some (px_up q2.2 151 4 (f_M_held q2.2 (px_wr ((q1 151 4) - q2.1)) 0 9999)) else (if ((px_up q2.2 151 4 (f_M_held q2.2 (px_wr ((q1 151 4) - q2.1)) 0 9999)) 150 9) = (0) then some (px_up q2.2 151 4 (f_M_held q2.2 (px_wr ((q1 151 4) - q2.1)) 0 9999)) else (f_M_draw (px_up q2.2 151 4 (f_M_held q2.2 (px_wr ((q1 151 4) - q2.1)) 0 9999)) 100).bind (fun q6 => if (q6.1) < (q6.2 150 9) then (f_M_asksNothing q6.2 ).bind (fun q8 => (f_M_lawTells q8 1 3 0 0 99).bind (fun q9 => some (px_up q9.2 151 4 (f_M_held q9.2 (px_wr ((q8 151 4) + q9.1)) 0 9999)))) else some q6.2))) else some (px_up q2.2 151 4 (f_M_held q2.2 (px_wr ((q1 151 4) - q2.1)) 0 9999))))
set_option maxHeartbeats 4000000 in
set_option maxRecDepth 100000 in
theorem c_M_eats {sc : List Int} {d : Nat} {s : px_Z} {out : px_Z} (h : f_M_eats s  = some out) : px_D sc (d + 4) 235 0 [(0, .inr (.inr 150))] [] (px_G1, s) (px_Qv out) := by
  unfold f_M_eats at h
  refine px_D_st 1 (ip1 := 1) (ls1 := [(0, .inr (.inr 150))]) (st1 := [.inr (.inr 150)]) (h1 := (px_G1, s)) rfl ?_
  refine px_D_call (as := [.inr (.inr 150)]) (rest := []) rfl rfl rfl rfl ?_
  obtain ⟨q1, hq1, h⟩ := Option.bind_eq_some_iff.mp h
  refine px_D_mono (c_M_asksNothing (d := d + 0) hq1) ?_
  rintro _ _ ⟨rfl, rfl⟩
  show px_D sc (d + 4) 235 2 [(0, .inr (.inr 150))] [] (px_G1, q1) _
  refine px_D_st 14 (ip1 := 16) (ls1 := [(0, .inr (.inr 150))]) (st1 := [.inl (99), .inl (0), .inl (1), .inl (2), .inl (1), .inr (.inr 150), .inl (q1 151 4), .inr (.inr 150), .inl (4), .inr (.inr 151)]) (h1 := (px_G1, q1)) rfl ?_
  refine px_D_call (as := [.inr (.inr 150), .inl (1), .inl (2), .inl (1), .inl (0), .inl (99)]) (rest := [.inl (q1 151 4), .inr (.inr 150), .inl (4), .inr (.inr 151)]) rfl rfl rfl rfl ?_
  obtain ⟨q2, hq2, h⟩ := Option.bind_eq_some_iff.mp h
  refine px_D_mono (c_M_lawTells (d := d + 0) hq2) ?_
  rintro _ _ ⟨rfl, rfl⟩
  show px_D sc (d + 4) 235 17 [(0, .inr (.inr 150))] [.inl (q2.1), .inl (q1 151 4), .inr (.inr 150), .inl (4), .inr (.inr 151)] (px_G1, q2.2) _
  refine px_D_st 3 (ip1 := 20) (ls1 := [(0, .inr (.inr 150))]) (st1 := [.inl (9999), .inl (0), .inl (px_wr ((q1 151 4) - q2.1)), .inr (.inr 150), .inl (4), .inr (.inr 151)]) (h1 := (px_G1, q2.2)) rfl ?_
  refine px_D_call (as := [.inr (.inr 150), .inl (px_wr ((q1 151 4) - q2.1)), .inl (0), .inl (9999)]) (rest := [.inl (4), .inr (.inr 151)]) rfl rfl rfl rfl ?_
  refine px_D_mono (c_M_held (d := d + 3) rfl) ?_
  rintro _ _ ⟨rfl, rfl⟩
  show px_D sc (d + 4) 235 21 [(0, .inr (.inr 150))] [.inl (f_M_held q2.2 (px_wr ((q1 151 4) - q2.1)) 0 9999), .inl (4), .inr (.inr 151)] (px_G1, q2.2) _
  refine px_D_st 3 (ip1 := 24) (ls1 := [(0, .inr (.inr 150))]) (st1 := [.inl ((px_up q2.2 151 4 (f_M_held q2.2 (px_wr ((q1 151 4) - q2.1)) 0 9999)) 150 5)]) (h1 := (px_G1, px_up q2.2 151 4 (f_M_held q2.2 (px_wr ((q1 151 4) - q2.1)) 0 9999))) rfl ?_
  refine px_D_ifc rfl (fun hc => ?_) (fun hc => ?_)
  · have hc3 : ¬ (((px_up q2.2 151 4 (f_M_held q2.2 (px_wr ((q1 151 4) - q2.1)) 0 9999)) 150 5) = (0)) := of_decide_eq_true hc
    rw [if_neg hc3] at h
    cases h
    exact px_D_vret rfl ⟨rfl, rfl⟩
  · have hc3 : ((px_up q2.2 151 4 (f_M_held q2.2 (px_wr ((q1 151 4) - q2.1)) 0 9999)) 150 5) = (0) := Decidable.of_not_not (of_decide_eq_false hc)
    rw [if_pos hc3] at h
    refine px_D_st 4 (ip1 := 29) (ls1 := [(0, .inr (.inr 150))]) (st1 := [.inl ((px_up q2.2 151 4 (f_M_held q2.2 (px_wr ((q1 151 4) - q2.1)) 0 9999)) 151 4)]) (h1 := (px_G1, px_up q2.2 151 4 (f_M_held q2.2 (px_wr ((q1 151 4) - q2.1)) 0 9999))) rfl ?_
    refine px_D_ifc rfl (fun hc => ?_) (fun hc => ?_)
    · have hc4 : ((px_up q2.2 151 4 (f_M_held q2.2 (px_wr ((q1 151 4) - q2.1)) 0 9999)) 151 4) = (0) := of_decide_eq_true hc
      rw [if_pos hc4] at h
      cases h
      exact px_D_vret rfl ⟨rfl, rfl⟩
    · have hc4 : ¬ (((px_up q2.2 151 4 (f_M_held q2.2 (px_wr ((q1 151 4) - q2.1)) 0 9999)) 151 4) = (0)) := of_decide_eq_false hc
      rw [if_neg hc4] at h
      refine px_D_st 2 (ip1 := 32) (ls1 := [(0, .inr (.inr 150))]) (st1 := [.inl ((px_up q2.2 151 4 (f_M_held q2.2 (px_wr ((q1 151 4) - q2.1)) 0 9999)) 150 9)]) (h1 := (px_G1, px_up q2.2 151 4 (f_M_held q2.2 (px_wr ((q1 151 4) - q2.1)) 0 9999))) rfl ?_
      refine px_D_ifc rfl (fun hc => ?_) (fun hc => ?_)
      · have hc5 : ((px_up q2.2 151 4 (f_M_held q2.2 (px_wr ((q1 151 4) - q2.1)) 0 9999)) 150 9) = (0) := of_decide_eq_true hc
        rw [if_pos hc5] at h
        cases h
        exact px_D_vret rfl ⟨rfl, rfl⟩
      · have hc5 : ¬ (((px_up q2.2 151 4 (f_M_held q2.2 (px_wr ((q1 151 4) - q2.1)) 0 9999)) 150 9) = (0)) := of_decide_eq_false hc
        rw [if_neg hc5] at h
        refine px_D_st 2 (ip1 := 35) (ls1 := [(0, .inr (.inr 150))]) (st1 := [.inl (100), .inr (.inr 150)]) (h1 := (px_G1, px_up q2.2 151 4 (f_M_held q2.2 (px_wr ((q1 151 4) - q2.1)) 0 9999))) rfl ?_
        refine px_D_call (as := [.inr (.inr 150), .inl (100)]) (rest := []) rfl rfl rfl rfl ?_
        obtain ⟨q6, hq6, h⟩ := Option.bind_eq_some_iff.mp h
        refine px_D_mono (c_M_draw (d := d + 3) hq6) ?_
        rintro _ _ ⟨rfl, rfl⟩
        show px_D sc (d + 4) 235 36 [(0, .inr (.inr 150))] [.inl (q6.1)] (px_G1, q6.2) _
        refine px_D_st 2 (ip1 := 38) (ls1 := [(0, .inr (.inr 150))]) (st1 := [.inl (q6.2 150 9), .inl (q6.1)]) (h1 := (px_G1, q6.2)) rfl ?_
        refine px_D_icmp rfl (fun hc => ?_) (fun hc => ?_)
        · have hc7 : (q6.1) < (q6.2 150 9) := of_decide_eq_true hc
          rw [if_pos hc7] at h
          refine px_D_st 1 (ip1 := 41) (ls1 := [(0, .inr (.inr 150))]) (st1 := [.inr (.inr 150)]) (h1 := (px_G1, q6.2)) rfl ?_
          refine px_D_call (as := [.inr (.inr 150)]) (rest := []) rfl rfl rfl rfl ?_
          obtain ⟨q8, hq8, h⟩ := Option.bind_eq_some_iff.mp h
          refine px_D_mono (c_M_asksNothing (d := d + 0) hq8) ?_
          rintro _ _ ⟨rfl, rfl⟩
          show px_D sc (d + 4) 235 42 [(0, .inr (.inr 150))] [] (px_G1, q8) _
          refine px_D_st 14 (ip1 := 56) (ls1 := [(0, .inr (.inr 150))]) (st1 := [.inl (99), .inl (0), .inl (0), .inl (3), .inl (1), .inr (.inr 150), .inl (q8 151 4), .inr (.inr 150), .inl (4), .inr (.inr 151)]) (h1 := (px_G1, q8)) rfl ?_
          refine px_D_call (as := [.inr (.inr 150), .inl (1), .inl (3), .inl (0), .inl (0), .inl (99)]) (rest := [.inl (q8 151 4), .inr (.inr 150), .inl (4), .inr (.inr 151)]) rfl rfl rfl rfl ?_
          obtain ⟨q9, hq9, h⟩ := Option.bind_eq_some_iff.mp h
          refine px_D_mono (c_M_lawTells (d := d + 0) hq9) ?_
          rintro _ _ ⟨rfl, rfl⟩
          show px_D sc (d + 4) 235 57 [(0, .inr (.inr 150))] [.inl (q9.1), .inl (q8 151 4), .inr (.inr 150), .inl (4), .inr (.inr 151)] (px_G1, q9.2) _
          refine px_D_st 3 (ip1 := 60) (ls1 := [(0, .inr (.inr 150))]) (st1 := [.inl (9999), .inl (0), .inl (px_wr ((q8 151 4) + q9.1)), .inr (.inr 150), .inl (4), .inr (.inr 151)]) (h1 := (px_G1, q9.2)) rfl ?_
          refine px_D_call (as := [.inr (.inr 150), .inl (px_wr ((q8 151 4) + q9.1)), .inl (0), .inl (9999)]) (rest := [.inl (4), .inr (.inr 151)]) rfl rfl rfl rfl ?_
          refine px_D_mono (c_M_held (d := d + 3) rfl) ?_
          rintro _ _ ⟨rfl, rfl⟩
          show px_D sc (d + 4) 235 61 [(0, .inr (.inr 150))] [.inl (f_M_held q9.2 (px_wr ((q8 151 4) + q9.1)) 0 9999), .inl (4), .inr (.inr 151)] (px_G1, q9.2) _
          refine px_D_st 1 (ip1 := 62) (ls1 := [(0, .inr (.inr 150))]) (st1 := []) (h1 := (px_G1, px_up q9.2 151 4 (f_M_held q9.2 (px_wr ((q8 151 4) + q9.1)) 0 9999))) rfl ?_
          cases h
          exact px_D_vret rfl ⟨rfl, rfl⟩
        · have hc7 : ¬ ((q6.1) < (q6.2 150 9)) := of_decide_eq_false hc
          rw [if_neg hc7] at h
          cases h
          exact px_D_vret rfl ⟨rfl, rfl⟩

def l_M_isRobbed_16 (k30 : px_Z → Int → Option (Int × px_Z)) : Nat → px_Z → Int → Option (Int × px_Z)
  | 0, _, _ => none
  | n + 1, s, x1 => if (px_wr ((s 150 6) - 1)) ≤ (x1) then some (0, s) else (if 0 ≤ (px_wr (16 + x1)) ∧ (px_wr (16 + x1)) < 40 then if (s 151 (px_wr (16 + x1)).toNat) = (0) then k30 s x1 else l_M_isRobbed_16 k30 n s (px_wr (x1 + 1)) else none)
set_option maxHeartbeats 4000000 in
set_option maxRecDepth 100000 in
theorem cl_M_isRobbed_16 {sc : List Int} {d : Nat} {k30 : px_Z → Int → Option (Int × px_Z)}  (hk30 : ∀ (s : px_Z) (y1 : Int) (out : Int × px_Z), k30 s y1 = some out → px_D sc (d + 1) 236 30 [(0, .inr (.inr 150)), (1, .inl (y1))] [] (px_G1, s) (px_Qi out)) : ∀ (n : Nat) (s : px_Z) (x1 : Int) (out : Int × px_Z), l_M_isRobbed_16 k30 n s x1 = some out → px_D sc (d + 1) 236 16 [(0, .inr (.inr 150)), (1, .inl (x1))] [] (px_G1, s) (px_Qi out) := by
  intro n
  induction n with
  | zero => intro s x1 out h; cases h
  | succ n ih =>
    intro s x1 out h
    rw [l_M_isRobbed_16] at h
    refine px_D_st 5 (ip1 := 21) (ls1 := [(0, .inr (.inr 150)), (1, .inl (x1))]) (st1 := [.inl (px_wr ((s 150 6) - 1)), .inl (x1)]) (h1 := (px_G1, s)) rfl ?_
    refine px_D_icmp rfl (fun hc => ?_) (fun hc => ?_)
    · have hc5 : (px_wr ((s 150 6) - 1)) ≤ (x1) := of_decide_eq_true hc
      rw [if_pos hc5] at h
      refine px_D_st 1 (ip1 := 48) (ls1 := [(0, .inr (.inr 150)), (1, .inl (x1))]) (st1 := [.inl (0)]) (h1 := (px_G1, s)) rfl ?_
      cases h
      exact px_D_iret rfl rfl ⟨rfl, rfl⟩
    · have hc5 : ¬ ((px_wr ((s 150 6) - 1)) ≤ (x1)) := of_decide_eq_false hc
      rw [if_neg hc5] at h
      refine px_D_st 5 (ip1 := 27) (ls1 := [(0, .inr (.inr 150)), (1, .inl (x1))]) (st1 := [.inl (px_wr (16 + x1)), .inr (.inr 151)]) (h1 := (px_G1, s)) rfl ?_
      by_cases hc6 : 0 ≤ (px_wr (16 + x1)) ∧ (px_wr (16 + x1)) < 40
      case neg => rw [if_neg hc6] at h; cases h
      rw [if_pos hc6] at h
      refine px_D_iald (k := 146) (n := 40) rfl rfl hc6 ?_
      refine px_D_ifc rfl (fun hc => ?_) (fun hc => ?_)
      · have hc7 : (s 151 (px_wr (16 + x1)).toNat) = (0) := of_decide_eq_true hc
        rw [if_pos hc7] at h
        refine px_D_ls [(0, .inr (.inr 150)), (1, .inl (x1))] rfl rfl (List.forall_mem_cons.mpr ⟨rfl, List.forall_mem_cons.mpr ⟨rfl, fun _ h => absurd h List.not_mem_nil⟩⟩) ?_
        exact hk30 _ _ _ h
      · have hc7 : ¬ ((s 151 (px_wr (16 + x1)).toNat) = (0)) := of_decide_eq_false hc
        rw [if_neg hc7] at h
        refine px_D_st 3 (ip1 := 16) (ls1 := [(1, .inl (px_wr (x1 + 1))), (0, .inr (.inr 150))]) (st1 := []) (h1 := (px_G1, s)) rfl ?_
        refine px_D_ls [(0, .inr (.inr 150)), (1, .inl (px_wr (x1 + 1)))] rfl rfl (List.forall_mem_cons.mpr ⟨rfl, List.forall_mem_cons.mpr ⟨rfl, fun _ h => absurd h List.not_mem_nil⟩⟩) ?_
        exact ih _ _ _ h
def f_M_isRobbed (s : px_Z) : Option (Int × px_Z) := if (s 150 5) = (0) then (if (s 150 8) = (0) then some (0, s) else (f_M_draw s 1000).bind (fun q3 => if (q3.1) < (q3.2 150 8) then l_M_isRobbed_16 (fun s x1 => if 0 ≤ (px_wr (16 + x1)) ∧ (px_wr (16 + x1)) < 40 then (f_M_notes (px_up s 151 (px_wr (16 + x1)).toNat 2) 2 x1 0 (-1)).bind (fun q9 => some (1, q9)) else none) px_big q3.2 0 else some (0, q3.2))) else some (0, s)
set_option maxHeartbeats 4000000 in
set_option maxRecDepth 100000 in
theorem c_M_isRobbed {sc : List Int} {d : Nat} {s : px_Z} {out : Int × px_Z} (h : f_M_isRobbed s  = some out) : px_D sc (d + 1) 236 0 [(0, .inr (.inr 150))] [] (px_G1, s) (px_Qi out) := by
  unfold f_M_isRobbed at h
  refine px_D_st 2 (ip1 := 2) (ls1 := [(0, .inr (.inr 150))]) (st1 := [.inl (s 150 5)]) (h1 := (px_G1, s)) rfl ?_
  refine px_D_ifc rfl (fun hc => ?_) (fun hc => ?_)
  · have hc1 : ¬ ((s 150 5) = (0)) := of_decide_eq_true hc
    rw [if_neg hc1] at h
    refine px_D_st 1 (ip1 := 13) (ls1 := [(0, .inr (.inr 150))]) (st1 := [.inl (0)]) (h1 := (px_G1, s)) rfl ?_
    cases h
    exact px_D_iret rfl rfl ⟨rfl, rfl⟩
  · have hc1 : (s 150 5) = (0) := Decidable.of_not_not (of_decide_eq_false hc)
    rw [if_pos hc1] at h
    refine px_D_st 2 (ip1 := 5) (ls1 := [(0, .inr (.inr 150))]) (st1 := [.inl (s 150 8)]) (h1 := (px_G1, s)) rfl ?_
    refine px_D_ifc rfl (fun hc => ?_) (fun hc => ?_)
    · have hc2 : (s 150 8) = (0) := of_decide_eq_true hc
      rw [if_pos hc2] at h
      refine px_D_st 1 (ip1 := 13) (ls1 := [(0, .inr (.inr 150))]) (st1 := [.inl (0)]) (h1 := (px_G1, s)) rfl ?_
      cases h
      exact px_D_iret rfl rfl ⟨rfl, rfl⟩
    · have hc2 : ¬ ((s 150 8) = (0)) := of_decide_eq_false hc
      rw [if_neg hc2] at h
      refine px_D_st 2 (ip1 := 8) (ls1 := [(0, .inr (.inr 150))]) (st1 := [.inl (1000), .inr (.inr 150)]) (h1 := (px_G1, s)) rfl ?_
      refine px_D_call (as := [.inr (.inr 150), .inl (1000)]) (rest := []) rfl rfl rfl rfl ?_
      obtain ⟨q3, hq3, h⟩ := Option.bind_eq_some_iff.mp h
      refine px_D_mono (c_M_draw (d := d + 0) hq3) ?_
      rintro _ _ ⟨rfl, rfl⟩
      show px_D sc (d + 1) 236 9 [(0, .inr (.inr 150))] [.inl (q3.1)] (px_G1, q3.2) _
      refine px_D_st 2 (ip1 := 11) (ls1 := [(0, .inr (.inr 150))]) (st1 := [.inl (q3.2 150 8), .inl (q3.1)]) (h1 := (px_G1, q3.2)) rfl ?_
      refine px_D_icmp rfl (fun hc => ?_) (fun hc => ?_)
      · have hc4 : (q3.1) < (q3.2 150 8) := of_decide_eq_true hc
        rw [if_pos hc4] at h
        refine px_D_st 2 (ip1 := 16) (ls1 := [(1, .inl (0)), (0, .inr (.inr 150))]) (st1 := []) (h1 := (px_G1, q3.2)) rfl ?_
        refine px_D_ls [(0, .inr (.inr 150)), (1, .inl (0))] rfl rfl (List.forall_mem_cons.mpr ⟨rfl, List.forall_mem_cons.mpr ⟨rfl, fun _ h => absurd h List.not_mem_nil⟩⟩) ?_
        refine cl_M_isRobbed_16 ?_ px_big _ _ _ h
        · intro s x1 out h
          refine px_D_st 6 (ip1 := 36) (ls1 := [(0, .inr (.inr 150)), (1, .inl (x1))]) (st1 := [.inl (2), .inl (px_wr (16 + x1)), .inr (.inr 151)]) (h1 := (px_G1, s)) rfl ?_
          by_cases hc8 : 0 ≤ (px_wr (16 + x1)) ∧ (px_wr (16 + x1)) < 40
          case neg => rw [if_neg hc8] at h; cases h
          rw [if_pos hc8] at h
          refine px_D_iast (k := 146) (n := 40) rfl rfl hc8 ?_
          refine px_D_st 5 (ip1 := 42) (ls1 := [(0, .inr (.inr 150)), (1, .inl (x1))]) (st1 := [.inl ((-1)), .inl (0), .inl (x1), .inl (2), .inr (.inr 150)]) (h1 := (px_G1, px_up s 151 (px_wr (16 + x1)).toNat 2)) rfl ?_
          refine px_D_call (as := [.inr (.inr 150), .inl (2), .inl (x1), .inl (0), .inl ((-1))]) (rest := []) rfl rfl rfl rfl ?_
          obtain ⟨q9, hq9, h⟩ := Option.bind_eq_some_iff.mp h
          refine px_D_mono (c_M_notes (d := d + 0) hq9) ?_
          rintro _ _ ⟨rfl, rfl⟩
          show px_D sc (d + 1) 236 43 [(0, .inr (.inr 150)), (1, .inl (x1))] [] (px_G1, q9) _
          refine px_D_st 1 (ip1 := 44) (ls1 := [(0, .inr (.inr 150)), (1, .inl (x1))]) (st1 := [.inl (1)]) (h1 := (px_G1, q9)) rfl ?_
          cases h
          exact px_D_iret rfl rfl ⟨rfl, rfl⟩
      · have hc4 : ¬ ((q3.1) < (q3.2 150 8)) := of_decide_eq_false hc
        rw [if_neg hc4] at h
        refine px_D_st 1 (ip1 := 13) (ls1 := [(0, .inr (.inr 150))]) (st1 := [.inl (0)]) (h1 := (px_G1, q3.2)) rfl ?_
        cases h
        exact px_D_iret rfl rfl ⟨rfl, rfl⟩

def f_M_goesBy (s : px_Z) : Option (Int × px_Z) := (f_M_wears s ).bind (fun q1 => (f_M_eats q1 ).bind (fun q2 => (f_M_isRobbed q2 ).bind (fun q3 => if (q3.1) = 0 ∨ (q3.1) = 1 then some ((q3.1, px_up (px_up q3.2 151 5 (f_M_held q3.2 (px_wr ((q3.2 151 5) - 1)) 0 99)) 151 0 (px_wr (((px_up q3.2 151 5 (f_M_held q3.2 (px_wr ((q3.2 151 5) - 1)) 0 99)) 151 0) + 1)))) else none)))
set_option maxHeartbeats 4000000 in
set_option maxRecDepth 100000 in
theorem c_M_goesBy {sc : List Int} {d : Nat} {s : px_Z} {out : Int × px_Z} (h : f_M_goesBy s  = some out) : px_D sc (d + 5) 237 0 [(0, .inr (.inr 150))] [] (px_G1, s) (px_Qi out) := by
  unfold f_M_goesBy at h
  refine px_D_st 1 (ip1 := 1) (ls1 := [(0, .inr (.inr 150))]) (st1 := [.inr (.inr 150)]) (h1 := (px_G1, s)) rfl ?_
  refine px_D_call (as := [.inr (.inr 150)]) (rest := []) rfl rfl rfl rfl ?_
  obtain ⟨q1, hq1, h⟩ := Option.bind_eq_some_iff.mp h
  refine px_D_mono (c_M_wears (d := d + 0) hq1) ?_
  rintro _ _ ⟨rfl, rfl⟩
  show px_D sc (d + 5) 237 2 [(0, .inr (.inr 150))] [] (px_G1, q1) _
  refine px_D_st 1 (ip1 := 3) (ls1 := [(0, .inr (.inr 150))]) (st1 := [.inr (.inr 150)]) (h1 := (px_G1, q1)) rfl ?_
  refine px_D_call (as := [.inr (.inr 150)]) (rest := []) rfl rfl rfl rfl ?_
  obtain ⟨q2, hq2, h⟩ := Option.bind_eq_some_iff.mp h
  refine px_D_mono (c_M_eats (d := d + 0) hq2) ?_
  rintro _ _ ⟨rfl, rfl⟩
  show px_D sc (d + 5) 237 4 [(0, .inr (.inr 150))] [] (px_G1, q2) _
  refine px_D_st 1 (ip1 := 5) (ls1 := [(0, .inr (.inr 150))]) (st1 := [.inr (.inr 150)]) (h1 := (px_G1, q2)) rfl ?_
  refine px_D_call (as := [.inr (.inr 150)]) (rest := []) rfl rfl rfl rfl ?_
  obtain ⟨q3, hq3, h⟩ := Option.bind_eq_some_iff.mp h
  refine px_D_mono (c_M_isRobbed (d := d + 3) hq3) ?_
  rintro _ _ ⟨rfl, rfl⟩
  show px_D sc (d + 5) 237 6 [(0, .inr (.inr 150))] [.inl (q3.1)] (px_G1, q3.2) _
  refine px_D_st 13 (ip1 := 19) (ls1 := [(1, .inl (q3.1)), (0, .inr (.inr 150))]) (st1 := [.inl (99), .inl (0), .inl (px_wr ((q3.2 151 5) - 1)), .inr (.inr 150), .inl (5), .inr (.inr 151)]) (h1 := (px_G1, q3.2)) rfl ?_
  refine px_D_call (as := [.inr (.inr 150), .inl (px_wr ((q3.2 151 5) - 1)), .inl (0), .inl (99)]) (rest := [.inl (5), .inr (.inr 151)]) rfl rfl rfl rfl ?_
  refine px_D_mono (c_M_held (d := d + 4) rfl) ?_
  rintro _ _ ⟨rfl, rfl⟩
  show px_D sc (d + 5) 237 20 [(1, .inl (q3.1)), (0, .inr (.inr 150))] [.inl (f_M_held q3.2 (px_wr ((q3.2 151 5) - 1)) 0 99), .inl (5), .inr (.inr 151)] (px_G1, q3.2) _
  refine px_D_st 12 (ip1 := 32) (ls1 := [(1, .inl (q3.1)), (0, .inr (.inr 150))]) (st1 := [.inl (q3.1)]) (h1 := (px_G1, px_up (px_up q3.2 151 5 (f_M_held q3.2 (px_wr ((q3.2 151 5) - 1)) 0 99)) 151 0 (px_wr (((px_up q3.2 151 5 (f_M_held q3.2 (px_wr ((q3.2 151 5) - 1)) 0 99)) 151 0) + 1)))) rfl ?_
  by_cases hc4 : (q3.1) = 0 ∨ (q3.1) = 1
  case neg => rw [if_neg hc4] at h; cases h
  rw [if_pos hc4] at h
  cases h
  exact px_D_iret rfl (px_bz hc4) ⟨rfl, rfl⟩

def l_M_weeks_23  : Nat → px_Z → Int → Int → Int → Option (Int × px_Z)
  | 0, _, _, _, _ => none
  | n + 1, s, x1, x2, x3 => if (x1) ≤ (x3) then some (x2, s) else (f_M_keepsAhead s ).bind (fun q4 => (f_M_goesBy q4 ).bind (fun q5 => if (q5.1) = (0) then l_M_weeks_23  n q5.2 x1 x2 (px_wr (x3 + 1)) else l_M_weeks_23  n q5.2 x1 (px_wr (x2 + 1)) (px_wr (x3 + 1))))
set_option maxHeartbeats 4000000 in
set_option maxRecDepth 100000 in
theorem cl_M_weeks_23 {sc : List Int} {d : Nat}  : ∀ (n : Nat) (s : px_Z) (x1 : Int) (x2 : Int) (x3 : Int) (out : Int × px_Z), l_M_weeks_23  n s x1 x2 x3 = some out → px_D sc (d + 6) 238 23 [(0, .inr (.inr 150)), (1, .inl (x1)), (2, .inl (x2)), (3, .inl (x3))] [] (px_G1, s) (px_Qi out) := by
  intro n
  induction n with
  | zero => intro s x1 x2 x3 out h; cases h
  | succ n ih =>
    intro s x1 x2 x3 out h
    rw [l_M_weeks_23] at h
    refine px_D_st 2 (ip1 := 25) (ls1 := [(0, .inr (.inr 150)), (1, .inl (x1)), (2, .inl (x2)), (3, .inl (x3))]) (st1 := [.inl (x1), .inl (x3)]) (h1 := (px_G1, s)) rfl ?_
    refine px_D_icmp rfl (fun hc => ?_) (fun hc => ?_)
    · have hc3 : (x1) ≤ (x3) := of_decide_eq_true hc
      rw [if_pos hc3] at h
      refine px_D_st 1 (ip1 := 38) (ls1 := [(0, .inr (.inr 150)), (1, .inl (x1)), (2, .inl (x2)), (3, .inl (x3))]) (st1 := [.inl (x2)]) (h1 := (px_G1, s)) rfl ?_
      cases h
      exact px_D_iret rfl rfl ⟨rfl, rfl⟩
    · have hc3 : ¬ ((x1) ≤ (x3)) := of_decide_eq_false hc
      rw [if_neg hc3] at h
      refine px_D_st 1 (ip1 := 27) (ls1 := [(0, .inr (.inr 150)), (1, .inl (x1)), (2, .inl (x2)), (3, .inl (x3))]) (st1 := [.inr (.inr 150)]) (h1 := (px_G1, s)) rfl ?_
      refine px_D_call (as := [.inr (.inr 150)]) (rest := []) rfl rfl rfl rfl ?_
      obtain ⟨q4, hq4, h⟩ := Option.bind_eq_some_iff.mp h
      refine px_D_mono (c_M_keepsAhead (d := d + 5) hq4) ?_
      rintro _ _ ⟨rfl, rfl⟩
      show px_D sc (d + 6) 238 28 [(0, .inr (.inr 150)), (1, .inl (x1)), (2, .inl (x2)), (3, .inl (x3))] [] (px_G1, q4) _
      refine px_D_st 1 (ip1 := 29) (ls1 := [(0, .inr (.inr 150)), (1, .inl (x1)), (2, .inl (x2)), (3, .inl (x3))]) (st1 := [.inr (.inr 150)]) (h1 := (px_G1, q4)) rfl ?_
      refine px_D_call (as := [.inr (.inr 150)]) (rest := []) rfl rfl rfl rfl ?_
      obtain ⟨q5, hq5, h⟩ := Option.bind_eq_some_iff.mp h
      refine px_D_mono (c_M_goesBy (d := d + 0) hq5) ?_
      rintro _ _ ⟨rfl, rfl⟩
      show px_D sc (d + 6) 238 30 [(0, .inr (.inr 150)), (1, .inl (x1)), (2, .inl (x2)), (3, .inl (x3))] [.inl (q5.1)] (px_G1, q5.2) _
      refine px_D_ifc rfl (fun hc => ?_) (fun hc => ?_)
      · have hc6 : (q5.1) = (0) := of_decide_eq_true hc
        rw [if_pos hc6] at h
        refine px_D_st 2 (ip1 := 23) (ls1 := [(3, .inl (px_wr (x3 + 1))), (0, .inr (.inr 150)), (1, .inl (x1)), (2, .inl (x2))]) (st1 := []) (h1 := (px_G1, q5.2)) rfl ?_
        refine px_D_ls [(0, .inr (.inr 150)), (1, .inl (x1)), (2, .inl (x2)), (3, .inl (px_wr (x3 + 1)))] rfl rfl (List.forall_mem_cons.mpr ⟨rfl, List.forall_mem_cons.mpr ⟨rfl, List.forall_mem_cons.mpr ⟨rfl, List.forall_mem_cons.mpr ⟨rfl, fun _ h => absurd h List.not_mem_nil⟩⟩⟩⟩) ?_
        exact ih _ _ _ _ _ h
      · have hc6 : ¬ ((q5.1) = (0)) := of_decide_eq_false hc
        rw [if_neg hc6] at h
        refine px_D_st 6 (ip1 := 23) (ls1 := [(3, .inl (px_wr (x3 + 1))), (2, .inl (px_wr (x2 + 1))), (0, .inr (.inr 150)), (1, .inl (x1))]) (st1 := []) (h1 := (px_G1, q5.2)) rfl ?_
        refine px_D_ls [(0, .inr (.inr 150)), (1, .inl (x1)), (2, .inl (px_wr (x2 + 1))), (3, .inl (px_wr (x3 + 1)))] rfl rfl (List.forall_mem_cons.mpr ⟨rfl, List.forall_mem_cons.mpr ⟨rfl, List.forall_mem_cons.mpr ⟨rfl, List.forall_mem_cons.mpr ⟨rfl, fun _ h => absurd h List.not_mem_nil⟩⟩⟩⟩) ?_
        exact ih _ _ _ _ _ h
def f_M_weeks (s : px_Z) (x1 : Int) : Option (Int × px_Z) := if (f_M_isIn (px_up s 150 0 0) x1 1 20) = (0) then some (((-1), px_up s 150 0 0)) else (if (px_wr (((px_up s 150 0 0) 151 0) + x1)) ≤ (60) then l_M_weeks_23  px_big (px_up s 150 0 0) x1 0 0 else some (((-1), px_up s 150 0 0)))
set_option maxHeartbeats 4000000 in
set_option maxRecDepth 100000 in
theorem c_M_weeks {sc : List Int} {d : Nat} {s : px_Z} {x1 : Int} {out : Int × px_Z} (h : f_M_weeks s x1 = some out) : px_D sc (d + 6) 238 0 [(0, .inr (.inr 150)), (1, .inl (x1))] [] (px_G1, s) (px_Qi out) := by
  unfold f_M_weeks at h
  refine px_D_st 7 (ip1 := 7) (ls1 := [(0, .inr (.inr 150)), (1, .inl (x1))]) (st1 := [.inl (20), .inl (1), .inl (x1), .inr (.inr 150)]) (h1 := (px_G1, px_up s 150 0 0)) rfl ?_
  refine px_D_call (as := [.inr (.inr 150), .inl (x1), .inl (1), .inl (20)]) (rest := []) rfl rfl rfl rfl ?_
  refine px_D_mono (c_M_isIn (d := d + 5) rfl) ?_
  rintro _ _ ⟨rfl, rfl⟩
  show px_D sc (d + 6) 238 8 [(0, .inr (.inr 150)), (1, .inl (x1))] [.inl (f_M_isIn (px_up s 150 0 0) x1 1 20)] (px_G1, px_up s 150 0 0) _
  refine px_D_ifc rfl (fun hc => ?_) (fun hc => ?_)
  · have hc1 : (f_M_isIn (px_up s 150 0 0) x1 1 20) = (0) := of_decide_eq_true hc
    rw [if_pos hc1] at h
    refine px_D_st 1 (ip1 := 18) (ls1 := [(0, .inr (.inr 150)), (1, .inl (x1))]) (st1 := [.inl ((-1))]) (h1 := (px_G1, px_up s 150 0 0)) rfl ?_
    cases h
    exact px_D_iret rfl rfl ⟨rfl, rfl⟩
  · have hc1 : ¬ ((f_M_isIn (px_up s 150 0 0) x1 1 20) = (0)) := of_decide_eq_false hc
    rw [if_neg hc1] at h
    refine px_D_st 7 (ip1 := 16) (ls1 := [(0, .inr (.inr 150)), (1, .inl (x1))]) (st1 := [.inl (60), .inl (px_wr (((px_up s 150 0 0) 151 0) + x1))]) (h1 := (px_G1, px_up s 150 0 0)) rfl ?_
    refine px_D_icmp rfl (fun hc => ?_) (fun hc => ?_)
    · have hc2 : (px_wr (((px_up s 150 0 0) 151 0) + x1)) ≤ (60) := of_decide_eq_true hc
      rw [if_pos hc2] at h
      refine px_D_st 4 (ip1 := 23) (ls1 := [(3, .inl (0)), (2, .inl (0)), (0, .inr (.inr 150)), (1, .inl (x1))]) (st1 := []) (h1 := (px_G1, px_up s 150 0 0)) rfl ?_
      refine px_D_ls [(0, .inr (.inr 150)), (1, .inl (x1)), (2, .inl (0)), (3, .inl (0))] rfl rfl (List.forall_mem_cons.mpr ⟨rfl, List.forall_mem_cons.mpr ⟨rfl, List.forall_mem_cons.mpr ⟨rfl, List.forall_mem_cons.mpr ⟨rfl, fun _ h => absurd h List.not_mem_nil⟩⟩⟩⟩) ?_
      refine cl_M_weeks_23  px_big _ _ _ _ _ h
    · have hc2 : ¬ ((px_wr (((px_up s 150 0 0) 151 0) + x1)) ≤ (60)) := of_decide_eq_false hc
      rw [if_neg hc2] at h
      refine px_D_st 1 (ip1 := 18) (ls1 := [(0, .inr (.inr 150)), (1, .inl (x1))]) (st1 := [.inl ((-1))]) (h1 := (px_G1, px_up s 150 0 0)) rfl ?_
      cases h
      exact px_D_iret rfl rfl ⟨rfl, rfl⟩

def l_M_goesWeeks_7 (k21 : px_Z → Int → Option (Int × px_Z)) : Nat → px_Z → Int → Int → Int → Option (Int × px_Z)
  | 0, _, _, _, _ => none
  | n + 1, s, x1, x2, x3 => if (x1) ≤ (x3) then k21 s x2 else (if (60) ≤ (s 151 0) then k21 s x2 else (f_M_goesBy s ).bind (fun q3 => l_M_goesWeeks_7 k21 n q3.2 x1 x2 (px_wr (x3 + 1))))
set_option maxHeartbeats 4000000 in
set_option maxRecDepth 100000 in
theorem cl_M_goesWeeks_7 {sc : List Int} {d : Nat} {k21 : px_Z → Int → Option (Int × px_Z)}  (hk21 : ∀ (s : px_Z) (y2 : Int) (out : Int × px_Z), k21 s y2 = some out → px_D sc (d + 6) 239 21 [(0, .inr (.inr 150)), (2, .inl (y2))] [] (px_G1, s) (px_Qi out)) : ∀ (n : Nat) (s : px_Z) (x1 : Int) (x2 : Int) (x3 : Int) (out : Int × px_Z), l_M_goesWeeks_7 k21 n s x1 x2 x3 = some out → px_D sc (d + 6) 239 7 [(0, .inr (.inr 150)), (1, .inl (x1)), (2, .inl (x2)), (3, .inl (x3))] [] (px_G1, s) (px_Qi out) := by
  intro n
  induction n with
  | zero => intro s x1 x2 x3 out h; cases h
  | succ n ih =>
    intro s x1 x2 x3 out h
    rw [l_M_goesWeeks_7] at h
    refine px_D_st 2 (ip1 := 9) (ls1 := [(0, .inr (.inr 150)), (1, .inl (x1)), (2, .inl (x2)), (3, .inl (x3))]) (st1 := [.inl (x1), .inl (x3)]) (h1 := (px_G1, s)) rfl ?_
    refine px_D_icmp rfl (fun hc => ?_) (fun hc => ?_)
    · have hc1 : (x1) ≤ (x3) := of_decide_eq_true hc
      rw [if_pos hc1] at h
      refine px_D_ls [(0, .inr (.inr 150)), (2, .inl (x2))] rfl rfl (List.forall_mem_cons.mpr ⟨rfl, List.forall_mem_cons.mpr ⟨rfl, fun _ h => absurd h List.not_mem_nil⟩⟩) ?_
      exact hk21 _ _ _ h
    · have hc1 : ¬ ((x1) ≤ (x3)) := of_decide_eq_false hc
      rw [if_neg hc1] at h
      refine px_D_st 5 (ip1 := 15) (ls1 := [(0, .inr (.inr 150)), (1, .inl (x1)), (2, .inl (x2)), (3, .inl (x3))]) (st1 := [.inl (60), .inl (s 151 0)]) (h1 := (px_G1, s)) rfl ?_
      refine px_D_icmp rfl (fun hc => ?_) (fun hc => ?_)
      · have hc2 : (60) ≤ (s 151 0) := of_decide_eq_true hc
        rw [if_pos hc2] at h
        refine px_D_ls [(0, .inr (.inr 150)), (2, .inl (x2))] rfl rfl (List.forall_mem_cons.mpr ⟨rfl, List.forall_mem_cons.mpr ⟨rfl, fun _ h => absurd h List.not_mem_nil⟩⟩) ?_
        exact hk21 _ _ _ h
      · have hc2 : ¬ ((60) ≤ (s 151 0)) := of_decide_eq_false hc
        rw [if_neg hc2] at h
        refine px_D_st 1 (ip1 := 17) (ls1 := [(0, .inr (.inr 150)), (1, .inl (x1)), (2, .inl (x2)), (3, .inl (x3))]) (st1 := [.inr (.inr 150)]) (h1 := (px_G1, s)) rfl ?_
        refine px_D_call (as := [.inr (.inr 150)]) (rest := []) rfl rfl rfl rfl ?_
        obtain ⟨q3, hq3, h⟩ := Option.bind_eq_some_iff.mp h
        refine px_D_mono (c_M_goesBy (d := d + 0) hq3) ?_
        rintro _ _ ⟨rfl, rfl⟩
        show px_D sc (d + 6) 239 18 [(0, .inr (.inr 150)), (1, .inl (x1)), (2, .inl (x2)), (3, .inl (x3))] [.inl (q3.1)] (px_G1, q3.2) _
        refine px_D_st 3 (ip1 := 7) (ls1 := [(3, .inl (px_wr (x3 + 1))), (0, .inr (.inr 150)), (1, .inl (x1)), (2, .inl (x2))]) (st1 := []) (h1 := (px_G1, q3.2)) rfl ?_
        refine px_D_ls [(0, .inr (.inr 150)), (1, .inl (x1)), (2, .inl (x2)), (3, .inl (px_wr (x3 + 1)))] rfl rfl (List.forall_mem_cons.mpr ⟨rfl, List.forall_mem_cons.mpr ⟨rfl, List.forall_mem_cons.mpr ⟨rfl, List.forall_mem_cons.mpr ⟨rfl, fun _ h => absurd h List.not_mem_nil⟩⟩⟩⟩) ?_
        exact ih _ _ _ _ _ h
def f_M_goesWeeks (s : px_Z) (x1 : Int) : Option (Int × px_Z) := l_M_goesWeeks_7 (fun s x2 => if (s 151 0) ≤ (x2) then some (0, s) else some (1, s)) px_big s x1 (s 151 0) 0
set_option maxHeartbeats 4000000 in
set_option maxRecDepth 100000 in
theorem c_M_goesWeeks {sc : List Int} {d : Nat} {s : px_Z} {x1 : Int} {out : Int × px_Z} (h : f_M_goesWeeks s x1 = some out) : px_D sc (d + 6) 239 0 [(0, .inr (.inr 150)), (1, .inl (x1))] [] (px_G1, s) (px_Qi out) := by
  unfold f_M_goesWeeks at h
  refine px_D_st 7 (ip1 := 7) (ls1 := [(3, .inl (0)), (2, .inl (s 151 0)), (0, .inr (.inr 150)), (1, .inl (x1))]) (st1 := []) (h1 := (px_G1, s)) rfl ?_
  refine px_D_ls [(0, .inr (.inr 150)), (1, .inl (x1)), (2, .inl (s 151 0)), (3, .inl (0))] rfl rfl (List.forall_mem_cons.mpr ⟨rfl, List.forall_mem_cons.mpr ⟨rfl, List.forall_mem_cons.mpr ⟨rfl, List.forall_mem_cons.mpr ⟨rfl, fun _ h => absurd h List.not_mem_nil⟩⟩⟩⟩) ?_
  refine cl_M_goesWeeks_7 ?_ px_big _ _ _ _ _ h
  · intro s x2 out h
    refine px_D_st 5 (ip1 := 26) (ls1 := [(0, .inr (.inr 150)), (2, .inl (x2))]) (st1 := [.inl (x2), .inl (s 151 0)]) (h1 := (px_G1, s)) rfl ?_
    refine px_D_icmp rfl (fun hc => ?_) (fun hc => ?_)
    · have hc4 : (s 151 0) ≤ (x2) := of_decide_eq_true hc
      rw [if_pos hc4] at h
      refine px_D_st 1 (ip1 := 30) (ls1 := [(0, .inr (.inr 150)), (2, .inl (x2))]) (st1 := [.inl (0)]) (h1 := (px_G1, s)) rfl ?_
      cases h
      exact px_D_iret rfl rfl ⟨rfl, rfl⟩
    · have hc4 : ¬ ((s 151 0) ≤ (x2)) := of_decide_eq_false hc
      rw [if_neg hc4] at h
      refine px_D_st 2 (ip1 := 30) (ls1 := [(0, .inr (.inr 150)), (2, .inl (x2))]) (st1 := [.inl (1)]) (h1 := (px_G1, s)) rfl ?_
      cases h
      exact px_D_iret rfl rfl ⟨rfl, rfl⟩

def f_M_does (s : px_Z) (x1 : Int) : Option (Int × px_Z) := if 0 ≤ (px_wr (x1 + 1)) ∧ (px_wr (x1 + 1)) < 360 then if 0 ≤ (x1) ∧ (x1) < 360 then if (s 171 x1.toNat) = (2) then (f_M_goesWeeks s (s 171 (px_wr (x1 + 1)).toNat)).bind (fun q12 => if (q12.1) = 0 ∨ (q12.1) = 1 then some (q12.1, q12.2) else none) else (if 0 ≤ (x1) ∧ (x1) < 360 then if (s 171 x1.toNat) = (1) then (f_M_cries s (s 171 (px_wr (x1 + 1)).toNat)).bind (fun q11 => some (1, q11)) else (if 0 ≤ (px_wr (x1 + 2)) ∧ (px_wr (x1 + 2)) < 360 then (f_M_canPay s (s 171 (px_wr (x1 + 1)).toNat) (s 171 (px_wr (x1 + 2)).toNat)).bind (fun q7 => if (q7.1) = (0) then some (0, q7.2) else (if 0 ≤ (px_wr (x1 + 2)) ∧ (px_wr (x1 + 2)) < 360 then (f_M_pays q7.2 (s 171 (px_wr (x1 + 1)).toNat) (q7.2 171 (px_wr (x1 + 2)).toNat)).bind (fun q10 => some (1, q10.2)) else none)) else none) else none) else none else none
set_option maxHeartbeats 4000000 in
set_option maxRecDepth 100000 in
theorem c_M_does {sc : List Int} {d : Nat} {s : px_Z} {x1 : Int} {out : Int × px_Z} (h : f_M_does s x1 = some out) : px_D sc (d + 7) 240 0 [(0, .inr (.inr 150)), (1, .inl (x1))] [] (px_G1, s) (px_Qi out) := by
  unfold f_M_does at h
  refine px_D_st 5 (ip1 := 5) (ls1 := [(0, .inr (.inr 150)), (1, .inl (x1))]) (st1 := [.inl (px_wr (x1 + 1)), .inr (.inr 171)]) (h1 := (px_G1, s)) rfl ?_
  by_cases hc1 : 0 ≤ (px_wr (x1 + 1)) ∧ (px_wr (x1 + 1)) < 360
  case neg => rw [if_neg hc1] at h; cases h
  rw [if_pos hc1] at h
  refine px_D_iald (k := 166) (n := 360) rfl rfl hc1 ?_
  refine px_D_st 4 (ip1 := 10) (ls1 := [(2, .inl (s 171 (px_wr (x1 + 1)).toNat)), (0, .inr (.inr 150)), (1, .inl (x1))]) (st1 := [.inl (x1), .inr (.inr 171)]) (h1 := (px_G1, s)) rfl ?_
  by_cases hc2 : 0 ≤ (x1) ∧ (x1) < 360
  case neg => rw [if_neg hc2] at h; cases h
  rw [if_pos hc2] at h
  refine px_D_iald (k := 166) (n := 360) rfl rfl hc2 ?_
  refine px_D_st 1 (ip1 := 12) (ls1 := [(2, .inl (s 171 (px_wr (x1 + 1)).toNat)), (0, .inr (.inr 150)), (1, .inl (x1))]) (st1 := [.inl (2), .inl (s 171 x1.toNat)]) (h1 := (px_G1, s)) rfl ?_
  refine px_D_icmp rfl (fun hc => ?_) (fun hc => ?_)
  · have hc3 : ¬ ((s 171 x1.toNat) = (2)) := of_decide_eq_true hc
    rw [if_neg hc3] at h
    refine px_D_st 3 (ip1 := 20) (ls1 := [(2, .inl (s 171 (px_wr (x1 + 1)).toNat)), (0, .inr (.inr 150)), (1, .inl (x1))]) (st1 := [.inl (x1), .inr (.inr 171)]) (h1 := (px_G1, s)) rfl ?_
    by_cases hc4 : 0 ≤ (x1) ∧ (x1) < 360
    case neg => rw [if_neg hc4] at h; cases h
    rw [if_pos hc4] at h
    refine px_D_iald (k := 166) (n := 360) rfl rfl hc4 ?_
    refine px_D_st 1 (ip1 := 22) (ls1 := [(2, .inl (s 171 (px_wr (x1 + 1)).toNat)), (0, .inr (.inr 150)), (1, .inl (x1))]) (st1 := [.inl (1), .inl (s 171 x1.toNat)]) (h1 := (px_G1, s)) rfl ?_
    refine px_D_icmp rfl (fun hc => ?_) (fun hc => ?_)
    · have hc5 : ¬ ((s 171 x1.toNat) = (1)) := of_decide_eq_true hc
      rw [if_neg hc5] at h
      refine px_D_st 7 (ip1 := 35) (ls1 := [(2, .inl (s 171 (px_wr (x1 + 1)).toNat)), (0, .inr (.inr 150)), (1, .inl (x1))]) (st1 := [.inl (px_wr (x1 + 2)), .inr (.inr 171), .inl (s 171 (px_wr (x1 + 1)).toNat), .inr (.inr 150)]) (h1 := (px_G1, s)) rfl ?_
      by_cases hc6 : 0 ≤ (px_wr (x1 + 2)) ∧ (px_wr (x1 + 2)) < 360
      case neg => rw [if_neg hc6] at h; cases h
      rw [if_pos hc6] at h
      refine px_D_iald (k := 166) (n := 360) rfl rfl hc6 ?_
      refine px_D_call (as := [.inr (.inr 150), .inl (s 171 (px_wr (x1 + 1)).toNat), .inl (s 171 (px_wr (x1 + 2)).toNat)]) (rest := []) rfl rfl rfl rfl ?_
      obtain ⟨q7, hq7, h⟩ := Option.bind_eq_some_iff.mp h
      refine px_D_mono (c_M_canPay (d := d + 0) hq7) ?_
      rintro _ _ ⟨rfl, rfl⟩
      show px_D sc (d + 7) 240 37 [(2, .inl (s 171 (px_wr (x1 + 1)).toNat)), (0, .inr (.inr 150)), (1, .inl (x1))] [.inl (q7.1)] (px_G1, q7.2) _
      refine px_D_ifc rfl (fun hc => ?_) (fun hc => ?_)
      · have hc8 : ¬ ((q7.1) = (0)) := of_decide_eq_true hc
        rw [if_neg hc8] at h
        refine px_D_st 7 (ip1 := 47) (ls1 := [(2, .inl (s 171 (px_wr (x1 + 1)).toNat)), (0, .inr (.inr 150)), (1, .inl (x1))]) (st1 := [.inl (px_wr (x1 + 2)), .inr (.inr 171), .inl (s 171 (px_wr (x1 + 1)).toNat), .inr (.inr 150)]) (h1 := (px_G1, q7.2)) rfl ?_
        by_cases hc9 : 0 ≤ (px_wr (x1 + 2)) ∧ (px_wr (x1 + 2)) < 360
        case neg => rw [if_neg hc9] at h; cases h
        rw [if_pos hc9] at h
        refine px_D_iald (k := 166) (n := 360) rfl rfl hc9 ?_
        refine px_D_call (as := [.inr (.inr 150), .inl (s 171 (px_wr (x1 + 1)).toNat), .inl (q7.2 171 (px_wr (x1 + 2)).toNat)]) (rest := []) rfl rfl rfl rfl ?_
        obtain ⟨q10, hq10, h⟩ := Option.bind_eq_some_iff.mp h
        refine px_D_mono (c_M_pays (d := d + 0) hq10) ?_
        rintro _ _ ⟨rfl, rfl⟩
        show px_D sc (d + 7) 240 49 [(2, .inl (s 171 (px_wr (x1 + 1)).toNat)), (0, .inr (.inr 150)), (1, .inl (x1))] [.inl (q10.1)] (px_G1, q10.2) _
        refine px_D_st 2 (ip1 := 51) (ls1 := [(2, .inl (s 171 (px_wr (x1 + 1)).toNat)), (0, .inr (.inr 150)), (1, .inl (x1))]) (st1 := [.inl (1)]) (h1 := (px_G1, q10.2)) rfl ?_
        cases h
        exact px_D_iret rfl rfl ⟨rfl, rfl⟩
      · have hc8 : (q7.1) = (0) := Decidable.of_not_not (of_decide_eq_false hc)
        rw [if_pos hc8] at h
        refine px_D_st 1 (ip1 := 39) (ls1 := [(2, .inl (s 171 (px_wr (x1 + 1)).toNat)), (0, .inr (.inr 150)), (1, .inl (x1))]) (st1 := [.inl (0)]) (h1 := (px_G1, q7.2)) rfl ?_
        cases h
        exact px_D_iret rfl rfl ⟨rfl, rfl⟩
    · have hc5 : (s 171 x1.toNat) = (1) := Decidable.of_not_not (of_decide_eq_false hc)
      rw [if_pos hc5] at h
      refine px_D_st 2 (ip1 := 25) (ls1 := [(2, .inl (s 171 (px_wr (x1 + 1)).toNat)), (0, .inr (.inr 150)), (1, .inl (x1))]) (st1 := [.inl (s 171 (px_wr (x1 + 1)).toNat), .inr (.inr 150)]) (h1 := (px_G1, s)) rfl ?_
      refine px_D_call (as := [.inr (.inr 150), .inl (s 171 (px_wr (x1 + 1)).toNat)]) (rest := []) rfl rfl rfl rfl ?_
      obtain ⟨q11, hq11, h⟩ := Option.bind_eq_some_iff.mp h
      refine px_D_mono (c_M_cries (d := d + 5) hq11) ?_
      rintro _ _ ⟨rfl, rfl⟩
      show px_D sc (d + 7) 240 26 [(2, .inl (s 171 (px_wr (x1 + 1)).toNat)), (0, .inr (.inr 150)), (1, .inl (x1))] [] (px_G1, q11) _
      refine px_D_st 1 (ip1 := 27) (ls1 := [(2, .inl (s 171 (px_wr (x1 + 1)).toNat)), (0, .inr (.inr 150)), (1, .inl (x1))]) (st1 := [.inl (1)]) (h1 := (px_G1, q11)) rfl ?_
      cases h
      exact px_D_iret rfl rfl ⟨rfl, rfl⟩
  · have hc3 : (s 171 x1.toNat) = (2) := Decidable.of_not_not (of_decide_eq_false hc)
    rw [if_pos hc3] at h
    refine px_D_st 2 (ip1 := 15) (ls1 := [(2, .inl (s 171 (px_wr (x1 + 1)).toNat)), (0, .inr (.inr 150)), (1, .inl (x1))]) (st1 := [.inl (s 171 (px_wr (x1 + 1)).toNat), .inr (.inr 150)]) (h1 := (px_G1, s)) rfl ?_
    refine px_D_call (as := [.inr (.inr 150), .inl (s 171 (px_wr (x1 + 1)).toNat)]) (rest := []) rfl rfl rfl rfl ?_
    obtain ⟨q12, hq12, h⟩ := Option.bind_eq_some_iff.mp h
    refine px_D_mono (c_M_goesWeeks (d := d + 0) hq12) ?_
    rintro _ _ ⟨rfl, rfl⟩
    show px_D sc (d + 7) 240 16 [(2, .inl (s 171 (px_wr (x1 + 1)).toNat)), (0, .inr (.inr 150)), (1, .inl (x1))] [.inl (q12.1)] (px_G1, q12.2) _
    by_cases hc13 : (q12.1) = 0 ∨ (q12.1) = 1
    case neg => rw [if_neg hc13] at h; cases h
    rw [if_pos hc13] at h
    cases h
    exact px_D_iret rfl (px_bz hc13) ⟨rfl, rfl⟩

def l_M_goes_9  : Nat → px_Z → Int → Int → Option (Int × px_Z)
  | 0, _, _, _ => none
  | n + 1, s, x1, x2 => if (s 150 43) ≤ (x2) then some (x1, s) else (f_M_does s (px_wr (3 * x2))).bind (fun q3 => if (q3.1) = (0) then l_M_goes_9  n q3.2 x1 (px_wr (x2 + 1)) else l_M_goes_9  n q3.2 (px_wr (x1 + 1)) (px_wr (x2 + 1)))
set_option maxHeartbeats 4000000 in
set_option maxRecDepth 100000 in
theorem cl_M_goes_9 {sc : List Int} {d : Nat}  : ∀ (n : Nat) (s : px_Z) (x1 : Int) (x2 : Int) (out : Int × px_Z), l_M_goes_9  n s x1 x2 = some out → px_D sc (d + 8) 241 9 [(0, .inr (.inr 150)), (1, .inl (x1)), (2, .inl (x2))] [] (px_G1, s) (px_Qi out) := by
  intro n
  induction n with
  | zero => intro s x1 x2 out h; cases h
  | succ n ih =>
    intro s x1 x2 out h
    rw [l_M_goes_9] at h
    refine px_D_st 3 (ip1 := 12) (ls1 := [(0, .inr (.inr 150)), (1, .inl (x1)), (2, .inl (x2))]) (st1 := [.inl (s 150 43), .inl (x2)]) (h1 := (px_G1, s)) rfl ?_
    refine px_D_icmp rfl (fun hc => ?_) (fun hc => ?_)
    · have hc2 : (s 150 43) ≤ (x2) := of_decide_eq_true hc
      rw [if_pos hc2] at h
      refine px_D_st 1 (ip1 := 26) (ls1 := [(0, .inr (.inr 150)), (1, .inl (x1)), (2, .inl (x2))]) (st1 := [.inl (x1)]) (h1 := (px_G1, s)) rfl ?_
      cases h
      exact px_D_iret rfl rfl ⟨rfl, rfl⟩
    · have hc2 : ¬ ((s 150 43) ≤ (x2)) := of_decide_eq_false hc
      rw [if_neg hc2] at h
      refine px_D_st 4 (ip1 := 17) (ls1 := [(0, .inr (.inr 150)), (1, .inl (x1)), (2, .inl (x2))]) (st1 := [.inl (px_wr (3 * x2)), .inr (.inr 150)]) (h1 := (px_G1, s)) rfl ?_
      refine px_D_call (as := [.inr (.inr 150), .inl (px_wr (3 * x2))]) (rest := []) rfl rfl rfl rfl ?_
      obtain ⟨q3, hq3, h⟩ := Option.bind_eq_some_iff.mp h
      refine px_D_mono (c_M_does (d := d + 0) hq3) ?_
      rintro _ _ ⟨rfl, rfl⟩
      show px_D sc (d + 8) 241 18 [(0, .inr (.inr 150)), (1, .inl (x1)), (2, .inl (x2))] [.inl (q3.1)] (px_G1, q3.2) _
      refine px_D_ifc rfl (fun hc => ?_) (fun hc => ?_)
      · have hc4 : (q3.1) = (0) := of_decide_eq_true hc
        rw [if_pos hc4] at h
        refine px_D_st 2 (ip1 := 9) (ls1 := [(2, .inl (px_wr (x2 + 1))), (0, .inr (.inr 150)), (1, .inl (x1))]) (st1 := []) (h1 := (px_G1, q3.2)) rfl ?_
        refine px_D_ls [(0, .inr (.inr 150)), (1, .inl (x1)), (2, .inl (px_wr (x2 + 1)))] rfl rfl (List.forall_mem_cons.mpr ⟨rfl, List.forall_mem_cons.mpr ⟨rfl, List.forall_mem_cons.mpr ⟨rfl, fun _ h => absurd h List.not_mem_nil⟩⟩⟩) ?_
        exact ih _ _ _ _ h
      · have hc4 : ¬ ((q3.1) = (0)) := of_decide_eq_false hc
        rw [if_neg hc4] at h
        refine px_D_st 6 (ip1 := 9) (ls1 := [(2, .inl (px_wr (x2 + 1))), (1, .inl (px_wr (x1 + 1))), (0, .inr (.inr 150))]) (st1 := []) (h1 := (px_G1, q3.2)) rfl ?_
        refine px_D_ls [(0, .inr (.inr 150)), (1, .inl (px_wr (x1 + 1))), (2, .inl (px_wr (x2 + 1)))] rfl rfl (List.forall_mem_cons.mpr ⟨rfl, List.forall_mem_cons.mpr ⟨rfl, List.forall_mem_cons.mpr ⟨rfl, fun _ h => absurd h List.not_mem_nil⟩⟩⟩) ?_
        exact ih _ _ _ _ h
def f_M_goes (s : px_Z) : Option (Int × px_Z) := (f_M_keepsAhead (px_up s 150 0 0) ).bind (fun q1 => l_M_goes_9  px_big q1 0 0)
set_option maxHeartbeats 4000000 in
set_option maxRecDepth 100000 in
theorem c_M_goes {sc : List Int} {d : Nat} {s : px_Z} {out : Int × px_Z} (h : f_M_goes s  = some out) : px_D sc (d + 8) 241 0 [(0, .inr (.inr 150))] [] (px_G1, s) (px_Qi out) := by
  unfold f_M_goes at h
  refine px_D_st 4 (ip1 := 4) (ls1 := [(0, .inr (.inr 150))]) (st1 := [.inr (.inr 150)]) (h1 := (px_G1, px_up s 150 0 0)) rfl ?_
  refine px_D_call (as := [.inr (.inr 150)]) (rest := []) rfl rfl rfl rfl ?_
  obtain ⟨q1, hq1, h⟩ := Option.bind_eq_some_iff.mp h
  refine px_D_mono (c_M_keepsAhead (d := d + 7) hq1) ?_
  rintro _ _ ⟨rfl, rfl⟩
  show px_D sc (d + 8) 241 5 [(0, .inr (.inr 150))] [] (px_G1, q1) _
  refine px_D_st 4 (ip1 := 9) (ls1 := [(2, .inl (0)), (1, .inl (0)), (0, .inr (.inr 150))]) (st1 := []) (h1 := (px_G1, q1)) rfl ?_
  refine px_D_ls [(0, .inr (.inr 150)), (1, .inl (0)), (2, .inl (0))] rfl rfl (List.forall_mem_cons.mpr ⟨rfl, List.forall_mem_cons.mpr ⟨rfl, List.forall_mem_cons.mpr ⟨rfl, fun _ h => absurd h List.not_mem_nil⟩⟩⟩) ?_
  refine cl_M_goes_9  px_big _ _ _ _ h

def f_M_of (s : px_Z) (x1 : Int) (x2 : Int) : Option (Int × px_Z) := if (f_M_isThing (px_up s 150 0 0) x1) = (0) then some (((-2), px_up s 150 0 0)) else (if (x2) = (0) then (if 0 ≤ (x1) ∧ (x1) < 8 then some (((px_up s 150 0 0) 154 x1.toNat, px_up s 150 0 0)) else none) else (if (x2) = (1) then (if 0 ≤ (px_wr (8 + x1)) ∧ (px_wr (8 + x1)) < 40 then some (((px_up s 150 0 0) 151 (px_wr (8 + x1)).toNat, px_up s 150 0 0)) else none) else (if (x2) = (2) then (if 0 ≤ (px_wr (16 + x1)) ∧ (px_wr (16 + x1)) < 40 then some (((px_up s 150 0 0) 151 (px_wr (16 + x1)).toNat, px_up s 150 0 0)) else none) else (if (x2) = (3) then (if 0 ≤ (px_wr (24 + x1)) ∧ (px_wr (24 + x1)) < 40 then some (((px_up s 150 0 0) 151 (px_wr (24 + x1)).toNat, px_up s 150 0 0)) else none) else (if (x2) = (4) then (if 0 ≤ (px_wr (32 + x1)) ∧ (px_wr (32 + x1)) < 40 then some ((px_wr (((px_up s 150 0 0) 151 (px_wr (32 + x1)).toNat) - 1), px_up s 150 0 0)) else none) else (if (x2) = (5) then (f_M_priceOf (px_up s 150 0 0) x1).bind (fun q13 => some (q13.1, q13.2)) else (if (x2) = (6) then (f_M_mayCome (px_up s 150 0 0) x1).bind (fun q11 => if (q11) = (0) then some (0, px_up s 150 0 0) else some (1, px_up s 150 0 0)) else (if (x2) = (7) then (if 0 ≤ (x1) ∧ (x1) < 16 then some (((px_up s 150 0 0) 167 x1.toNat, px_up s 150 0 0)) else none) else some (((-2), px_up s 150 0 0))))))))))
set_option maxHeartbeats 4000000 in
set_option maxRecDepth 100000 in
theorem c_M_of {sc : List Int} {d : Nat} {s : px_Z} {x1 : Int} {x2 : Int} {out : Int × px_Z} (h : f_M_of s x1 x2 = some out) : px_D sc (d + 6) 242 0 [(0, .inr (.inr 150)), (1, .inl (x1)), (2, .inl (x2))] [] (px_G1, s) (px_Qi out) := by
  unfold f_M_of at h
  refine px_D_st 5 (ip1 := 5) (ls1 := [(0, .inr (.inr 150)), (1, .inl (x1)), (2, .inl (x2))]) (st1 := [.inl (x1), .inr (.inr 150)]) (h1 := (px_G1, px_up s 150 0 0)) rfl ?_
  refine px_D_call (as := [.inr (.inr 150), .inl (x1)]) (rest := []) rfl rfl rfl rfl ?_
  refine px_D_mono (c_M_isThing (d := d + 5) rfl) ?_
  rintro _ _ ⟨rfl, rfl⟩
  show px_D sc (d + 6) 242 6 [(0, .inr (.inr 150)), (1, .inl (x1)), (2, .inl (x2))] [.inl (f_M_isThing (px_up s 150 0 0) x1)] (px_G1, px_up s 150 0 0) _
  refine px_D_ifc rfl (fun hc => ?_) (fun hc => ?_)
  · have hc1 : ¬ ((f_M_isThing (px_up s 150 0 0) x1) = (0)) := of_decide_eq_true hc
    rw [if_neg hc1] at h
    refine px_D_st 1 (ip1 := 10) (ls1 := [(0, .inr (.inr 150)), (1, .inl (x1)), (2, .inl (x2))]) (st1 := [.inl (x2)]) (h1 := (px_G1, px_up s 150 0 0)) rfl ?_
    refine px_D_ifc rfl (fun hc => ?_) (fun hc => ?_)
    · have hc2 : ¬ ((x2) = (0)) := of_decide_eq_true hc
      rw [if_neg hc2] at h
      refine px_D_st 2 (ip1 := 18) (ls1 := [(0, .inr (.inr 150)), (1, .inl (x1)), (2, .inl (x2))]) (st1 := [.inl (1), .inl (x2)]) (h1 := (px_G1, px_up s 150 0 0)) rfl ?_
      refine px_D_icmp rfl (fun hc => ?_) (fun hc => ?_)
      · have hc3 : ¬ ((x2) = (1)) := of_decide_eq_true hc
        rw [if_neg hc3] at h
        refine px_D_st 2 (ip1 := 28) (ls1 := [(0, .inr (.inr 150)), (1, .inl (x1)), (2, .inl (x2))]) (st1 := [.inl (2), .inl (x2)]) (h1 := (px_G1, px_up s 150 0 0)) rfl ?_
        refine px_D_icmp rfl (fun hc => ?_) (fun hc => ?_)
        · have hc4 : ¬ ((x2) = (2)) := of_decide_eq_true hc
          rw [if_neg hc4] at h
          refine px_D_st 2 (ip1 := 38) (ls1 := [(0, .inr (.inr 150)), (1, .inl (x1)), (2, .inl (x2))]) (st1 := [.inl (3), .inl (x2)]) (h1 := (px_G1, px_up s 150 0 0)) rfl ?_
          refine px_D_icmp rfl (fun hc => ?_) (fun hc => ?_)
          · have hc5 : ¬ ((x2) = (3)) := of_decide_eq_true hc
            rw [if_neg hc5] at h
            refine px_D_st 2 (ip1 := 48) (ls1 := [(0, .inr (.inr 150)), (1, .inl (x1)), (2, .inl (x2))]) (st1 := [.inl (4), .inl (x2)]) (h1 := (px_G1, px_up s 150 0 0)) rfl ?_
            refine px_D_icmp rfl (fun hc => ?_) (fun hc => ?_)
            · have hc6 : ¬ ((x2) = (4)) := of_decide_eq_true hc
              rw [if_neg hc6] at h
              refine px_D_st 2 (ip1 := 60) (ls1 := [(0, .inr (.inr 150)), (1, .inl (x1)), (2, .inl (x2))]) (st1 := [.inl (5), .inl (x2)]) (h1 := (px_G1, px_up s 150 0 0)) rfl ?_
              refine px_D_icmp rfl (fun hc => ?_) (fun hc => ?_)
              · have hc7 : ¬ ((x2) = (5)) := of_decide_eq_true hc
                rw [if_neg hc7] at h
                refine px_D_st 2 (ip1 := 67) (ls1 := [(0, .inr (.inr 150)), (1, .inl (x1)), (2, .inl (x2))]) (st1 := [.inl (6), .inl (x2)]) (h1 := (px_G1, px_up s 150 0 0)) rfl ?_
                refine px_D_icmp rfl (fun hc => ?_) (fun hc => ?_)
                · have hc8 : ¬ ((x2) = (6)) := of_decide_eq_true hc
                  rw [if_neg hc8] at h
                  refine px_D_st 2 (ip1 := 78) (ls1 := [(0, .inr (.inr 150)), (1, .inl (x1)), (2, .inl (x2))]) (st1 := [.inl (7), .inl (x2)]) (h1 := (px_G1, px_up s 150 0 0)) rfl ?_
                  refine px_D_icmp rfl (fun hc => ?_) (fun hc => ?_)
                  · have hc9 : ¬ ((x2) = (7)) := of_decide_eq_true hc
                    rw [if_neg hc9] at h
                    refine px_D_st 1 (ip1 := 85) (ls1 := [(0, .inr (.inr 150)), (1, .inl (x1)), (2, .inl (x2))]) (st1 := [.inl ((-2))]) (h1 := (px_G1, px_up s 150 0 0)) rfl ?_
                    cases h
                    exact px_D_iret rfl rfl ⟨rfl, rfl⟩
                  · have hc9 : (x2) = (7) := Decidable.of_not_not (of_decide_eq_false hc)
                    rw [if_pos hc9] at h
                    refine px_D_st 3 (ip1 := 82) (ls1 := [(0, .inr (.inr 150)), (1, .inl (x1)), (2, .inl (x2))]) (st1 := [.inl (x1), .inr (.inr 167)]) (h1 := (px_G1, px_up s 150 0 0)) rfl ?_
                    by_cases hc10 : 0 ≤ (x1) ∧ (x1) < 16
                    case neg => rw [if_neg hc10] at h; cases h
                    rw [if_pos hc10] at h
                    refine px_D_iald (k := 162) (n := 16) rfl rfl hc10 ?_
                    refine px_D_st 1 (ip1 := 85) (ls1 := [(0, .inr (.inr 150)), (1, .inl (x1)), (2, .inl (x2))]) (st1 := [.inl ((px_up s 150 0 0) 167 x1.toNat)]) (h1 := (px_G1, px_up s 150 0 0)) rfl ?_
                    cases h
                    exact px_D_iret rfl rfl ⟨rfl, rfl⟩
                · have hc8 : (x2) = (6) := Decidable.of_not_not (of_decide_eq_false hc)
                  rw [if_pos hc8] at h
                  refine px_D_st 2 (ip1 := 70) (ls1 := [(0, .inr (.inr 150)), (1, .inl (x1)), (2, .inl (x2))]) (st1 := [.inl (x1), .inr (.inr 150)]) (h1 := (px_G1, px_up s 150 0 0)) rfl ?_
                  refine px_D_call (as := [.inr (.inr 150), .inl (x1)]) (rest := []) rfl rfl rfl rfl ?_
                  obtain ⟨q11, hq11, h⟩ := Option.bind_eq_some_iff.mp h
                  refine px_D_mono (c_M_mayCome (d := d + 3) hq11) ?_
                  rintro _ _ ⟨rfl, rfl⟩
                  show px_D sc (d + 6) 242 71 [(0, .inr (.inr 150)), (1, .inl (x1)), (2, .inl (x2))] [.inl (q11)] (px_G1, px_up s 150 0 0) _
                  refine px_D_ifc rfl (fun hc => ?_) (fun hc => ?_)
                  · have hc12 : (q11) = (0) := of_decide_eq_true hc
                    rw [if_pos hc12] at h
                    refine px_D_st 2 (ip1 := 85) (ls1 := [(0, .inr (.inr 150)), (1, .inl (x1)), (2, .inl (x2))]) (st1 := [.inl (0)]) (h1 := (px_G1, px_up s 150 0 0)) rfl ?_
                    cases h
                    exact px_D_iret rfl rfl ⟨rfl, rfl⟩
                  · have hc12 : ¬ ((q11) = (0)) := of_decide_eq_false hc
                    rw [if_neg hc12] at h
                    refine px_D_st 2 (ip1 := 85) (ls1 := [(0, .inr (.inr 150)), (1, .inl (x1)), (2, .inl (x2))]) (st1 := [.inl (1)]) (h1 := (px_G1, px_up s 150 0 0)) rfl ?_
                    cases h
                    exact px_D_iret rfl rfl ⟨rfl, rfl⟩
              · have hc7 : (x2) = (5) := Decidable.of_not_not (of_decide_eq_false hc)
                rw [if_pos hc7] at h
                refine px_D_st 2 (ip1 := 63) (ls1 := [(0, .inr (.inr 150)), (1, .inl (x1)), (2, .inl (x2))]) (st1 := [.inl (x1), .inr (.inr 150)]) (h1 := (px_G1, px_up s 150 0 0)) rfl ?_
                refine px_D_call (as := [.inr (.inr 150), .inl (x1)]) (rest := []) rfl rfl rfl rfl ?_
                obtain ⟨q13, hq13, h⟩ := Option.bind_eq_some_iff.mp h
                refine px_D_mono (c_M_priceOf (d := d + 0) hq13) ?_
                rintro _ _ ⟨rfl, rfl⟩
                show px_D sc (d + 6) 242 64 [(0, .inr (.inr 150)), (1, .inl (x1)), (2, .inl (x2))] [.inl (q13.1)] (px_G1, q13.2) _
                cases h
                exact px_D_iret rfl rfl ⟨rfl, rfl⟩
            · have hc6 : (x2) = (4) := Decidable.of_not_not (of_decide_eq_false hc)
              rw [if_pos hc6] at h
              refine px_D_st 5 (ip1 := 54) (ls1 := [(0, .inr (.inr 150)), (1, .inl (x1)), (2, .inl (x2))]) (st1 := [.inl (px_wr (32 + x1)), .inr (.inr 151)]) (h1 := (px_G1, px_up s 150 0 0)) rfl ?_
              by_cases hc14 : 0 ≤ (px_wr (32 + x1)) ∧ (px_wr (32 + x1)) < 40
              case neg => rw [if_neg hc14] at h; cases h
              rw [if_pos hc14] at h
              refine px_D_iald (k := 146) (n := 40) rfl rfl hc14 ?_
              refine px_D_st 2 (ip1 := 57) (ls1 := [(0, .inr (.inr 150)), (1, .inl (x1)), (2, .inl (x2))]) (st1 := [.inl (px_wr (((px_up s 150 0 0) 151 (px_wr (32 + x1)).toNat) - 1))]) (h1 := (px_G1, px_up s 150 0 0)) rfl ?_
              cases h
              exact px_D_iret rfl rfl ⟨rfl, rfl⟩
          · have hc5 : (x2) = (3) := Decidable.of_not_not (of_decide_eq_false hc)
            rw [if_pos hc5] at h
            refine px_D_st 5 (ip1 := 44) (ls1 := [(0, .inr (.inr 150)), (1, .inl (x1)), (2, .inl (x2))]) (st1 := [.inl (px_wr (24 + x1)), .inr (.inr 151)]) (h1 := (px_G1, px_up s 150 0 0)) rfl ?_
            by_cases hc15 : 0 ≤ (px_wr (24 + x1)) ∧ (px_wr (24 + x1)) < 40
            case neg => rw [if_neg hc15] at h; cases h
            rw [if_pos hc15] at h
            refine px_D_iald (k := 146) (n := 40) rfl rfl hc15 ?_
            cases h
            exact px_D_iret rfl rfl ⟨rfl, rfl⟩
        · have hc4 : (x2) = (2) := Decidable.of_not_not (of_decide_eq_false hc)
          rw [if_pos hc4] at h
          refine px_D_st 5 (ip1 := 34) (ls1 := [(0, .inr (.inr 150)), (1, .inl (x1)), (2, .inl (x2))]) (st1 := [.inl (px_wr (16 + x1)), .inr (.inr 151)]) (h1 := (px_G1, px_up s 150 0 0)) rfl ?_
          by_cases hc16 : 0 ≤ (px_wr (16 + x1)) ∧ (px_wr (16 + x1)) < 40
          case neg => rw [if_neg hc16] at h; cases h
          rw [if_pos hc16] at h
          refine px_D_iald (k := 146) (n := 40) rfl rfl hc16 ?_
          cases h
          exact px_D_iret rfl rfl ⟨rfl, rfl⟩
      · have hc3 : (x2) = (1) := Decidable.of_not_not (of_decide_eq_false hc)
        rw [if_pos hc3] at h
        refine px_D_st 5 (ip1 := 24) (ls1 := [(0, .inr (.inr 150)), (1, .inl (x1)), (2, .inl (x2))]) (st1 := [.inl (px_wr (8 + x1)), .inr (.inr 151)]) (h1 := (px_G1, px_up s 150 0 0)) rfl ?_
        by_cases hc17 : 0 ≤ (px_wr (8 + x1)) ∧ (px_wr (8 + x1)) < 40
        case neg => rw [if_neg hc17] at h; cases h
        rw [if_pos hc17] at h
        refine px_D_iald (k := 146) (n := 40) rfl rfl hc17 ?_
        cases h
        exact px_D_iret rfl rfl ⟨rfl, rfl⟩
    · have hc2 : (x2) = (0) := Decidable.of_not_not (of_decide_eq_false hc)
      rw [if_pos hc2] at h
      refine px_D_st 3 (ip1 := 14) (ls1 := [(0, .inr (.inr 150)), (1, .inl (x1)), (2, .inl (x2))]) (st1 := [.inl (x1), .inr (.inr 154)]) (h1 := (px_G1, px_up s 150 0 0)) rfl ?_
      by_cases hc18 : 0 ≤ (x1) ∧ (x1) < 8
      case neg => rw [if_neg hc18] at h; cases h
      rw [if_pos hc18] at h
      refine px_D_iald (k := 149) (n := 8) rfl rfl hc18 ?_
      cases h
      exact px_D_iret rfl rfl ⟨rfl, rfl⟩
  · have hc1 : (f_M_isThing (px_up s 150 0 0) x1) = (0) := Decidable.of_not_not (of_decide_eq_false hc)
    rw [if_pos hc1] at h
    refine px_D_st 1 (ip1 := 8) (ls1 := [(0, .inr (.inr 150)), (1, .inl (x1)), (2, .inl (x2))]) (st1 := [.inl ((-2))]) (h1 := (px_G1, px_up s 150 0 0)) rfl ?_
    cases h
    exact px_D_iret rfl rfl ⟨rfl, rfl⟩

def f_M_book (s : px_Z) (x1 : Int) (x2 : Int) : Option (Int × px_Z) := if (f_M_isIn (px_up s 150 0 0) x1 0 (px_wr (((px_up s 150 0 0) 151 2) - 1))) = (0) then some (((-2), px_up s 150 0 0)) else (if (f_M_isIn (px_up s 150 0 0) x2 0 4) = (0) then some (((-2), px_up s 150 0 0)) else (if 0 ≤ (px_wr ((px_wr (5 * x1)) + x2)) ∧ (px_wr ((px_wr (5 * x1)) + x2)) < 600 then some (((px_up s 150 0 0) 155 (px_wr ((px_wr (5 * x1)) + x2)).toNat, px_up s 150 0 0)) else none))
set_option maxHeartbeats 4000000 in
set_option maxRecDepth 100000 in
theorem c_M_book {sc : List Int} {d : Nat} {s : px_Z} {x1 : Int} {x2 : Int} {out : Int × px_Z} (h : f_M_book s x1 x2 = some out) : px_D sc (d + 1) 243 0 [(0, .inr (.inr 150)), (1, .inl (x1)), (2, .inl (x2))] [] (px_G1, s) (px_Qi out) := by
  unfold f_M_book at h
  refine px_D_st 12 (ip1 := 12) (ls1 := [(0, .inr (.inr 150)), (1, .inl (x1)), (2, .inl (x2))]) (st1 := [.inl (px_wr (((px_up s 150 0 0) 151 2) - 1)), .inl (0), .inl (x1), .inr (.inr 150)]) (h1 := (px_G1, px_up s 150 0 0)) rfl ?_
  refine px_D_call (as := [.inr (.inr 150), .inl (x1), .inl (0), .inl (px_wr (((px_up s 150 0 0) 151 2) - 1))]) (rest := []) rfl rfl rfl rfl ?_
  refine px_D_mono (c_M_isIn (d := d + 0) rfl) ?_
  rintro _ _ ⟨rfl, rfl⟩
  show px_D sc (d + 1) 243 13 [(0, .inr (.inr 150)), (1, .inl (x1)), (2, .inl (x2))] [.inl (f_M_isIn (px_up s 150 0 0) x1 0 (px_wr (((px_up s 150 0 0) 151 2) - 1)))] (px_G1, px_up s 150 0 0) _
  refine px_D_ifc rfl (fun hc => ?_) (fun hc => ?_)
  · have hc1 : (f_M_isIn (px_up s 150 0 0) x1 0 (px_wr (((px_up s 150 0 0) 151 2) - 1))) = (0) := of_decide_eq_true hc
    rw [if_pos hc1] at h
    refine px_D_st 1 (ip1 := 30) (ls1 := [(0, .inr (.inr 150)), (1, .inl (x1)), (2, .inl (x2))]) (st1 := [.inl ((-2))]) (h1 := (px_G1, px_up s 150 0 0)) rfl ?_
    cases h
    exact px_D_iret rfl rfl ⟨rfl, rfl⟩
  · have hc1 : ¬ ((f_M_isIn (px_up s 150 0 0) x1 0 (px_wr (((px_up s 150 0 0) 151 2) - 1))) = (0)) := of_decide_eq_false hc
    rw [if_neg hc1] at h
    refine px_D_st 4 (ip1 := 18) (ls1 := [(0, .inr (.inr 150)), (1, .inl (x1)), (2, .inl (x2))]) (st1 := [.inl (4), .inl (0), .inl (x2), .inr (.inr 150)]) (h1 := (px_G1, px_up s 150 0 0)) rfl ?_
    refine px_D_call (as := [.inr (.inr 150), .inl (x2), .inl (0), .inl (4)]) (rest := []) rfl rfl rfl rfl ?_
    refine px_D_mono (c_M_isIn (d := d + 0) rfl) ?_
    rintro _ _ ⟨rfl, rfl⟩
    show px_D sc (d + 1) 243 19 [(0, .inr (.inr 150)), (1, .inl (x1)), (2, .inl (x2))] [.inl (f_M_isIn (px_up s 150 0 0) x2 0 4)] (px_G1, px_up s 150 0 0) _
    refine px_D_ifc rfl (fun hc => ?_) (fun hc => ?_)
    · have hc2 : (f_M_isIn (px_up s 150 0 0) x2 0 4) = (0) := of_decide_eq_true hc
      rw [if_pos hc2] at h
      refine px_D_st 1 (ip1 := 30) (ls1 := [(0, .inr (.inr 150)), (1, .inl (x1)), (2, .inl (x2))]) (st1 := [.inl ((-2))]) (h1 := (px_G1, px_up s 150 0 0)) rfl ?_
      cases h
      exact px_D_iret rfl rfl ⟨rfl, rfl⟩
    · have hc2 : ¬ ((f_M_isIn (px_up s 150 0 0) x2 0 4) = (0)) := of_decide_eq_false hc
      rw [if_neg hc2] at h
      refine px_D_st 7 (ip1 := 27) (ls1 := [(0, .inr (.inr 150)), (1, .inl (x1)), (2, .inl (x2))]) (st1 := [.inl (px_wr ((px_wr (5 * x1)) + x2)), .inr (.inr 155)]) (h1 := (px_G1, px_up s 150 0 0)) rfl ?_
      by_cases hc3 : 0 ≤ (px_wr ((px_wr (5 * x1)) + x2)) ∧ (px_wr ((px_wr (5 * x1)) + x2)) < 600
      case neg => rw [if_neg hc3] at h; cases h
      rw [if_pos hc3] at h
      refine px_D_iald (k := 150) (n := 600) rfl rfl hc3 ?_
      refine px_D_st 1 (ip1 := 30) (ls1 := [(0, .inr (.inr 150)), (1, .inl (x1)), (2, .inl (x2))]) (st1 := [.inl ((px_up s 150 0 0) 155 (px_wr ((px_wr (5 * x1)) + x2)).toNat)]) (h1 := (px_G1, px_up s 150 0 0)) rfl ?_
      cases h
      exact px_D_iret rfl rfl ⟨rfl, rfl⟩

def f_M_leastAt (s : px_Z) (x1 : Int) (x2 : Int) (x3 : Int) : Int := px_wr ((px_wr (9 * (px_wr ((px_wr (256 * x1)) + x2)))) + x3)
set_option maxHeartbeats 4000000 in
set_option maxRecDepth 100000 in
theorem c_M_leastAt {sc : List Int} {d : Nat} {s : px_Z} {x1 : Int} {x2 : Int} {x3 : Int} {out : Int} (h : f_M_leastAt s x1 x2 x3 = out) : px_D sc (d + 0) 244 0 [(0, .inr (.inr 150)), (1, .inl (x1)), (2, .inl (x2)), (3, .inl (x3))] [] (px_G1, s) (px_Qp s out) := by
  unfold f_M_leastAt at h
  refine px_D_st 9 (ip1 := 9) (ls1 := [(0, .inr (.inr 150)), (1, .inl (x1)), (2, .inl (x2)), (3, .inl (x3))]) (st1 := [.inl (px_wr ((px_wr (9 * (px_wr ((px_wr (256 * x1)) + x2)))) + x3))]) (h1 := (px_G1, s)) rfl ?_
  subst h
  exact px_D_iret rfl rfl ⟨rfl, rfl⟩

def f_M_priceThen (s : px_Z) (x1 : Int) (x2 : Int) (x3 : Int) (x4 : Int) : Option (Int × px_Z) := (f_M_asks s x1).bind (fun q1 => (f_M_onesOf (px_up q1 174 3 x2) x3).bind (fun q2 => if (x4) = (0) then (f_M_priceAsked (px_up (px_up (px_up q1 174 3 x2) 174 4 q2) 174 6 0) x1).bind (fun q6 => some (q6.1, q6.2)) else (if 0 ≤ (px_wr (x4 - 1)) ∧ (px_wr (x4 - 1)) < 8 then (f_M_priceAsked (px_up (px_up (px_up q1 174 3 x2) 174 4 q2) 174 6 ((px_up (px_up q1 174 3 x2) 174 4 q2) 154 (px_wr (x4 - 1)).toNat)) x1).bind (fun q5 => some (q5.1, q5.2)) else none)))
set_option maxHeartbeats 4000000 in
set_option maxRecDepth 100000 in
theorem c_M_priceThen {sc : List Int} {d : Nat} {s : px_Z} {x1 : Int} {x2 : Int} {x3 : Int} {x4 : Int} {out : Int × px_Z} (h : f_M_priceThen s x1 x2 x3 x4 = some out) : px_D sc (d + 5) 245 0 [(0, .inr (.inr 150)), (1, .inl (x1)), (2, .inl (x2)), (3, .inl (x3)), (4, .inl (x4))] [] (px_G1, s) (px_Qi out) := by
  unfold f_M_priceThen at h
  refine px_D_st 2 (ip1 := 2) (ls1 := [(0, .inr (.inr 150)), (1, .inl (x1)), (2, .inl (x2)), (3, .inl (x3)), (4, .inl (x4))]) (st1 := [.inl (x1), .inr (.inr 150)]) (h1 := (px_G1, s)) rfl ?_
  refine px_D_call (as := [.inr (.inr 150), .inl (x1)]) (rest := []) rfl rfl rfl rfl ?_
  obtain ⟨q1, hq1, h⟩ := Option.bind_eq_some_iff.mp h
  refine px_D_mono (c_M_asks (d := d + 1) hq1) ?_
  rintro _ _ ⟨rfl, rfl⟩
  show px_D sc (d + 5) 245 3 [(0, .inr (.inr 150)), (1, .inl (x1)), (2, .inl (x2)), (3, .inl (x3)), (4, .inl (x4))] [] (px_G1, q1) _
  refine px_D_st 10 (ip1 := 13) (ls1 := [(0, .inr (.inr 150)), (1, .inl (x1)), (2, .inl (x2)), (3, .inl (x3)), (4, .inl (x4))]) (st1 := [.inl (x3), .inr (.inr 150), .inl (4), .inr (.inr 174)]) (h1 := (px_G1, px_up q1 174 3 x2)) rfl ?_
  refine px_D_call (as := [.inr (.inr 150), .inl (x3)]) (rest := [.inl (4), .inr (.inr 174)]) rfl rfl rfl rfl ?_
  obtain ⟨q2, hq2, h⟩ := Option.bind_eq_some_iff.mp h
  refine px_D_mono (c_M_onesOf (d := d + 4) hq2) ?_
  rintro _ _ ⟨rfl, rfl⟩
  show px_D sc (d + 5) 245 14 [(0, .inr (.inr 150)), (1, .inl (x1)), (2, .inl (x2)), (3, .inl (x3)), (4, .inl (x4))] [.inl (q2), .inl (4), .inr (.inr 174)] (px_G1, px_up q1 174 3 x2) _
  refine px_D_st 5 (ip1 := 19) (ls1 := [(0, .inr (.inr 150)), (1, .inl (x1)), (2, .inl (x2)), (3, .inl (x3)), (4, .inl (x4))]) (st1 := [.inl (x4), .inl (6), .inr (.inr 174)]) (h1 := (px_G1, px_up (px_up q1 174 3 x2) 174 4 q2)) rfl ?_
  refine px_D_ifc rfl (fun hc => ?_) (fun hc => ?_)
  · have hc3 : ¬ ((x4) = (0)) := of_decide_eq_true hc
    rw [if_neg hc3] at h
    refine px_D_st 5 (ip1 := 27) (ls1 := [(0, .inr (.inr 150)), (1, .inl (x1)), (2, .inl (x2)), (3, .inl (x3)), (4, .inl (x4))]) (st1 := [.inl (px_wr (x4 - 1)), .inr (.inr 154), .inl (6), .inr (.inr 174)]) (h1 := (px_G1, px_up (px_up q1 174 3 x2) 174 4 q2)) rfl ?_
    by_cases hc4 : 0 ≤ (px_wr (x4 - 1)) ∧ (px_wr (x4 - 1)) < 8
    case neg => rw [if_neg hc4] at h; cases h
    rw [if_pos hc4] at h
    refine px_D_iald (k := 149) (n := 8) rfl rfl hc4 ?_
    refine px_D_st 3 (ip1 := 31) (ls1 := [(0, .inr (.inr 150)), (1, .inl (x1)), (2, .inl (x2)), (3, .inl (x3)), (4, .inl (x4))]) (st1 := [.inl (x1), .inr (.inr 150)]) (h1 := (px_G1, px_up (px_up (px_up q1 174 3 x2) 174 4 q2) 174 6 ((px_up (px_up q1 174 3 x2) 174 4 q2) 154 (px_wr (x4 - 1)).toNat))) rfl ?_
    refine px_D_call (as := [.inr (.inr 150), .inl (x1)]) (rest := []) rfl rfl rfl rfl ?_
    obtain ⟨q5, hq5, h⟩ := Option.bind_eq_some_iff.mp h
    refine px_D_mono (c_M_priceAsked (d := d + 0) hq5) ?_
    rintro _ _ ⟨rfl, rfl⟩
    show px_D sc (d + 5) 245 32 [(0, .inr (.inr 150)), (1, .inl (x1)), (2, .inl (x2)), (3, .inl (x3)), (4, .inl (x4))] [.inl (q5.1)] (px_G1, q5.2) _
    cases h
    exact px_D_iret rfl rfl ⟨rfl, rfl⟩
  · have hc3 : (x4) = (0) := Decidable.of_not_not (of_decide_eq_false hc)
    rw [if_pos hc3] at h
    refine px_D_st 5 (ip1 := 31) (ls1 := [(0, .inr (.inr 150)), (1, .inl (x1)), (2, .inl (x2)), (3, .inl (x3)), (4, .inl (x4))]) (st1 := [.inl (x1), .inr (.inr 150)]) (h1 := (px_G1, px_up (px_up (px_up q1 174 3 x2) 174 4 q2) 174 6 0)) rfl ?_
    refine px_D_call (as := [.inr (.inr 150), .inl (x1)]) (rest := []) rfl rfl rfl rfl ?_
    obtain ⟨q6, hq6, h⟩ := Option.bind_eq_some_iff.mp h
    refine px_D_mono (c_M_priceAsked (d := d + 0) hq6) ?_
    rintro _ _ ⟨rfl, rfl⟩
    show px_D sc (d + 5) 245 32 [(0, .inr (.inr 150)), (1, .inl (x1)), (2, .inl (x2)), (3, .inl (x3)), (4, .inl (x4))] [.inl (q6.1)] (px_G1, q6.2) _
    cases h
    exact px_D_iret rfl rfl ⟨rfl, rfl⟩

def j_M_canComeIn_j10 (s : px_Z) (x1 : Int) : Option (Int) := (f_M_isOpen s (px_wr ((s 151 0) + x1))).bind (fun q4 => if (q4) = (0) then some 0 else some 1)
set_option maxHeartbeats 4000000 in
set_option maxRecDepth 100000 in
theorem cj_M_canComeIn_j10 {sc : List Int} {d : Nat} {s : px_Z} {x1 : Int} {out : Int} (h : j_M_canComeIn_j10 s x1 = some out) : px_D sc (d + 3) 246 10 [(0, .inr (.inr 150)), (1, .inl (x1))] [] (px_G1, s) (px_Qp s out) := by
  unfold j_M_canComeIn_j10 at h
  refine px_D_st 7 (ip1 := 17) (ls1 := [(0, .inr (.inr 150)), (1, .inl (x1))]) (st1 := [.inl (px_wr ((s 151 0) + x1)), .inr (.inr 150)]) (h1 := (px_G1, s)) rfl ?_
  refine px_D_call (as := [.inr (.inr 150), .inl (px_wr ((s 151 0) + x1))]) (rest := []) rfl rfl rfl rfl ?_
  obtain ⟨q4, hq4, h⟩ := Option.bind_eq_some_iff.mp h
  refine px_D_mono (c_M_isOpen (d := d + 0) hq4) ?_
  rintro _ _ ⟨rfl, rfl⟩
  show px_D sc (d + 3) 246 18 [(0, .inr (.inr 150)), (1, .inl (x1))] [.inl (q4)] (px_G1, s) _
  refine px_D_ifc rfl (fun hc => ?_) (fun hc => ?_)
  · have hc5 : (q4) = (0) := of_decide_eq_true hc
    rw [if_pos hc5] at h
    refine px_D_st 1 (ip1 := 22) (ls1 := [(0, .inr (.inr 150)), (1, .inl (x1))]) (st1 := [.inl (0)]) (h1 := (px_G1, s)) rfl ?_
    cases h
    exact px_D_iret rfl rfl ⟨rfl, rfl⟩
  · have hc5 : ¬ ((q4) = (0)) := of_decide_eq_false hc
    rw [if_neg hc5] at h
    refine px_D_st 2 (ip1 := 22) (ls1 := [(0, .inr (.inr 150)), (1, .inl (x1))]) (st1 := [.inl (1)]) (h1 := (px_G1, s)) rfl ?_
    cases h
    exact px_D_iret rfl rfl ⟨rfl, rfl⟩
def f_M_canComeIn (s : px_Z) (x1 : Int) (x2 : Int) (x3 : Int) : Option (Int) := (f_M_canCome s x2 x3).bind (fun q1 => if (q1) = (0) then some 0 else (if (0) < (x1) then j_M_canComeIn_j10 s x1 else (if (f_M_hasCome s ) = (0) then j_M_canComeIn_j10 s x1 else some 0)))
set_option maxHeartbeats 4000000 in
set_option maxRecDepth 100000 in
theorem c_M_canComeIn {sc : List Int} {d : Nat} {s : px_Z} {x1 : Int} {x2 : Int} {x3 : Int} {out : Int} (h : f_M_canComeIn s x1 x2 x3 = some out) : px_D sc (d + 3) 246 0 [(0, .inr (.inr 150)), (1, .inl (x1)), (2, .inl (x2)), (3, .inl (x3))] [] (px_G1, s) (px_Qp s out) := by
  unfold f_M_canComeIn at h
  refine px_D_st 3 (ip1 := 3) (ls1 := [(0, .inr (.inr 150)), (1, .inl (x1)), (2, .inl (x2)), (3, .inl (x3))]) (st1 := [.inl (x3), .inl (x2), .inr (.inr 150)]) (h1 := (px_G1, s)) rfl ?_
  refine px_D_call (as := [.inr (.inr 150), .inl (x2), .inl (x3)]) (rest := []) rfl rfl rfl rfl ?_
  obtain ⟨q1, hq1, h⟩ := Option.bind_eq_some_iff.mp h
  refine px_D_mono (c_M_canCome (d := d + 1) hq1) ?_
  rintro _ _ ⟨rfl, rfl⟩
  show px_D sc (d + 3) 246 4 [(0, .inr (.inr 150)), (1, .inl (x1)), (2, .inl (x2)), (3, .inl (x3))] [.inl (q1)] (px_G1, s) _
  refine px_D_ifc rfl (fun hc => ?_) (fun hc => ?_)
  · have hc2 : (q1) = (0) := of_decide_eq_true hc
    rw [if_pos hc2] at h
    refine px_D_st 1 (ip1 := 22) (ls1 := [(0, .inr (.inr 150)), (1, .inl (x1)), (2, .inl (x2)), (3, .inl (x3))]) (st1 := [.inl (0)]) (h1 := (px_G1, s)) rfl ?_
    cases h
    exact px_D_iret rfl rfl ⟨rfl, rfl⟩
  · have hc2 : ¬ ((q1) = (0)) := of_decide_eq_false hc
    rw [if_neg hc2] at h
    refine px_D_st 1 (ip1 := 6) (ls1 := [(0, .inr (.inr 150)), (1, .inl (x1)), (2, .inl (x2)), (3, .inl (x3))]) (st1 := [.inl (x1)]) (h1 := (px_G1, s)) rfl ?_
    refine px_D_ifc rfl (fun hc => ?_) (fun hc => ?_)
    · have hc3 : (0) < (x1) := of_decide_eq_true hc
      rw [if_pos hc3] at h
      refine px_D_ls [(0, .inr (.inr 150)), (1, .inl (x1))] rfl rfl (List.forall_mem_cons.mpr ⟨rfl, List.forall_mem_cons.mpr ⟨rfl, fun _ h => absurd h List.not_mem_nil⟩⟩) ?_
      exact cj_M_canComeIn_j10 h
    · have hc3 : ¬ ((0) < (x1)) := of_decide_eq_false hc
      rw [if_neg hc3] at h
      refine px_D_st 1 (ip1 := 8) (ls1 := [(0, .inr (.inr 150)), (1, .inl (x1)), (2, .inl (x2)), (3, .inl (x3))]) (st1 := [.inr (.inr 150)]) (h1 := (px_G1, s)) rfl ?_
      refine px_D_call (as := [.inr (.inr 150)]) (rest := []) rfl rfl rfl rfl ?_
      refine px_D_mono (c_M_hasCome (d := d + 2) rfl) ?_
      rintro _ _ ⟨rfl, rfl⟩
      show px_D sc (d + 3) 246 9 [(0, .inr (.inr 150)), (1, .inl (x1)), (2, .inl (x2)), (3, .inl (x3))] [.inl (f_M_hasCome s )] (px_G1, s) _
      refine px_D_ifc rfl (fun hc => ?_) (fun hc => ?_)
      · have hc6 : ¬ ((f_M_hasCome s ) = (0)) := of_decide_eq_true hc
        rw [if_neg hc6] at h
        refine px_D_st 1 (ip1 := 22) (ls1 := [(0, .inr (.inr 150)), (1, .inl (x1)), (2, .inl (x2)), (3, .inl (x3))]) (st1 := [.inl (0)]) (h1 := (px_G1, s)) rfl ?_
        cases h
        exact px_D_iret rfl rfl ⟨rfl, rfl⟩
      · have hc6 : (f_M_hasCome s ) = (0) := Decidable.of_not_not (of_decide_eq_false hc)
        rw [if_pos hc6] at h
        refine px_D_ls [(0, .inr (.inr 150)), (1, .inl (x1))] rfl rfl (List.forall_mem_cons.mpr ⟨rfl, List.forall_mem_cons.mpr ⟨rfl, fun _ h => absurd h List.not_mem_nil⟩⟩) ?_
        exact cj_M_canComeIn_j10 h

def f_M_byPaying (s : px_Z) (x1 : Int) (x2 : Int) (x3 : Int) (x4 : Int) : Option (Int × px_Z) := if 0 ≤ (f_M_leastAt s (px_wr (x1 + 1)) (px_or (x3) ((px_shl (1) (x2)))) (px_wr (x2 + 1))) ∧ (f_M_leastAt s (px_wr (x1 + 1)) (px_or (x3) ((px_shl (1) (x2)))) (px_wr (x2 + 1))) < 142848 then if (s 176 (f_M_leastAt s (px_wr (x1 + 1)) (px_or (x3) ((px_shl (1) (x2)))) (px_wr (x2 + 1))).toNat) < (10000000) then (f_M_priceThen s x2 (px_wr ((s 151 0) + x1)) x3 x4).bind (fun q3 => some ((px_wr ((s 176 (f_M_leastAt s (px_wr (x1 + 1)) (px_or (x3) ((px_shl (1) (x2)))) (px_wr (x2 + 1))).toNat) + q3.1), q3.2))) else some (10000000, s) else none
set_option maxHeartbeats 4000000 in
set_option maxRecDepth 100000 in
theorem c_M_byPaying {sc : List Int} {d : Nat} {s : px_Z} {x1 : Int} {x2 : Int} {x3 : Int} {x4 : Int} {out : Int × px_Z} (h : f_M_byPaying s x1 x2 x3 x4 = some out) : px_D sc (d + 6) 247 0 [(0, .inr (.inr 150)), (1, .inl (x1)), (2, .inl (x2)), (3, .inl (x3)), (4, .inl (x4))] [] (px_G1, s) (px_Qi out) := by
  unfold f_M_byPaying at h
  refine px_D_st 14 (ip1 := 14) (ls1 := [(0, .inr (.inr 150)), (1, .inl (x1)), (2, .inl (x2)), (3, .inl (x3)), (4, .inl (x4))]) (st1 := [.inl (px_wr (x2 + 1)), .inl (px_or (x3) ((px_shl (1) (x2)))), .inl (px_wr (x1 + 1)), .inr (.inr 150), .inr (.inr 176)]) (h1 := (px_G1, s)) rfl ?_
  refine px_D_call (as := [.inr (.inr 150), .inl (px_wr (x1 + 1)), .inl (px_or (x3) ((px_shl (1) (x2)))), .inl (px_wr (x2 + 1))]) (rest := [.inr (.inr 176)]) rfl rfl rfl rfl ?_
  refine px_D_mono (c_M_leastAt (d := d + 5) rfl) ?_
  rintro _ _ ⟨rfl, rfl⟩
  show px_D sc (d + 6) 247 15 [(0, .inr (.inr 150)), (1, .inl (x1)), (2, .inl (x2)), (3, .inl (x3)), (4, .inl (x4))] [.inl (f_M_leastAt s (px_wr (x1 + 1)) (px_or (x3) ((px_shl (1) (x2)))) (px_wr (x2 + 1))), .inr (.inr 176)] (px_G1, s) _
  by_cases hc1 : 0 ≤ (f_M_leastAt s (px_wr (x1 + 1)) (px_or (x3) ((px_shl (1) (x2)))) (px_wr (x2 + 1))) ∧ (f_M_leastAt s (px_wr (x1 + 1)) (px_or (x3) ((px_shl (1) (x2)))) (px_wr (x2 + 1))) < 142848
  case neg => rw [if_neg hc1] at h; cases h
  rw [if_pos hc1] at h
  refine px_D_iald (k := 171) (n := 142848) rfl rfl hc1 ?_
  refine px_D_st 3 (ip1 := 19) (ls1 := [(5, .inl (s 176 (f_M_leastAt s (px_wr (x1 + 1)) (px_or (x3) ((px_shl (1) (x2)))) (px_wr (x2 + 1))).toNat)), (0, .inr (.inr 150)), (1, .inl (x1)), (2, .inl (x2)), (3, .inl (x3)), (4, .inl (x4))]) (st1 := [.inl (10000000), .inl (s 176 (f_M_leastAt s (px_wr (x1 + 1)) (px_or (x3) ((px_shl (1) (x2)))) (px_wr (x2 + 1))).toNat)]) (h1 := (px_G1, s)) rfl ?_
  refine px_D_icmp rfl (fun hc => ?_) (fun hc => ?_)
  · have hc2 : (s 176 (f_M_leastAt s (px_wr (x1 + 1)) (px_or (x3) ((px_shl (1) (x2)))) (px_wr (x2 + 1))).toNat) < (10000000) := of_decide_eq_true hc
    rw [if_pos hc2] at h
    refine px_D_st 11 (ip1 := 33) (ls1 := [(5, .inl (s 176 (f_M_leastAt s (px_wr (x1 + 1)) (px_or (x3) ((px_shl (1) (x2)))) (px_wr (x2 + 1))).toNat)), (0, .inr (.inr 150)), (1, .inl (x1)), (2, .inl (x2)), (3, .inl (x3)), (4, .inl (x4))]) (st1 := [.inl (x4), .inl (x3), .inl (px_wr ((s 151 0) + x1)), .inl (x2), .inr (.inr 150), .inl (s 176 (f_M_leastAt s (px_wr (x1 + 1)) (px_or (x3) ((px_shl (1) (x2)))) (px_wr (x2 + 1))).toNat)]) (h1 := (px_G1, s)) rfl ?_
    refine px_D_call (as := [.inr (.inr 150), .inl (x2), .inl (px_wr ((s 151 0) + x1)), .inl (x3), .inl (x4)]) (rest := [.inl (s 176 (f_M_leastAt s (px_wr (x1 + 1)) (px_or (x3) ((px_shl (1) (x2)))) (px_wr (x2 + 1))).toNat)]) rfl rfl rfl rfl ?_
    obtain ⟨q3, hq3, h⟩ := Option.bind_eq_some_iff.mp h
    refine px_D_mono (c_M_priceThen (d := d + 0) hq3) ?_
    rintro _ _ ⟨rfl, rfl⟩
    show px_D sc (d + 6) 247 34 [(5, .inl (s 176 (f_M_leastAt s (px_wr (x1 + 1)) (px_or (x3) ((px_shl (1) (x2)))) (px_wr (x2 + 1))).toNat)), (0, .inr (.inr 150)), (1, .inl (x1)), (2, .inl (x2)), (3, .inl (x3)), (4, .inl (x4))] [.inl (q3.1), .inl (s 176 (f_M_leastAt s (px_wr (x1 + 1)) (px_or (x3) ((px_shl (1) (x2)))) (px_wr (x2 + 1))).toNat)] (px_G1, q3.2) _
    refine px_D_st 1 (ip1 := 35) (ls1 := [(5, .inl (s 176 (f_M_leastAt s (px_wr (x1 + 1)) (px_or (x3) ((px_shl (1) (x2)))) (px_wr (x2 + 1))).toNat)), (0, .inr (.inr 150)), (1, .inl (x1)), (2, .inl (x2)), (3, .inl (x3)), (4, .inl (x4))]) (st1 := [.inl (px_wr ((s 176 (f_M_leastAt s (px_wr (x1 + 1)) (px_or (x3) ((px_shl (1) (x2)))) (px_wr (x2 + 1))).toNat) + q3.1))]) (h1 := (px_G1, q3.2)) rfl ?_
    cases h
    exact px_D_iret rfl rfl ⟨rfl, rfl⟩
  · have hc2 : ¬ ((s 176 (f_M_leastAt s (px_wr (x1 + 1)) (px_or (x3) ((px_shl (1) (x2)))) (px_wr (x2 + 1))).toNat) < (10000000)) := of_decide_eq_false hc
    rw [if_neg hc2] at h
    refine px_D_st 2 (ip1 := 35) (ls1 := [(5, .inl (s 176 (f_M_leastAt s (px_wr (x1 + 1)) (px_or (x3) ((px_shl (1) (x2)))) (px_wr (x2 + 1))).toNat)), (0, .inr (.inr 150)), (1, .inl (x1)), (2, .inl (x2)), (3, .inl (x3)), (4, .inl (x4))]) (st1 := [.inl (10000000)]) (h1 := (px_G1, s)) rfl ?_
    cases h
    exact px_D_iret rfl rfl ⟨rfl, rfl⟩

def l_M_findsLeastOf_13 (k40 : px_Z → Int → Int → Int → Int → Option (px_Z)) : Nat → px_Z → Int → Int → Int → Int → Int → Option (px_Z)
  | 0, _, _, _, _, _, _ => none
  | n + 1, s, x1, x2, x3, x4, x5 => if (s 150 6) ≤ (x5) then k40 s x1 x2 x3 x4 else (f_M_canComeIn s x1 x5 x2).bind (fun q3 => if (q3) = (0) then l_M_findsLeastOf_13 k40 n s x1 x2 x3 x4 (px_wr (x5 + 1)) else (f_M_byPaying s x1 x5 x2 x3).bind (fun q5 => if (x4) ≤ (q5.1) then l_M_findsLeastOf_13 k40 n q5.2 x1 x2 x3 x4 (px_wr (x5 + 1)) else l_M_findsLeastOf_13 k40 n q5.2 x1 x2 x3 q5.1 (px_wr (x5 + 1))))
set_option maxHeartbeats 4000000 in
set_option maxRecDepth 100000 in
theorem cl_M_findsLeastOf_13 {sc : List Int} {d : Nat} {k40 : px_Z → Int → Int → Int → Int → Option (px_Z)}  (hk40 : ∀ (s : px_Z) (y1 : Int) (y2 : Int) (y3 : Int) (y4 : Int) (out : px_Z), k40 s y1 y2 y3 y4 = some out → px_D sc (d + 7) 248 40 [(0, .inr (.inr 150)), (1, .inl (y1)), (2, .inl (y2)), (3, .inl (y3)), (4, .inl (y4))] [] (px_G1, s) (px_Qv out)) : ∀ (n : Nat) (s : px_Z) (x1 : Int) (x2 : Int) (x3 : Int) (x4 : Int) (x5 : Int) (out : px_Z), l_M_findsLeastOf_13 k40 n s x1 x2 x3 x4 x5 = some out → px_D sc (d + 7) 248 13 [(0, .inr (.inr 150)), (1, .inl (x1)), (2, .inl (x2)), (3, .inl (x3)), (4, .inl (x4)), (5, .inl (x5))] [] (px_G1, s) (px_Qv out) := by
  intro n
  induction n with
  | zero => intro s x1 x2 x3 x4 x5 out h; cases h
  | succ n ih =>
    intro s x1 x2 x3 x4 x5 out h
    rw [l_M_findsLeastOf_13] at h
    refine px_D_st 3 (ip1 := 16) (ls1 := [(0, .inr (.inr 150)), (1, .inl (x1)), (2, .inl (x2)), (3, .inl (x3)), (4, .inl (x4)), (5, .inl (x5))]) (st1 := [.inl (s 150 6), .inl (x5)]) (h1 := (px_G1, s)) rfl ?_
    refine px_D_icmp rfl (fun hc => ?_) (fun hc => ?_)
    · have hc2 : (s 150 6) ≤ (x5) := of_decide_eq_true hc
      rw [if_pos hc2] at h
      refine px_D_ls [(0, .inr (.inr 150)), (1, .inl (x1)), (2, .inl (x2)), (3, .inl (x3)), (4, .inl (x4))] rfl rfl (List.forall_mem_cons.mpr ⟨rfl, List.forall_mem_cons.mpr ⟨rfl, List.forall_mem_cons.mpr ⟨rfl, List.forall_mem_cons.mpr ⟨rfl, List.forall_mem_cons.mpr ⟨rfl, fun _ h => absurd h List.not_mem_nil⟩⟩⟩⟩⟩) ?_
      exact hk40 _ _ _ _ _ _ h
    · have hc2 : ¬ ((s 150 6) ≤ (x5)) := of_decide_eq_false hc
      rw [if_neg hc2] at h
      refine px_D_st 4 (ip1 := 21) (ls1 := [(0, .inr (.inr 150)), (1, .inl (x1)), (2, .inl (x2)), (3, .inl (x3)), (4, .inl (x4)), (5, .inl (x5))]) (st1 := [.inl (x2), .inl (x5), .inl (x1), .inr (.inr 150)]) (h1 := (px_G1, s)) rfl ?_
      refine px_D_call (as := [.inr (.inr 150), .inl (x1), .inl (x5), .inl (x2)]) (rest := []) rfl rfl rfl rfl ?_
      obtain ⟨q3, hq3, h⟩ := Option.bind_eq_some_iff.mp h
      refine px_D_mono (c_M_canComeIn (d := d + 3) hq3) ?_
      rintro _ _ ⟨rfl, rfl⟩
      show px_D sc (d + 7) 248 22 [(0, .inr (.inr 150)), (1, .inl (x1)), (2, .inl (x2)), (3, .inl (x3)), (4, .inl (x4)), (5, .inl (x5))] [.inl (q3)] (px_G1, s) _
      refine px_D_ifc rfl (fun hc => ?_) (fun hc => ?_)
      · have hc4 : ¬ ((q3) = (0)) := of_decide_eq_true hc
        rw [if_neg hc4] at h
        refine px_D_st 5 (ip1 := 29) (ls1 := [(0, .inr (.inr 150)), (1, .inl (x1)), (2, .inl (x2)), (3, .inl (x3)), (4, .inl (x4)), (5, .inl (x5))]) (st1 := [.inl (x3), .inl (x2), .inl (x5), .inl (x1), .inr (.inr 150)]) (h1 := (px_G1, s)) rfl ?_
        refine px_D_call (as := [.inr (.inr 150), .inl (x1), .inl (x5), .inl (x2), .inl (x3)]) (rest := []) rfl rfl rfl rfl ?_
        obtain ⟨q5, hq5, h⟩ := Option.bind_eq_some_iff.mp h
        refine px_D_mono (c_M_byPaying (d := d + 0) hq5) ?_
        rintro _ _ ⟨rfl, rfl⟩
        show px_D sc (d + 7) 248 30 [(0, .inr (.inr 150)), (1, .inl (x1)), (2, .inl (x2)), (3, .inl (x3)), (4, .inl (x4)), (5, .inl (x5))] [.inl (q5.1)] (px_G1, q5.2) _
        refine px_D_st 3 (ip1 := 33) (ls1 := [(6, .inl (q5.1)), (0, .inr (.inr 150)), (1, .inl (x1)), (2, .inl (x2)), (3, .inl (x3)), (4, .inl (x4)), (5, .inl (x5))]) (st1 := [.inl (x4), .inl (q5.1)]) (h1 := (px_G1, q5.2)) rfl ?_
        refine px_D_icmp rfl (fun hc => ?_) (fun hc => ?_)
        · have hc6 : (x4) ≤ (q5.1) := of_decide_eq_true hc
          rw [if_pos hc6] at h
          refine px_D_st 4 (ip1 := 13) (ls1 := [(5, .inl (px_wr (x5 + 1))), (4, .inl (x4)), (6, .inl (q5.1)), (0, .inr (.inr 150)), (1, .inl (x1)), (2, .inl (x2)), (3, .inl (x3))]) (st1 := []) (h1 := (px_G1, q5.2)) rfl ?_
          refine px_D_ls [(0, .inr (.inr 150)), (1, .inl (x1)), (2, .inl (x2)), (3, .inl (x3)), (4, .inl (x4)), (5, .inl (px_wr (x5 + 1)))] rfl rfl (List.forall_mem_cons.mpr ⟨rfl, List.forall_mem_cons.mpr ⟨rfl, List.forall_mem_cons.mpr ⟨rfl, List.forall_mem_cons.mpr ⟨rfl, List.forall_mem_cons.mpr ⟨rfl, List.forall_mem_cons.mpr ⟨rfl, fun _ h => absurd h List.not_mem_nil⟩⟩⟩⟩⟩⟩) ?_
          exact ih _ _ _ _ _ _ _ h
        · have hc6 : ¬ ((x4) ≤ (q5.1)) := of_decide_eq_false hc
          rw [if_neg hc6] at h
          refine px_D_st 5 (ip1 := 13) (ls1 := [(5, .inl (px_wr (x5 + 1))), (4, .inl (q5.1)), (6, .inl (q5.1)), (0, .inr (.inr 150)), (1, .inl (x1)), (2, .inl (x2)), (3, .inl (x3))]) (st1 := []) (h1 := (px_G1, q5.2)) rfl ?_
          refine px_D_ls [(0, .inr (.inr 150)), (1, .inl (x1)), (2, .inl (x2)), (3, .inl (x3)), (4, .inl (q5.1)), (5, .inl (px_wr (x5 + 1)))] rfl rfl (List.forall_mem_cons.mpr ⟨rfl, List.forall_mem_cons.mpr ⟨rfl, List.forall_mem_cons.mpr ⟨rfl, List.forall_mem_cons.mpr ⟨rfl, List.forall_mem_cons.mpr ⟨rfl, List.forall_mem_cons.mpr ⟨rfl, fun _ h => absurd h List.not_mem_nil⟩⟩⟩⟩⟩⟩) ?_
          exact ih _ _ _ _ _ _ _ h
      · have hc4 : (q3) = (0) := Decidable.of_not_not (of_decide_eq_false hc)
        rw [if_pos hc4] at h
        refine px_D_st 3 (ip1 := 13) (ls1 := [(5, .inl (px_wr (x5 + 1))), (0, .inr (.inr 150)), (1, .inl (x1)), (2, .inl (x2)), (3, .inl (x3)), (4, .inl (x4))]) (st1 := []) (h1 := (px_G1, s)) rfl ?_
        refine px_D_ls [(0, .inr (.inr 150)), (1, .inl (x1)), (2, .inl (x2)), (3, .inl (x3)), (4, .inl (x4)), (5, .inl (px_wr (x5 + 1)))] rfl rfl (List.forall_mem_cons.mpr ⟨rfl, List.forall_mem_cons.mpr ⟨rfl, List.forall_mem_cons.mpr ⟨rfl, List.forall_mem_cons.mpr ⟨rfl, List.forall_mem_cons.mpr ⟨rfl, List.forall_mem_cons.mpr ⟨rfl, fun _ h => absurd h List.not_mem_nil⟩⟩⟩⟩⟩⟩) ?_
        exact ih _ _ _ _ _ _ _ h
def f_M_findsLeastOf (s : px_Z) (x1 : Int) (x2 : Int) (x3 : Int) : Option (px_Z) := if 0 ≤ (f_M_leastAt s (px_wr (x1 + 1)) x2 x3) ∧ (f_M_leastAt s (px_wr (x1 + 1)) x2 x3) < 142848 then l_M_findsLeastOf_13 (fun s x1 x2 x3 x4 => if 0 ≤ (f_M_leastAt s x1 x2 x3) ∧ (f_M_leastAt s x1 x2 x3) < 142848 then some (px_up s 176 (f_M_leastAt s x1 x2 x3).toNat x4) else none) px_big s x1 x2 x3 (s 176 (f_M_leastAt s (px_wr (x1 + 1)) x2 x3).toNat) 0 else none
set_option maxHeartbeats 4000000 in
set_option maxRecDepth 100000 in
theorem c_M_findsLeastOf {sc : List Int} {d : Nat} {s : px_Z} {x1 : Int} {x2 : Int} {x3 : Int} {out : px_Z} (h : f_M_findsLeastOf s x1 x2 x3 = some out) : px_D sc (d + 7) 248 0 [(0, .inr (.inr 150)), (1, .inl (x1)), (2, .inl (x2)), (3, .inl (x3))] [] (px_G1, s) (px_Qv out) := by
  unfold f_M_findsLeastOf at h
  refine px_D_st 8 (ip1 := 8) (ls1 := [(0, .inr (.inr 150)), (1, .inl (x1)), (2, .inl (x2)), (3, .inl (x3))]) (st1 := [.inl (x3), .inl (x2), .inl (px_wr (x1 + 1)), .inr (.inr 150), .inr (.inr 176)]) (h1 := (px_G1, s)) rfl ?_
  refine px_D_call (as := [.inr (.inr 150), .inl (px_wr (x1 + 1)), .inl (x2), .inl (x3)]) (rest := [.inr (.inr 176)]) rfl rfl rfl rfl ?_
  refine px_D_mono (c_M_leastAt (d := d + 6) rfl) ?_
  rintro _ _ ⟨rfl, rfl⟩
  show px_D sc (d + 7) 248 9 [(0, .inr (.inr 150)), (1, .inl (x1)), (2, .inl (x2)), (3, .inl (x3))] [.inl (f_M_leastAt s (px_wr (x1 + 1)) x2 x3), .inr (.inr 176)] (px_G1, s) _
  by_cases hc1 : 0 ≤ (f_M_leastAt s (px_wr (x1 + 1)) x2 x3) ∧ (f_M_leastAt s (px_wr (x1 + 1)) x2 x3) < 142848
  case neg => rw [if_neg hc1] at h; cases h
  rw [if_pos hc1] at h
  refine px_D_iald (k := 171) (n := 142848) rfl rfl hc1 ?_
  refine px_D_st 3 (ip1 := 13) (ls1 := [(5, .inl (0)), (4, .inl (s 176 (f_M_leastAt s (px_wr (x1 + 1)) x2 x3).toNat)), (0, .inr (.inr 150)), (1, .inl (x1)), (2, .inl (x2)), (3, .inl (x3))]) (st1 := []) (h1 := (px_G1, s)) rfl ?_
  refine px_D_ls [(0, .inr (.inr 150)), (1, .inl (x1)), (2, .inl (x2)), (3, .inl (x3)), (4, .inl (s 176 (f_M_leastAt s (px_wr (x1 + 1)) x2 x3).toNat)), (5, .inl (0))] rfl rfl (List.forall_mem_cons.mpr ⟨rfl, List.forall_mem_cons.mpr ⟨rfl, List.forall_mem_cons.mpr ⟨rfl, List.forall_mem_cons.mpr ⟨rfl, List.forall_mem_cons.mpr ⟨rfl, List.forall_mem_cons.mpr ⟨rfl, fun _ h => absurd h List.not_mem_nil⟩⟩⟩⟩⟩⟩) ?_
  refine cl_M_findsLeastOf_13 ?_ px_big _ _ _ _ _ _ _ h
  · intro s x1 x2 x3 x4 out h
    refine px_D_st 6 (ip1 := 46) (ls1 := [(0, .inr (.inr 150)), (1, .inl (x1)), (2, .inl (x2)), (3, .inl (x3)), (4, .inl (x4))]) (st1 := [.inl (x3), .inl (x2), .inl (x1), .inr (.inr 150), .inr (.inr 176)]) (h1 := (px_G1, s)) rfl ?_
    refine px_D_call (as := [.inr (.inr 150), .inl (x1), .inl (x2), .inl (x3)]) (rest := [.inr (.inr 176)]) rfl rfl rfl rfl ?_
    refine px_D_mono (c_M_leastAt (d := d + 6) rfl) ?_
    rintro _ _ ⟨rfl, rfl⟩
    show px_D sc (d + 7) 248 47 [(0, .inr (.inr 150)), (1, .inl (x1)), (2, .inl (x2)), (3, .inl (x3)), (4, .inl (x4))] [.inl (f_M_leastAt s x1 x2 x3), .inr (.inr 176)] (px_G1, s) _
    refine px_D_st 1 (ip1 := 48) (ls1 := [(0, .inr (.inr 150)), (1, .inl (x1)), (2, .inl (x2)), (3, .inl (x3)), (4, .inl (x4))]) (st1 := [.inl (x4), .inl (f_M_leastAt s x1 x2 x3), .inr (.inr 176)]) (h1 := (px_G1, s)) rfl ?_
    by_cases hc7 : 0 ≤ (f_M_leastAt s x1 x2 x3) ∧ (f_M_leastAt s x1 x2 x3) < 142848
    case neg => rw [if_neg hc7] at h; cases h
    rw [if_pos hc7] at h
    refine px_D_iast (k := 171) (n := 142848) rfl rfl hc7 ?_
    cases h
    exact px_D_vret rfl ⟨rfl, rfl⟩

def f_M_weeksLeft (s : px_Z) : Int := px_wr ((px_wr ((f_M_thaw s ) - (s 151 0))) + 1)
set_option maxHeartbeats 4000000 in
set_option maxRecDepth 100000 in
theorem c_M_weeksLeft {sc : List Int} {d : Nat} {s : px_Z} {out : Int} (h : f_M_weeksLeft s  = out) : px_D sc (d + 1) 249 0 [(0, .inr (.inr 150))] [] (px_G1, s) (px_Qp s out) := by
  unfold f_M_weeksLeft at h
  refine px_D_st 1 (ip1 := 1) (ls1 := [(0, .inr (.inr 150))]) (st1 := [.inr (.inr 150)]) (h1 := (px_G1, s)) rfl ?_
  refine px_D_call (as := [.inr (.inr 150)]) (rest := []) rfl rfl rfl rfl ?_
  refine px_D_mono (c_M_thaw (d := d + 0) rfl) ?_
  rintro _ _ ⟨rfl, rfl⟩
  show px_D sc (d + 1) 249 2 [(0, .inr (.inr 150))] [.inl (f_M_thaw s )] (px_G1, s) _
  refine px_D_st 7 (ip1 := 9) (ls1 := [(0, .inr (.inr 150))]) (st1 := [.inl (px_wr ((px_wr ((f_M_thaw s ) - (s 151 0))) + 1))]) (h1 := (px_G1, s)) rfl ?_
  subst h
  exact px_D_iret rfl rfl ⟨rfl, rfl⟩

def l_M_findsLeast_20 (k40 : px_Z → Int → Int → Int → Int → Option (px_Z)) : Nat → px_Z → Int → Int → Int → Int → Int → Option (px_Z)
  | 0, _, _, _, _, _, _ => none
  | n + 1, s, x1, x2, x3, x4, x5 => if (s 150 6) < (x5) then k40 s x1 x2 x3 x4 else (if (x4) = (x2) then (if 0 ≤ (f_M_leastAt s x1 x4 x5) ∧ (f_M_leastAt s x1 x4 x5) < 142848 then l_M_findsLeast_20 k40 n (px_up s 176 (f_M_leastAt s x1 x4 x5).toNat 0) x1 x2 x3 x4 (px_wr (x5 + 1)) else none) else (if 0 ≤ (f_M_leastAt s x1 x4 x5) ∧ (f_M_leastAt s x1 x4 x5) < 142848 then l_M_findsLeast_20 k40 n (px_up s 176 (f_M_leastAt s x1 x4 x5).toNat 10000000) x1 x2 x3 x4 (px_wr (x5 + 1)) else none))
set_option maxHeartbeats 4000000 in
set_option maxRecDepth 100000 in
theorem cl_M_findsLeast_20 {sc : List Int} {d : Nat} {k40 : px_Z → Int → Int → Int → Int → Option (px_Z)}  (hk40 : ∀ (s : px_Z) (y1 : Int) (y2 : Int) (y3 : Int) (y4 : Int) (out : px_Z), k40 s y1 y2 y3 y4 = some out → px_D sc (d + 8) 250 40 [(0, .inr (.inr 150)), (1, .inl (y1)), (2, .inl (y2)), (3, .inl (y3)), (4, .inl (y4))] [] (px_G1, s) (px_Qv out)) : ∀ (n : Nat) (s : px_Z) (x1 : Int) (x2 : Int) (x3 : Int) (x4 : Int) (x5 : Int) (out : px_Z), l_M_findsLeast_20 k40 n s x1 x2 x3 x4 x5 = some out → px_D sc (d + 8) 250 20 [(0, .inr (.inr 150)), (1, .inl (x1)), (2, .inl (x2)), (3, .inl (x3)), (4, .inl (x4)), (5, .inl (x5))] [] (px_G1, s) (px_Qv out) := by
  intro n
  induction n with
  | zero => intro s x1 x2 x3 x4 x5 out h; cases h
  | succ n ih =>
    intro s x1 x2 x3 x4 x5 out h
    rw [l_M_findsLeast_20] at h
    refine px_D_st 3 (ip1 := 23) (ls1 := [(0, .inr (.inr 150)), (1, .inl (x1)), (2, .inl (x2)), (3, .inl (x3)), (4, .inl (x4)), (5, .inl (x5))]) (st1 := [.inl (s 150 6), .inl (x5)]) (h1 := (px_G1, s)) rfl ?_
    refine px_D_icmp rfl (fun hc => ?_) (fun hc => ?_)
    · have hc3 : (s 150 6) < (x5) := of_decide_eq_true hc
      rw [if_pos hc3] at h
      refine px_D_ls [(0, .inr (.inr 150)), (1, .inl (x1)), (2, .inl (x2)), (3, .inl (x3)), (4, .inl (x4))] rfl rfl (List.forall_mem_cons.mpr ⟨rfl, List.forall_mem_cons.mpr ⟨rfl, List.forall_mem_cons.mpr ⟨rfl, List.forall_mem_cons.mpr ⟨rfl, List.forall_mem_cons.mpr ⟨rfl, fun _ h => absurd h List.not_mem_nil⟩⟩⟩⟩⟩) ?_
      exact hk40 _ _ _ _ _ _ h
    · have hc3 : ¬ ((s 150 6) < (x5)) := of_decide_eq_false hc
      rw [if_neg hc3] at h
      refine px_D_st 6 (ip1 := 30) (ls1 := [(0, .inr (.inr 150)), (1, .inl (x1)), (2, .inl (x2)), (3, .inl (x3)), (4, .inl (x4)), (5, .inl (x5))]) (st1 := [.inl (x5), .inl (x4), .inl (x1), .inr (.inr 150), .inr (.inr 176)]) (h1 := (px_G1, s)) rfl ?_
      refine px_D_call (as := [.inr (.inr 150), .inl (x1), .inl (x4), .inl (x5)]) (rest := [.inr (.inr 176)]) rfl rfl rfl rfl ?_
      refine px_D_mono (c_M_leastAt (d := d + 7) rfl) ?_
      rintro _ _ ⟨rfl, rfl⟩
      show px_D sc (d + 8) 250 31 [(0, .inr (.inr 150)), (1, .inl (x1)), (2, .inl (x2)), (3, .inl (x3)), (4, .inl (x4)), (5, .inl (x5))] [.inl (f_M_leastAt s x1 x4 x5), .inr (.inr 176)] (px_G1, s) _
      refine px_D_st 2 (ip1 := 33) (ls1 := [(0, .inr (.inr 150)), (1, .inl (x1)), (2, .inl (x2)), (3, .inl (x3)), (4, .inl (x4)), (5, .inl (x5))]) (st1 := [.inl (x2), .inl (x4), .inl (f_M_leastAt s x1 x4 x5), .inr (.inr 176)]) (h1 := (px_G1, s)) rfl ?_
      refine px_D_icmp rfl (fun hc => ?_) (fun hc => ?_)
      · have hc4 : ¬ ((x4) = (x2)) := of_decide_eq_true hc
        rw [if_neg hc4] at h
        refine px_D_st 1 (ip1 := 37) (ls1 := [(0, .inr (.inr 150)), (1, .inl (x1)), (2, .inl (x2)), (3, .inl (x3)), (4, .inl (x4)), (5, .inl (x5))]) (st1 := [.inl (10000000), .inl (f_M_leastAt s x1 x4 x5), .inr (.inr 176)]) (h1 := (px_G1, s)) rfl ?_
        by_cases hc5 : 0 ≤ (f_M_leastAt s x1 x4 x5) ∧ (f_M_leastAt s x1 x4 x5) < 142848
        case neg => rw [if_neg hc5] at h; cases h
        rw [if_pos hc5] at h
        refine px_D_iast (k := 171) (n := 142848) rfl rfl hc5 ?_
        refine px_D_st 2 (ip1 := 20) (ls1 := [(5, .inl (px_wr (x5 + 1))), (0, .inr (.inr 150)), (1, .inl (x1)), (2, .inl (x2)), (3, .inl (x3)), (4, .inl (x4))]) (st1 := []) (h1 := (px_G1, px_up s 176 (f_M_leastAt s x1 x4 x5).toNat 10000000)) rfl ?_
        refine px_D_ls [(0, .inr (.inr 150)), (1, .inl (x1)), (2, .inl (x2)), (3, .inl (x3)), (4, .inl (x4)), (5, .inl (px_wr (x5 + 1)))] rfl rfl (List.forall_mem_cons.mpr ⟨rfl, List.forall_mem_cons.mpr ⟨rfl, List.forall_mem_cons.mpr ⟨rfl, List.forall_mem_cons.mpr ⟨rfl, List.forall_mem_cons.mpr ⟨rfl, List.forall_mem_cons.mpr ⟨rfl, fun _ h => absurd h List.not_mem_nil⟩⟩⟩⟩⟩⟩) ?_
        exact ih _ _ _ _ _ _ _ h
      · have hc4 : (x4) = (x2) := Decidable.of_not_not (of_decide_eq_false hc)
        rw [if_pos hc4] at h
        refine px_D_st 2 (ip1 := 37) (ls1 := [(0, .inr (.inr 150)), (1, .inl (x1)), (2, .inl (x2)), (3, .inl (x3)), (4, .inl (x4)), (5, .inl (x5))]) (st1 := [.inl (0), .inl (f_M_leastAt s x1 x4 x5), .inr (.inr 176)]) (h1 := (px_G1, s)) rfl ?_
        by_cases hc6 : 0 ≤ (f_M_leastAt s x1 x4 x5) ∧ (f_M_leastAt s x1 x4 x5) < 142848
        case neg => rw [if_neg hc6] at h; cases h
        rw [if_pos hc6] at h
        refine px_D_iast (k := 171) (n := 142848) rfl rfl hc6 ?_
        refine px_D_st 2 (ip1 := 20) (ls1 := [(5, .inl (px_wr (x5 + 1))), (0, .inr (.inr 150)), (1, .inl (x1)), (2, .inl (x2)), (3, .inl (x3)), (4, .inl (x4))]) (st1 := []) (h1 := (px_G1, px_up s 176 (f_M_leastAt s x1 x4 x5).toNat 0)) rfl ?_
        refine px_D_ls [(0, .inr (.inr 150)), (1, .inl (x1)), (2, .inl (x2)), (3, .inl (x3)), (4, .inl (x4)), (5, .inl (px_wr (x5 + 1)))] rfl rfl (List.forall_mem_cons.mpr ⟨rfl, List.forall_mem_cons.mpr ⟨rfl, List.forall_mem_cons.mpr ⟨rfl, List.forall_mem_cons.mpr ⟨rfl, List.forall_mem_cons.mpr ⟨rfl, List.forall_mem_cons.mpr ⟨rfl, fun _ h => absurd h List.not_mem_nil⟩⟩⟩⟩⟩⟩) ?_
        exact ih _ _ _ _ _ _ _ h
def l_M_findsLeast_15 (k42 : px_Z → Int → Int → Int → Option (px_Z)) : Nat → px_Z → Int → Int → Int → Int → Option (px_Z)
  | 0, _, _, _, _, _ => none
  | n + 1, s, x1, x2, x3, x4 => if (x2) < (x4) then k42 s x1 x2 x3 else l_M_findsLeast_20 (fun s x1 x2 x3 x4 => l_M_findsLeast_15 k42 n s x1 x2 x3 (px_wr (x4 + 1))) px_big s x1 x2 x3 x4 0
set_option maxHeartbeats 4000000 in
set_option maxRecDepth 100000 in
theorem cl_M_findsLeast_15 {sc : List Int} {d : Nat} {k42 : px_Z → Int → Int → Int → Option (px_Z)}  (hk42 : ∀ (s : px_Z) (y1 : Int) (y2 : Int) (y3 : Int) (out : px_Z), k42 s y1 y2 y3 = some out → px_D sc (d + 8) 250 42 [(0, .inr (.inr 150)), (1, .inl (y1)), (2, .inl (y2)), (3, .inl (y3))] [] (px_G1, s) (px_Qv out)) : ∀ (n : Nat) (s : px_Z) (x1 : Int) (x2 : Int) (x3 : Int) (x4 : Int) (out : px_Z), l_M_findsLeast_15 k42 n s x1 x2 x3 x4 = some out → px_D sc (d + 8) 250 15 [(0, .inr (.inr 150)), (1, .inl (x1)), (2, .inl (x2)), (3, .inl (x3)), (4, .inl (x4))] [] (px_G1, s) (px_Qv out) := by
  intro n
  induction n with
  | zero => intro s x1 x2 x3 x4 out h; cases h
  | succ n ih =>
    intro s x1 x2 x3 x4 out h
    rw [l_M_findsLeast_15] at h
    refine px_D_st 2 (ip1 := 17) (ls1 := [(0, .inr (.inr 150)), (1, .inl (x1)), (2, .inl (x2)), (3, .inl (x3)), (4, .inl (x4))]) (st1 := [.inl (x2), .inl (x4)]) (h1 := (px_G1, s)) rfl ?_
    refine px_D_icmp rfl (fun hc => ?_) (fun hc => ?_)
    · have hc2 : (x2) < (x4) := of_decide_eq_true hc
      rw [if_pos hc2] at h
      refine px_D_ls [(0, .inr (.inr 150)), (1, .inl (x1)), (2, .inl (x2)), (3, .inl (x3))] rfl rfl (List.forall_mem_cons.mpr ⟨rfl, List.forall_mem_cons.mpr ⟨rfl, List.forall_mem_cons.mpr ⟨rfl, List.forall_mem_cons.mpr ⟨rfl, fun _ h => absurd h List.not_mem_nil⟩⟩⟩⟩) ?_
      exact hk42 _ _ _ _ _ h
    · have hc2 : ¬ ((x2) < (x4)) := of_decide_eq_false hc
      rw [if_neg hc2] at h
      refine px_D_st 2 (ip1 := 20) (ls1 := [(5, .inl (0)), (0, .inr (.inr 150)), (1, .inl (x1)), (2, .inl (x2)), (3, .inl (x3)), (4, .inl (x4))]) (st1 := []) (h1 := (px_G1, s)) rfl ?_
      refine px_D_ls [(0, .inr (.inr 150)), (1, .inl (x1)), (2, .inl (x2)), (3, .inl (x3)), (4, .inl (x4)), (5, .inl (0))] rfl rfl (List.forall_mem_cons.mpr ⟨rfl, List.forall_mem_cons.mpr ⟨rfl, List.forall_mem_cons.mpr ⟨rfl, List.forall_mem_cons.mpr ⟨rfl, List.forall_mem_cons.mpr ⟨rfl, List.forall_mem_cons.mpr ⟨rfl, fun _ h => absurd h List.not_mem_nil⟩⟩⟩⟩⟩⟩) ?_
      refine cl_M_findsLeast_20 ?_ px_big _ _ _ _ _ _ _ h
      · intro s x1 x2 x3 x4 out h
        refine px_D_st 2 (ip1 := 15) (ls1 := [(4, .inl (px_wr (x4 + 1))), (0, .inr (.inr 150)), (1, .inl (x1)), (2, .inl (x2)), (3, .inl (x3))]) (st1 := []) (h1 := (px_G1, s)) rfl ?_
        refine px_D_ls [(0, .inr (.inr 150)), (1, .inl (x1)), (2, .inl (x2)), (3, .inl (x3)), (4, .inl (px_wr (x4 + 1)))] rfl rfl (List.forall_mem_cons.mpr ⟨rfl, List.forall_mem_cons.mpr ⟨rfl, List.forall_mem_cons.mpr ⟨rfl, List.forall_mem_cons.mpr ⟨rfl, List.forall_mem_cons.mpr ⟨rfl, fun _ h => absurd h List.not_mem_nil⟩⟩⟩⟩⟩) ?_
        exact ih _ _ _ _ _ _ h
def l_M_findsLeast_62 (k73 : px_Z → Int → Int → Int → Int → Option (px_Z)) : Nat → px_Z → Int → Int → Int → Int → Int → Option (px_Z)
  | 0, _, _, _, _, _, _ => none
  | n + 1, s, x2, x3, x4, x5, x6 => if (s 150 6) < (x6) then k73 s x2 x3 x4 x5 else (f_M_findsLeastOf s x4 x5 x6).bind (fun q11 => l_M_findsLeast_62 k73 n q11 x2 x3 x4 x5 (px_wr (x6 + 1)))
set_option maxHeartbeats 4000000 in
set_option maxRecDepth 100000 in
theorem cl_M_findsLeast_62 {sc : List Int} {d : Nat} {k73 : px_Z → Int → Int → Int → Int → Option (px_Z)}  (hk73 : ∀ (s : px_Z) (y2 : Int) (y3 : Int) (y4 : Int) (y5 : Int) (out : px_Z), k73 s y2 y3 y4 y5 = some out → px_D sc (d + 8) 250 73 [(0, .inr (.inr 150)), (2, .inl (y2)), (3, .inl (y3)), (4, .inl (y4)), (5, .inl (y5))] [] (px_G1, s) (px_Qv out)) : ∀ (n : Nat) (s : px_Z) (x2 : Int) (x3 : Int) (x4 : Int) (x5 : Int) (x6 : Int) (out : px_Z), l_M_findsLeast_62 k73 n s x2 x3 x4 x5 x6 = some out → px_D sc (d + 8) 250 62 [(0, .inr (.inr 150)), (2, .inl (x2)), (3, .inl (x3)), (4, .inl (x4)), (5, .inl (x5)), (6, .inl (x6))] [] (px_G1, s) (px_Qv out) := by
  intro n
  induction n with
  | zero => intro s x2 x3 x4 x5 x6 out h; cases h
  | succ n ih =>
    intro s x2 x3 x4 x5 x6 out h
    rw [l_M_findsLeast_62] at h
    refine px_D_st 3 (ip1 := 65) (ls1 := [(0, .inr (.inr 150)), (2, .inl (x2)), (3, .inl (x3)), (4, .inl (x4)), (5, .inl (x5)), (6, .inl (x6))]) (st1 := [.inl (s 150 6), .inl (x6)]) (h1 := (px_G1, s)) rfl ?_
    refine px_D_icmp rfl (fun hc => ?_) (fun hc => ?_)
    · have hc10 : (s 150 6) < (x6) := of_decide_eq_true hc
      rw [if_pos hc10] at h
      refine px_D_ls [(0, .inr (.inr 150)), (2, .inl (x2)), (3, .inl (x3)), (4, .inl (x4)), (5, .inl (x5))] rfl rfl (List.forall_mem_cons.mpr ⟨rfl, List.forall_mem_cons.mpr ⟨rfl, List.forall_mem_cons.mpr ⟨rfl, List.forall_mem_cons.mpr ⟨rfl, List.forall_mem_cons.mpr ⟨rfl, fun _ h => absurd h List.not_mem_nil⟩⟩⟩⟩⟩) ?_
      exact hk73 _ _ _ _ _ _ h
    · have hc10 : ¬ ((s 150 6) < (x6)) := of_decide_eq_false hc
      rw [if_neg hc10] at h
      refine px_D_st 4 (ip1 := 70) (ls1 := [(0, .inr (.inr 150)), (2, .inl (x2)), (3, .inl (x3)), (4, .inl (x4)), (5, .inl (x5)), (6, .inl (x6))]) (st1 := [.inl (x6), .inl (x5), .inl (x4), .inr (.inr 150)]) (h1 := (px_G1, s)) rfl ?_
      refine px_D_call (as := [.inr (.inr 150), .inl (x4), .inl (x5), .inl (x6)]) (rest := []) rfl rfl rfl rfl ?_
      obtain ⟨q11, hq11, h⟩ := Option.bind_eq_some_iff.mp h
      refine px_D_mono (c_M_findsLeastOf (d := d + 0) hq11) ?_
      rintro _ _ ⟨rfl, rfl⟩
      show px_D sc (d + 8) 250 71 [(0, .inr (.inr 150)), (2, .inl (x2)), (3, .inl (x3)), (4, .inl (x4)), (5, .inl (x5)), (6, .inl (x6))] [] (px_G1, q11) _
      refine px_D_st 2 (ip1 := 62) (ls1 := [(6, .inl (px_wr (x6 + 1))), (0, .inr (.inr 150)), (2, .inl (x2)), (3, .inl (x3)), (4, .inl (x4)), (5, .inl (x5))]) (st1 := []) (h1 := (px_G1, q11)) rfl ?_
      refine px_D_ls [(0, .inr (.inr 150)), (2, .inl (x2)), (3, .inl (x3)), (4, .inl (x4)), (5, .inl (x5)), (6, .inl (px_wr (x6 + 1)))] rfl rfl (List.forall_mem_cons.mpr ⟨rfl, List.forall_mem_cons.mpr ⟨rfl, List.forall_mem_cons.mpr ⟨rfl, List.forall_mem_cons.mpr ⟨rfl, List.forall_mem_cons.mpr ⟨rfl, List.forall_mem_cons.mpr ⟨rfl, fun _ h => absurd h List.not_mem_nil⟩⟩⟩⟩⟩⟩) ?_
      exact ih _ _ _ _ _ _ _ h
def l_M_findsLeast_50 (k75 : px_Z → Int → Int → Int → Option (px_Z)) : Nat → px_Z → Int → Int → Int → Int → Option (px_Z)
  | 0, _, _, _, _, _ => none
  | n + 1, s, x2, x3, x4, x5 => if (x2) < (x5) then k75 s x2 x3 x4 else (if (px_and (x3) ((px_xor (x5) ((-1))))) = (0) then l_M_findsLeast_62 (fun s x2 x3 x4 x5 => l_M_findsLeast_50 k75 n s x2 x3 x4 (px_wr (x5 + 1))) px_big s x2 x3 x4 x5 0 else l_M_findsLeast_50 k75 n s x2 x3 x4 (px_wr (x5 + 1)))
set_option maxHeartbeats 4000000 in
set_option maxRecDepth 100000 in
theorem cl_M_findsLeast_50 {sc : List Int} {d : Nat} {k75 : px_Z → Int → Int → Int → Option (px_Z)}  (hk75 : ∀ (s : px_Z) (y2 : Int) (y3 : Int) (y4 : Int) (out : px_Z), k75 s y2 y3 y4 = some out → px_D sc (d + 8) 250 75 [(0, .inr (.inr 150)), (2, .inl (y2)), (3, .inl (y3)), (4, .inl (y4))] [] (px_G1, s) (px_Qv out)) : ∀ (n : Nat) (s : px_Z) (x2 : Int) (x3 : Int) (x4 : Int) (x5 : Int) (out : px_Z), l_M_findsLeast_50 k75 n s x2 x3 x4 x5 = some out → px_D sc (d + 8) 250 50 [(0, .inr (.inr 150)), (2, .inl (x2)), (3, .inl (x3)), (4, .inl (x4)), (5, .inl (x5))] [] (px_G1, s) (px_Qv out) := by
  intro n
  induction n with
  | zero => intro s x2 x3 x4 x5 out h; cases h
  | succ n ih =>
    intro s x2 x3 x4 x5 out h
    rw [l_M_findsLeast_50] at h
    refine px_D_st 2 (ip1 := 52) (ls1 := [(0, .inr (.inr 150)), (2, .inl (x2)), (3, .inl (x3)), (4, .inl (x4)), (5, .inl (x5))]) (st1 := [.inl (x2), .inl (x5)]) (h1 := (px_G1, s)) rfl ?_
    refine px_D_icmp rfl (fun hc => ?_) (fun hc => ?_)
    · have hc8 : (x2) < (x5) := of_decide_eq_true hc
      rw [if_pos hc8] at h
      refine px_D_ls [(0, .inr (.inr 150)), (2, .inl (x2)), (3, .inl (x3)), (4, .inl (x4))] rfl rfl (List.forall_mem_cons.mpr ⟨rfl, List.forall_mem_cons.mpr ⟨rfl, List.forall_mem_cons.mpr ⟨rfl, List.forall_mem_cons.mpr ⟨rfl, fun _ h => absurd h List.not_mem_nil⟩⟩⟩⟩) ?_
      exact hk75 _ _ _ _ _ h
    · have hc8 : ¬ ((x2) < (x5)) := of_decide_eq_false hc
      rw [if_neg hc8] at h
      refine px_D_st 5 (ip1 := 58) (ls1 := [(0, .inr (.inr 150)), (2, .inl (x2)), (3, .inl (x3)), (4, .inl (x4)), (5, .inl (x5))]) (st1 := [.inl (px_and (x3) ((px_xor (x5) ((-1)))))]) (h1 := (px_G1, s)) rfl ?_
      refine px_D_ifc rfl (fun hc => ?_) (fun hc => ?_)
      · have hc9 : (px_and (x3) ((px_xor (x5) ((-1))))) = (0) := of_decide_eq_true hc
        rw [if_pos hc9] at h
        refine px_D_st 2 (ip1 := 62) (ls1 := [(6, .inl (0)), (0, .inr (.inr 150)), (2, .inl (x2)), (3, .inl (x3)), (4, .inl (x4)), (5, .inl (x5))]) (st1 := []) (h1 := (px_G1, s)) rfl ?_
        refine px_D_ls [(0, .inr (.inr 150)), (2, .inl (x2)), (3, .inl (x3)), (4, .inl (x4)), (5, .inl (x5)), (6, .inl (0))] rfl rfl (List.forall_mem_cons.mpr ⟨rfl, List.forall_mem_cons.mpr ⟨rfl, List.forall_mem_cons.mpr ⟨rfl, List.forall_mem_cons.mpr ⟨rfl, List.forall_mem_cons.mpr ⟨rfl, List.forall_mem_cons.mpr ⟨rfl, fun _ h => absurd h List.not_mem_nil⟩⟩⟩⟩⟩⟩) ?_
        refine cl_M_findsLeast_62 ?_ px_big _ _ _ _ _ _ _ h
        · intro s x2 x3 x4 x5 out h
          refine px_D_st 2 (ip1 := 50) (ls1 := [(5, .inl (px_wr (x5 + 1))), (0, .inr (.inr 150)), (2, .inl (x2)), (3, .inl (x3)), (4, .inl (x4))]) (st1 := []) (h1 := (px_G1, s)) rfl ?_
          refine px_D_ls [(0, .inr (.inr 150)), (2, .inl (x2)), (3, .inl (x3)), (4, .inl (x4)), (5, .inl (px_wr (x5 + 1)))] rfl rfl (List.forall_mem_cons.mpr ⟨rfl, List.forall_mem_cons.mpr ⟨rfl, List.forall_mem_cons.mpr ⟨rfl, List.forall_mem_cons.mpr ⟨rfl, List.forall_mem_cons.mpr ⟨rfl, fun _ h => absurd h List.not_mem_nil⟩⟩⟩⟩⟩) ?_
          exact ih _ _ _ _ _ _ h
      · have hc9 : ¬ ((px_and (x3) ((px_xor (x5) ((-1))))) = (0)) := of_decide_eq_false hc
        rw [if_neg hc9] at h
        refine px_D_st 3 (ip1 := 50) (ls1 := [(5, .inl (px_wr (x5 + 1))), (0, .inr (.inr 150)), (2, .inl (x2)), (3, .inl (x3)), (4, .inl (x4))]) (st1 := []) (h1 := (px_G1, s)) rfl ?_
        refine px_D_ls [(0, .inr (.inr 150)), (2, .inl (x2)), (3, .inl (x3)), (4, .inl (x4)), (5, .inl (px_wr (x5 + 1)))] rfl rfl (List.forall_mem_cons.mpr ⟨rfl, List.forall_mem_cons.mpr ⟨rfl, List.forall_mem_cons.mpr ⟨rfl, List.forall_mem_cons.mpr ⟨rfl, List.forall_mem_cons.mpr ⟨rfl, fun _ h => absurd h List.not_mem_nil⟩⟩⟩⟩⟩) ?_
        exact ih _ _ _ _ _ _ h
def l_M_findsLeast_46  : Nat → px_Z → Int → Int → Int → Option (px_Z)
  | 0, _, _, _, _ => none
  | n + 1, s, x2, x3, x4 => if (x4) < (0) then some s else l_M_findsLeast_50 (fun s x2 x3 x4 => l_M_findsLeast_46  n s x2 x3 (px_wr (x4 + (-1)))) px_big s x2 x3 x4 0
set_option maxHeartbeats 4000000 in
set_option maxRecDepth 100000 in
theorem cl_M_findsLeast_46 {sc : List Int} {d : Nat}  : ∀ (n : Nat) (s : px_Z) (x2 : Int) (x3 : Int) (x4 : Int) (out : px_Z), l_M_findsLeast_46  n s x2 x3 x4 = some out → px_D sc (d + 8) 250 46 [(0, .inr (.inr 150)), (2, .inl (x2)), (3, .inl (x3)), (4, .inl (x4))] [] (px_G1, s) (px_Qv out) := by
  intro n
  induction n with
  | zero => intro s x2 x3 x4 out h; cases h
  | succ n ih =>
    intro s x2 x3 x4 out h
    rw [l_M_findsLeast_46] at h
    refine px_D_st 1 (ip1 := 47) (ls1 := [(0, .inr (.inr 150)), (2, .inl (x2)), (3, .inl (x3)), (4, .inl (x4))]) (st1 := [.inl (x4)]) (h1 := (px_G1, s)) rfl ?_
    refine px_D_ifc rfl (fun hc => ?_) (fun hc => ?_)
    · have hc7 : (x4) < (0) := of_decide_eq_true hc
      rw [if_pos hc7] at h
      cases h
      exact px_D_vret rfl ⟨rfl, rfl⟩
    · have hc7 : ¬ ((x4) < (0)) := of_decide_eq_false hc
      rw [if_neg hc7] at h
      refine px_D_st 2 (ip1 := 50) (ls1 := [(5, .inl (0)), (0, .inr (.inr 150)), (2, .inl (x2)), (3, .inl (x3)), (4, .inl (x4))]) (st1 := []) (h1 := (px_G1, s)) rfl ?_
      refine px_D_ls [(0, .inr (.inr 150)), (2, .inl (x2)), (3, .inl (x3)), (4, .inl (x4)), (5, .inl (0))] rfl rfl (List.forall_mem_cons.mpr ⟨rfl, List.forall_mem_cons.mpr ⟨rfl, List.forall_mem_cons.mpr ⟨rfl, List.forall_mem_cons.mpr ⟨rfl, List.forall_mem_cons.mpr ⟨rfl, fun _ h => absurd h List.not_mem_nil⟩⟩⟩⟩⟩) ?_
      refine cl_M_findsLeast_50 ?_ px_big _ _ _ _ _ _ h
      · intro s x2 x3 x4 out h
        refine px_D_st 2 (ip1 := 46) (ls1 := [(4, .inl (px_wr (x4 + (-1)))), (0, .inr (.inr 150)), (2, .inl (x2)), (3, .inl (x3))]) (st1 := []) (h1 := (px_G1, s)) rfl ?_
        refine px_D_ls [(0, .inr (.inr 150)), (2, .inl (x2)), (3, .inl (x3)), (4, .inl (px_wr (x4 + (-1))))] rfl rfl (List.forall_mem_cons.mpr ⟨rfl, List.forall_mem_cons.mpr ⟨rfl, List.forall_mem_cons.mpr ⟨rfl, List.forall_mem_cons.mpr ⟨rfl, fun _ h => absurd h List.not_mem_nil⟩⟩⟩⟩) ?_
        exact ih _ _ _ _ _ h
def f_M_findsLeast (s : px_Z) : Option (px_Z) := (f_M_homeSet s ).bind (fun q1 => l_M_findsLeast_15 (fun s x1 x2 x3 => l_M_findsLeast_46  px_big s x2 x3 (px_wr (x1 - 1))) px_big s (f_M_weeksLeft s ) (px_wr ((px_shl (1) ((s 150 6))) - 1)) q1 0)
set_option maxHeartbeats 4000000 in
set_option maxRecDepth 100000 in
theorem c_M_findsLeast {sc : List Int} {d : Nat} {s : px_Z} {out : px_Z} (h : f_M_findsLeast s  = some out) : px_D sc (d + 8) 250 0 [(0, .inr (.inr 150))] [] (px_G1, s) (px_Qv out) := by
  unfold f_M_findsLeast at h
  refine px_D_st 1 (ip1 := 1) (ls1 := [(0, .inr (.inr 150))]) (st1 := [.inr (.inr 150)]) (h1 := (px_G1, s)) rfl ?_
  refine px_D_call (as := [.inr (.inr 150)]) (rest := []) rfl rfl rfl rfl ?_
  refine px_D_mono (c_M_weeksLeft (d := d + 6) rfl) ?_
  rintro _ _ ⟨rfl, rfl⟩
  show px_D sc (d + 8) 250 2 [(0, .inr (.inr 150))] [.inl (f_M_weeksLeft s )] (px_G1, s) _
  refine px_D_st 9 (ip1 := 11) (ls1 := [(2, .inl (px_wr ((px_shl (1) ((s 150 6))) - 1))), (1, .inl (f_M_weeksLeft s )), (0, .inr (.inr 150))]) (st1 := [.inr (.inr 150)]) (h1 := (px_G1, s)) rfl ?_
  refine px_D_call (as := [.inr (.inr 150)]) (rest := []) rfl rfl rfl rfl ?_
  obtain ⟨q1, hq1, h⟩ := Option.bind_eq_some_iff.mp h
  refine px_D_mono (c_M_homeSet (d := d + 6) hq1) ?_
  rintro _ _ ⟨rfl, rfl⟩
  show px_D sc (d + 8) 250 12 [(2, .inl (px_wr ((px_shl (1) ((s 150 6))) - 1))), (1, .inl (f_M_weeksLeft s )), (0, .inr (.inr 150))] [.inl (q1)] (px_G1, s) _
  refine px_D_st 3 (ip1 := 15) (ls1 := [(4, .inl (0)), (3, .inl (q1)), (2, .inl (px_wr ((px_shl (1) ((s 150 6))) - 1))), (1, .inl (f_M_weeksLeft s )), (0, .inr (.inr 150))]) (st1 := []) (h1 := (px_G1, s)) rfl ?_
  refine px_D_ls [(0, .inr (.inr 150)), (1, .inl (f_M_weeksLeft s )), (2, .inl (px_wr ((px_shl (1) ((s 150 6))) - 1))), (3, .inl (q1)), (4, .inl (0))] rfl rfl (List.forall_mem_cons.mpr ⟨rfl, List.forall_mem_cons.mpr ⟨rfl, List.forall_mem_cons.mpr ⟨rfl, List.forall_mem_cons.mpr ⟨rfl, List.forall_mem_cons.mpr ⟨rfl, fun _ h => absurd h List.not_mem_nil⟩⟩⟩⟩⟩) ?_
  refine cl_M_findsLeast_15 ?_ px_big _ _ _ _ _ _ h
  · intro s x1 x2 x3 out h
    refine px_D_st 4 (ip1 := 46) (ls1 := [(4, .inl (px_wr (x1 - 1))), (0, .inr (.inr 150)), (1, .inl (x1)), (2, .inl (x2)), (3, .inl (x3))]) (st1 := []) (h1 := (px_G1, s)) rfl ?_
    refine px_D_ls [(0, .inr (.inr 150)), (2, .inl (x2)), (3, .inl (x3)), (4, .inl (px_wr (x1 - 1)))] rfl rfl (List.forall_mem_cons.mpr ⟨rfl, List.forall_mem_cons.mpr ⟨rfl, List.forall_mem_cons.mpr ⟨rfl, List.forall_mem_cons.mpr ⟨rfl, fun _ h => absurd h List.not_mem_nil⟩⟩⟩⟩) ?_
    refine cl_M_findsLeast_46  px_big _ _ _ _ _ h

def f_M_leastNow (s : px_Z) : Option (Int) := (f_M_homeSet s ).bind (fun q1 => if 0 ≤ (f_M_leastAt s 0 q1 (s 151 6)) ∧ (f_M_leastAt s 0 q1 (s 151 6)) < 142848 then some (s 176 (f_M_leastAt s 0 q1 (s 151 6)).toNat) else none)
set_option maxHeartbeats 4000000 in
set_option maxRecDepth 100000 in
theorem c_M_leastNow {sc : List Int} {d : Nat} {s : px_Z} {out : Int} (h : f_M_leastNow s  = some out) : px_D sc (d + 2) 251 0 [(0, .inr (.inr 150))] [] (px_G1, s) (px_Qp s out) := by
  unfold f_M_leastNow at h
  refine px_D_st 5 (ip1 := 5) (ls1 := [(0, .inr (.inr 150))]) (st1 := [.inr (.inr 150), .inl (0), .inr (.inr 150), .inr (.inr 176)]) (h1 := (px_G1, s)) rfl ?_
  refine px_D_call (as := [.inr (.inr 150)]) (rest := [.inl (0), .inr (.inr 150), .inr (.inr 176)]) rfl rfl rfl rfl ?_
  obtain ⟨q1, hq1, h⟩ := Option.bind_eq_some_iff.mp h
  refine px_D_mono (c_M_homeSet (d := d + 0) hq1) ?_
  rintro _ _ ⟨rfl, rfl⟩
  show px_D sc (d + 2) 251 6 [(0, .inr (.inr 150))] [.inl (q1), .inl (0), .inr (.inr 150), .inr (.inr 176)] (px_G1, s) _
  refine px_D_st 4 (ip1 := 10) (ls1 := [(0, .inr (.inr 150))]) (st1 := [.inl (s 151 6), .inl (q1), .inl (0), .inr (.inr 150), .inr (.inr 176)]) (h1 := (px_G1, s)) rfl ?_
  refine px_D_call (as := [.inr (.inr 150), .inl (0), .inl (q1), .inl (s 151 6)]) (rest := [.inr (.inr 176)]) rfl rfl rfl rfl ?_
  refine px_D_mono (c_M_leastAt (d := d + 1) rfl) ?_
  rintro _ _ ⟨rfl, rfl⟩
  show px_D sc (d + 2) 251 11 [(0, .inr (.inr 150))] [.inl (f_M_leastAt s 0 q1 (s 151 6)), .inr (.inr 176)] (px_G1, s) _
  by_cases hc2 : 0 ≤ (f_M_leastAt s 0 q1 (s 151 6)) ∧ (f_M_leastAt s 0 q1 (s 151 6)) < 142848
  case neg => rw [if_neg hc2] at h; cases h
  rw [if_pos hc2] at h
  refine px_D_iald (k := 171) (n := 142848) rfl rfl hc2 ?_
  cases h
  exact px_D_iret rfl rfl ⟨rfl, rfl⟩

def l_M_thingIn_22 (k49 : px_Z → Int → Int → Int → Int → Int → Option (Int × px_Z)) : Nat → px_Z → Int → Int → Int → Int → Int → Int → Option (Int × px_Z)
  | 0, _, _, _, _, _, _, _ => none
  | n + 1, s, x1, x2, x3, x4, x5, x6 => if (x6) < (0) then k49 s x1 x2 x3 x4 x5 else (f_M_canComeIn s x5 x6 x2).bind (fun q4 => if (q4) = (0) then l_M_thingIn_22 k49 n s x1 x2 x3 x4 x5 (px_wr (x6 + (-1))) else (f_M_byPaying s x5 x6 x2 x3).bind (fun q6 => if 0 ≤ (f_M_leastAt q6.2 x5 x2 x3) ∧ (f_M_leastAt q6.2 x5 x2 x3) < 142848 then if (q6.1) = (q6.2 176 (f_M_leastAt q6.2 x5 x2 x3).toNat) then l_M_thingIn_22 k49 n q6.2 x1 x2 x3 x6 x5 (px_wr (x6 + (-1))) else l_M_thingIn_22 k49 n q6.2 x1 x2 x3 x4 x5 (px_wr (x6 + (-1))) else none))
set_option maxHeartbeats 4000000 in
set_option maxRecDepth 100000 in
theorem cl_M_thingIn_22 {sc : List Int} {d : Nat} {k49 : px_Z → Int → Int → Int → Int → Int → Option (Int × px_Z)}  (hk49 : ∀ (s : px_Z) (y1 : Int) (y2 : Int) (y3 : Int) (y4 : Int) (y5 : Int) (out : Int × px_Z), k49 s y1 y2 y3 y4 y5 = some out → px_D sc (d + 7) 252 49 [(0, .inr (.inr 150)), (1, .inl (y1)), (2, .inl (y2)), (3, .inl (y3)), (4, .inl (y4)), (5, .inl (y5))] [] (px_G1, s) (px_Qi out)) : ∀ (n : Nat) (s : px_Z) (x1 : Int) (x2 : Int) (x3 : Int) (x4 : Int) (x5 : Int) (x6 : Int) (out : Int × px_Z), l_M_thingIn_22 k49 n s x1 x2 x3 x4 x5 x6 = some out → px_D sc (d + 7) 252 22 [(0, .inr (.inr 150)), (1, .inl (x1)), (2, .inl (x2)), (3, .inl (x3)), (4, .inl (x4)), (5, .inl (x5)), (6, .inl (x6))] [] (px_G1, s) (px_Qi out) := by
  intro n
  induction n with
  | zero => intro s x1 x2 x3 x4 x5 x6 out h; cases h
  | succ n ih =>
    intro s x1 x2 x3 x4 x5 x6 out h
    rw [l_M_thingIn_22] at h
    refine px_D_st 1 (ip1 := 23) (ls1 := [(0, .inr (.inr 150)), (1, .inl (x1)), (2, .inl (x2)), (3, .inl (x3)), (4, .inl (x4)), (5, .inl (x5)), (6, .inl (x6))]) (st1 := [.inl (x6)]) (h1 := (px_G1, s)) rfl ?_
    refine px_D_ifc rfl (fun hc => ?_) (fun hc => ?_)
    · have hc3 : (x6) < (0) := of_decide_eq_true hc
      rw [if_pos hc3] at h
      refine px_D_ls [(0, .inr (.inr 150)), (1, .inl (x1)), (2, .inl (x2)), (3, .inl (x3)), (4, .inl (x4)), (5, .inl (x5))] rfl rfl (List.forall_mem_cons.mpr ⟨rfl, List.forall_mem_cons.mpr ⟨rfl, List.forall_mem_cons.mpr ⟨rfl, List.forall_mem_cons.mpr ⟨rfl, List.forall_mem_cons.mpr ⟨rfl, List.forall_mem_cons.mpr ⟨rfl, fun _ h => absurd h List.not_mem_nil⟩⟩⟩⟩⟩⟩) ?_
      exact hk49 _ _ _ _ _ _ _ h
    · have hc3 : ¬ ((x6) < (0)) := of_decide_eq_false hc
      rw [if_neg hc3] at h
      refine px_D_st 4 (ip1 := 28) (ls1 := [(0, .inr (.inr 150)), (1, .inl (x1)), (2, .inl (x2)), (3, .inl (x3)), (4, .inl (x4)), (5, .inl (x5)), (6, .inl (x6))]) (st1 := [.inl (x2), .inl (x6), .inl (x5), .inr (.inr 150)]) (h1 := (px_G1, s)) rfl ?_
      refine px_D_call (as := [.inr (.inr 150), .inl (x5), .inl (x6), .inl (x2)]) (rest := []) rfl rfl rfl rfl ?_
      obtain ⟨q4, hq4, h⟩ := Option.bind_eq_some_iff.mp h
      refine px_D_mono (c_M_canComeIn (d := d + 3) hq4) ?_
      rintro _ _ ⟨rfl, rfl⟩
      show px_D sc (d + 7) 252 29 [(0, .inr (.inr 150)), (1, .inl (x1)), (2, .inl (x2)), (3, .inl (x3)), (4, .inl (x4)), (5, .inl (x5)), (6, .inl (x6))] [.inl (q4)] (px_G1, s) _
      refine px_D_ifc rfl (fun hc => ?_) (fun hc => ?_)
      · have hc5 : (q4) = (0) := of_decide_eq_true hc
        rw [if_pos hc5] at h
        refine px_D_st 2 (ip1 := 22) (ls1 := [(6, .inl (px_wr (x6 + (-1)))), (0, .inr (.inr 150)), (1, .inl (x1)), (2, .inl (x2)), (3, .inl (x3)), (4, .inl (x4)), (5, .inl (x5))]) (st1 := []) (h1 := (px_G1, s)) rfl ?_
        refine px_D_ls [(0, .inr (.inr 150)), (1, .inl (x1)), (2, .inl (x2)), (3, .inl (x3)), (4, .inl (x4)), (5, .inl (x5)), (6, .inl (px_wr (x6 + (-1))))] rfl rfl (List.forall_mem_cons.mpr ⟨rfl, List.forall_mem_cons.mpr ⟨rfl, List.forall_mem_cons.mpr ⟨rfl, List.forall_mem_cons.mpr ⟨rfl, List.forall_mem_cons.mpr ⟨rfl, List.forall_mem_cons.mpr ⟨rfl, List.forall_mem_cons.mpr ⟨rfl, fun _ h => absurd h List.not_mem_nil⟩⟩⟩⟩⟩⟩⟩) ?_
        exact ih _ _ _ _ _ _ _ _ h
      · have hc5 : ¬ ((q4) = (0)) := of_decide_eq_false hc
        rw [if_neg hc5] at h
        refine px_D_st 5 (ip1 := 35) (ls1 := [(0, .inr (.inr 150)), (1, .inl (x1)), (2, .inl (x2)), (3, .inl (x3)), (4, .inl (x4)), (5, .inl (x5)), (6, .inl (x6))]) (st1 := [.inl (x3), .inl (x2), .inl (x6), .inl (x5), .inr (.inr 150)]) (h1 := (px_G1, s)) rfl ?_
        refine px_D_call (as := [.inr (.inr 150), .inl (x5), .inl (x6), .inl (x2), .inl (x3)]) (rest := []) rfl rfl rfl rfl ?_
        obtain ⟨q6, hq6, h⟩ := Option.bind_eq_some_iff.mp h
        refine px_D_mono (c_M_byPaying (d := d + 0) hq6) ?_
        rintro _ _ ⟨rfl, rfl⟩
        show px_D sc (d + 7) 252 36 [(0, .inr (.inr 150)), (1, .inl (x1)), (2, .inl (x2)), (3, .inl (x3)), (4, .inl (x4)), (5, .inl (x5)), (6, .inl (x6))] [.inl (q6.1)] (px_G1, q6.2) _
        refine px_D_st 6 (ip1 := 42) (ls1 := [(0, .inr (.inr 150)), (1, .inl (x1)), (2, .inl (x2)), (3, .inl (x3)), (4, .inl (x4)), (5, .inl (x5)), (6, .inl (x6))]) (st1 := [.inl (x3), .inl (x2), .inl (x5), .inr (.inr 150), .inr (.inr 176), .inl (q6.1)]) (h1 := (px_G1, q6.2)) rfl ?_
        refine px_D_call (as := [.inr (.inr 150), .inl (x5), .inl (x2), .inl (x3)]) (rest := [.inr (.inr 176), .inl (q6.1)]) rfl rfl rfl rfl ?_
        refine px_D_mono (c_M_leastAt (d := d + 6) rfl) ?_
        rintro _ _ ⟨rfl, rfl⟩
        show px_D sc (d + 7) 252 43 [(0, .inr (.inr 150)), (1, .inl (x1)), (2, .inl (x2)), (3, .inl (x3)), (4, .inl (x4)), (5, .inl (x5)), (6, .inl (x6))] [.inl (f_M_leastAt q6.2 x5 x2 x3), .inr (.inr 176), .inl (q6.1)] (px_G1, q6.2) _
        by_cases hc7 : 0 ≤ (f_M_leastAt q6.2 x5 x2 x3) ∧ (f_M_leastAt q6.2 x5 x2 x3) < 142848
        case neg => rw [if_neg hc7] at h; cases h
        rw [if_pos hc7] at h
        refine px_D_iald (k := 171) (n := 142848) rfl rfl hc7 ?_
        refine px_D_icmp rfl (fun hc => ?_) (fun hc => ?_)
        · have hc8 : ¬ ((q6.1) = (q6.2 176 (f_M_leastAt q6.2 x5 x2 x3).toNat)) := of_decide_eq_true hc
          rw [if_neg hc8] at h
          refine px_D_st 2 (ip1 := 22) (ls1 := [(6, .inl (px_wr (x6 + (-1)))), (0, .inr (.inr 150)), (1, .inl (x1)), (2, .inl (x2)), (3, .inl (x3)), (4, .inl (x4)), (5, .inl (x5))]) (st1 := []) (h1 := (px_G1, q6.2)) rfl ?_
          refine px_D_ls [(0, .inr (.inr 150)), (1, .inl (x1)), (2, .inl (x2)), (3, .inl (x3)), (4, .inl (x4)), (5, .inl (x5)), (6, .inl (px_wr (x6 + (-1))))] rfl rfl (List.forall_mem_cons.mpr ⟨rfl, List.forall_mem_cons.mpr ⟨rfl, List.forall_mem_cons.mpr ⟨rfl, List.forall_mem_cons.mpr ⟨rfl, List.forall_mem_cons.mpr ⟨rfl, List.forall_mem_cons.mpr ⟨rfl, List.forall_mem_cons.mpr ⟨rfl, fun _ h => absurd h List.not_mem_nil⟩⟩⟩⟩⟩⟩⟩) ?_
          exact ih _ _ _ _ _ _ _ _ h
        · have hc8 : (q6.1) = (q6.2 176 (f_M_leastAt q6.2 x5 x2 x3).toNat) := Decidable.of_not_not (of_decide_eq_false hc)
          rw [if_pos hc8] at h
          refine px_D_st 4 (ip1 := 22) (ls1 := [(6, .inl (px_wr (x6 + (-1)))), (4, .inl (x6)), (0, .inr (.inr 150)), (1, .inl (x1)), (2, .inl (x2)), (3, .inl (x3)), (5, .inl (x5))]) (st1 := []) (h1 := (px_G1, q6.2)) rfl ?_
          refine px_D_ls [(0, .inr (.inr 150)), (1, .inl (x1)), (2, .inl (x2)), (3, .inl (x3)), (4, .inl (x6)), (5, .inl (x5)), (6, .inl (px_wr (x6 + (-1))))] rfl rfl (List.forall_mem_cons.mpr ⟨rfl, List.forall_mem_cons.mpr ⟨rfl, List.forall_mem_cons.mpr ⟨rfl, List.forall_mem_cons.mpr ⟨rfl, List.forall_mem_cons.mpr ⟨rfl, List.forall_mem_cons.mpr ⟨rfl, List.forall_mem_cons.mpr ⟨rfl, fun _ h => absurd h List.not_mem_nil⟩⟩⟩⟩⟩⟩⟩) ?_
          exact ih _ _ _ _ _ _ _ _ h
def l_M_thingIn_12  : Nat → px_Z → Int → Int → Int → Int → Int → Option (Int × px_Z)
  | 0, _, _, _, _, _, _ => none
  | n + 1, s, x1, x2, x3, x4, x5 => if (x1) < (x5) then some (x4, s) else l_M_thingIn_22 (fun s x1 x2 x3 x4 x5 => if (x4) = ((-1)) then l_M_thingIn_12  n s x1 x2 x3 x4 (px_wr (x5 + 1)) else l_M_thingIn_12  n s x1 (px_or (x2) ((px_shl (1) (x4)))) (px_wr (x4 + 1)) x4 (px_wr (x5 + 1))) px_big s x1 x2 x3 (-1) x5 (px_wr ((s 150 6) - 1))
set_option maxHeartbeats 4000000 in
set_option maxRecDepth 100000 in
theorem cl_M_thingIn_12 {sc : List Int} {d : Nat}  : ∀ (n : Nat) (s : px_Z) (x1 : Int) (x2 : Int) (x3 : Int) (x4 : Int) (x5 : Int) (out : Int × px_Z), l_M_thingIn_12  n s x1 x2 x3 x4 x5 = some out → px_D sc (d + 7) 252 12 [(0, .inr (.inr 150)), (1, .inl (x1)), (2, .inl (x2)), (3, .inl (x3)), (4, .inl (x4)), (5, .inl (x5))] [] (px_G1, s) (px_Qi out) := by
  intro n
  induction n with
  | zero => intro s x1 x2 x3 x4 x5 out h; cases h
  | succ n ih =>
    intro s x1 x2 x3 x4 x5 out h
    rw [l_M_thingIn_12] at h
    refine px_D_st 2 (ip1 := 14) (ls1 := [(0, .inr (.inr 150)), (1, .inl (x1)), (2, .inl (x2)), (3, .inl (x3)), (4, .inl (x4)), (5, .inl (x5))]) (st1 := [.inl (x1), .inl (x5)]) (h1 := (px_G1, s)) rfl ?_
    refine px_D_icmp rfl (fun hc => ?_) (fun hc => ?_)
    · have hc2 : (x1) < (x5) := of_decide_eq_true hc
      rw [if_pos hc2] at h
      refine px_D_st 1 (ip1 := 66) (ls1 := [(0, .inr (.inr 150)), (1, .inl (x1)), (2, .inl (x2)), (3, .inl (x3)), (4, .inl (x4)), (5, .inl (x5))]) (st1 := [.inl (x4)]) (h1 := (px_G1, s)) rfl ?_
      cases h
      exact px_D_iret rfl rfl ⟨rfl, rfl⟩
    · have hc2 : ¬ ((x1) < (x5)) := of_decide_eq_false hc
      rw [if_neg hc2] at h
      refine px_D_st 7 (ip1 := 22) (ls1 := [(6, .inl (px_wr ((s 150 6) - 1))), (4, .inl ((-1))), (0, .inr (.inr 150)), (1, .inl (x1)), (2, .inl (x2)), (3, .inl (x3)), (5, .inl (x5))]) (st1 := []) (h1 := (px_G1, s)) rfl ?_
      refine px_D_ls [(0, .inr (.inr 150)), (1, .inl (x1)), (2, .inl (x2)), (3, .inl (x3)), (4, .inl ((-1))), (5, .inl (x5)), (6, .inl (px_wr ((s 150 6) - 1)))] rfl rfl (List.forall_mem_cons.mpr ⟨rfl, List.forall_mem_cons.mpr ⟨rfl, List.forall_mem_cons.mpr ⟨rfl, List.forall_mem_cons.mpr ⟨rfl, List.forall_mem_cons.mpr ⟨rfl, List.forall_mem_cons.mpr ⟨rfl, List.forall_mem_cons.mpr ⟨rfl, fun _ h => absurd h List.not_mem_nil⟩⟩⟩⟩⟩⟩⟩) ?_
      refine cl_M_thingIn_22 ?_ px_big _ _ _ _ _ _ _ _ h
      · intro s x1 x2 x3 x4 x5 out h
        refine px_D_st 2 (ip1 := 51) (ls1 := [(0, .inr (.inr 150)), (1, .inl (x1)), (2, .inl (x2)), (3, .inl (x3)), (4, .inl (x4)), (5, .inl (x5))]) (st1 := [.inl ((-1)), .inl (x4)]) (h1 := (px_G1, s)) rfl ?_
        refine px_D_icmp rfl (fun hc => ?_) (fun hc => ?_)
        · have hc9 : ¬ ((x4) = ((-1))) := of_decide_eq_true hc
          rw [if_neg hc9] at h
          refine px_D_st 12 (ip1 := 12) (ls1 := [(5, .inl (px_wr (x5 + 1))), (3, .inl (px_wr (x4 + 1))), (2, .inl (px_or (x2) ((px_shl (1) (x4))))), (0, .inr (.inr 150)), (1, .inl (x1)), (4, .inl (x4))]) (st1 := []) (h1 := (px_G1, s)) rfl ?_
          refine px_D_ls [(0, .inr (.inr 150)), (1, .inl (x1)), (2, .inl (px_or (x2) ((px_shl (1) (x4))))), (3, .inl (px_wr (x4 + 1))), (4, .inl (x4)), (5, .inl (px_wr (x5 + 1)))] rfl rfl (List.forall_mem_cons.mpr ⟨rfl, List.forall_mem_cons.mpr ⟨rfl, List.forall_mem_cons.mpr ⟨rfl, List.forall_mem_cons.mpr ⟨rfl, List.forall_mem_cons.mpr ⟨rfl, List.forall_mem_cons.mpr ⟨rfl, fun _ h => absurd h List.not_mem_nil⟩⟩⟩⟩⟩⟩) ?_
          exact ih _ _ _ _ _ _ _ h
        · have hc9 : (x4) = ((-1)) := Decidable.of_not_not (of_decide_eq_false hc)
          rw [if_pos hc9] at h
          refine px_D_st 3 (ip1 := 12) (ls1 := [(5, .inl (px_wr (x5 + 1))), (0, .inr (.inr 150)), (1, .inl (x1)), (2, .inl (x2)), (3, .inl (x3)), (4, .inl (x4))]) (st1 := []) (h1 := (px_G1, s)) rfl ?_
          refine px_D_ls [(0, .inr (.inr 150)), (1, .inl (x1)), (2, .inl (x2)), (3, .inl (x3)), (4, .inl (x4)), (5, .inl (px_wr (x5 + 1)))] rfl rfl (List.forall_mem_cons.mpr ⟨rfl, List.forall_mem_cons.mpr ⟨rfl, List.forall_mem_cons.mpr ⟨rfl, List.forall_mem_cons.mpr ⟨rfl, List.forall_mem_cons.mpr ⟨rfl, List.forall_mem_cons.mpr ⟨rfl, fun _ h => absurd h List.not_mem_nil⟩⟩⟩⟩⟩⟩) ?_
          exact ih _ _ _ _ _ _ _ h
def f_M_thingIn (s : px_Z) (x1 : Int) : Option (Int × px_Z) := (f_M_homeSet s ).bind (fun q1 => l_M_thingIn_12  px_big s x1 q1 (s 151 6) (-1) 0)
set_option maxHeartbeats 4000000 in
set_option maxRecDepth 100000 in
theorem c_M_thingIn {sc : List Int} {d : Nat} {s : px_Z} {x1 : Int} {out : Int × px_Z} (h : f_M_thingIn s x1 = some out) : px_D sc (d + 7) 252 0 [(0, .inr (.inr 150)), (1, .inl (x1))] [] (px_G1, s) (px_Qi out) := by
  unfold f_M_thingIn at h
  refine px_D_st 1 (ip1 := 1) (ls1 := [(0, .inr (.inr 150)), (1, .inl (x1))]) (st1 := [.inr (.inr 150)]) (h1 := (px_G1, s)) rfl ?_
  refine px_D_call (as := [.inr (.inr 150)]) (rest := []) rfl rfl rfl rfl ?_
  obtain ⟨q1, hq1, h⟩ := Option.bind_eq_some_iff.mp h
  refine px_D_mono (c_M_homeSet (d := d + 5) hq1) ?_
  rintro _ _ ⟨rfl, rfl⟩
  show px_D sc (d + 7) 252 2 [(0, .inr (.inr 150)), (1, .inl (x1))] [.inl (q1)] (px_G1, s) _
  refine px_D_st 10 (ip1 := 12) (ls1 := [(5, .inl (0)), (4, .inl ((-1))), (3, .inl (s 151 6)), (2, .inl (q1)), (0, .inr (.inr 150)), (1, .inl (x1))]) (st1 := []) (h1 := (px_G1, s)) rfl ?_
  refine px_D_ls [(0, .inr (.inr 150)), (1, .inl (x1)), (2, .inl (q1)), (3, .inl (s 151 6)), (4, .inl ((-1))), (5, .inl (0))] rfl rfl (List.forall_mem_cons.mpr ⟨rfl, List.forall_mem_cons.mpr ⟨rfl, List.forall_mem_cons.mpr ⟨rfl, List.forall_mem_cons.mpr ⟨rfl, List.forall_mem_cons.mpr ⟨rfl, List.forall_mem_cons.mpr ⟨rfl, fun _ h => absurd h List.not_mem_nil⟩⟩⟩⟩⟩⟩) ?_
  refine cl_M_thingIn_12  px_big _ _ _ _ _ _ _ h
